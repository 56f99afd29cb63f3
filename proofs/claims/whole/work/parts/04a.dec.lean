theorem dX8_init_0 : decode cX8_init 0 = .ok (.aload_n 0, 1) := by decide +kernel
theorem dX8_init_1 : decode cX8_init 1 = .ok (.invokespecial 1, 3) := by decide +kernel
theorem dX8_init_4 : decode cX8_init 4 = .ok (.aload_n 0, 1) := by decide +kernel
theorem dX8_init_5 : decode cX8_init 5 = .ok (.sipush 535, 3) := by decide +kernel
theorem dX8_init_8 : decode cX8_init 8 = .ok (.newarray .int, 2) := by decide +kernel
theorem dX8_init_10 : decode cX8_init 10 = .ok (.putfield 9, 3) := by decide +kernel
theorem dX8_init_13 : decode cX8_init 13 = .ok (.aload_n 0, 1) := by decide +kernel
theorem dX8_init_14 : decode cX8_init 14 = .ok (.sipush 535, 3) := by decide +kernel
theorem dX8_init_17 : decode cX8_init 17 = .ok (.newarray .int, 2) := by decide +kernel
theorem dX8_init_19 : decode cX8_init 19 = .ok (.putfield 13, 3) := by decide +kernel
theorem dX8_init_22 : decode cX8_init 22 = .ok (.aload_n 0, 1) := by decide +kernel
theorem dX8_init_23 : decode cX8_init 23 = .ok (.sipush 535, 3) := by decide +kernel
theorem dX8_init_26 : decode cX8_init 26 = .ok (.newarray .int, 2) := by decide +kernel
theorem dX8_init_28 : decode cX8_init 28 = .ok (.putfield 16, 3) := by decide +kernel
theorem dX8_init_31 : decode cX8_init 31 = .ok (.aload_n 0, 1) := by decide +kernel
theorem dX8_init_32 : decode cX8_init 32 = .ok (.bipush 18, 2) := by decide +kernel
theorem dX8_init_34 : decode cX8_init 34 = .ok (.newarray .int, 2) := by decide +kernel
theorem dX8_init_36 : decode cX8_init 36 = .ok (.putfield 19, 3) := by decide +kernel
theorem dX8_init_39 : decode cX8_init 39 = .ok (.aload_n 0, 1) := by decide +kernel
theorem dX8_init_40 : decode cX8_init 40 = .ok (.bipush 8, 2) := by decide +kernel
theorem dX8_init_42 : decode cX8_init 42 = .ok (.newarray .int, 2) := by decide +kernel
theorem dX8_init_44 : decode cX8_init 44 = .ok (.putfield 22, 3) := by decide +kernel
theorem dX8_init_47 : decode cX8_init 47 = .ok (.aload_n 0, 1) := by decide +kernel
theorem dX8_init_48 : decode cX8_init 48 = .ok (.bipush 8, 2) := by decide +kernel
theorem dX8_init_50 : decode cX8_init 50 = .ok (.newarray .int, 2) := by decide +kernel
theorem dX8_init_52 : decode cX8_init 52 = .ok (.putfield 25, 3) := by decide +kernel
theorem dX8_init_55 : decode cX8_init 55 = .ok (.aload_n 0, 1) := by decide +kernel
theorem dX8_init_56 : decode cX8_init 56 = .ok (.bipush 8, 2) := by decide +kernel
theorem dX8_init_58 : decode cX8_init 58 = .ok (.newarray .int, 2) := by decide +kernel
theorem dX8_init_60 : decode cX8_init 60 = .ok (.putfield 28, 3) := by decide +kernel
theorem dX8_init_63 : decode cX8_init 63 = .ok (.aload_n 0, 1) := by decide +kernel
theorem dX8_init_64 : decode cX8_init 64 = .ok (.sipush 800, 3) := by decide +kernel
theorem dX8_init_67 : decode cX8_init 67 = .ok (.newarray .int, 2) := by decide +kernel
theorem dX8_init_69 : decode cX8_init 69 = .ok (.putfield 31, 3) := by decide +kernel
theorem dX8_init_72 : decode cX8_init 72 = .ok (.aload_n 0, 1) := by decide +kernel
theorem dX8_init_73 : decode cX8_init 73 = .ok (.bipush 8, 2) := by decide +kernel
theorem dX8_init_75 : decode cX8_init 75 = .ok (.newarray .int, 2) := by decide +kernel
theorem dX8_init_77 : decode cX8_init 77 = .ok (.putfield 34, 3) := by decide +kernel
theorem dX8_init_80 : decode cX8_init 80 = .ok (.aload_n 0, 1) := by decide +kernel
theorem dX8_init_81 : decode cX8_init 81 = .ok (.bipush 8, 2) := by decide +kernel
theorem dX8_init_83 : decode cX8_init 83 = .ok (.newarray .int, 2) := by decide +kernel
theorem dX8_init_85 : decode cX8_init 85 = .ok (.putfield 37, 3) := by decide +kernel
theorem dX8_init_88 : decode cX8_init 88 = .ok (.aload_n 0, 1) := by decide +kernel
theorem dX8_init_89 : decode cX8_init 89 = .ok (.iconst 5, 1) := by decide +kernel
theorem dX8_init_90 : decode cX8_init 90 = .ok (.newarray .int, 2) := by decide +kernel
theorem dX8_init_92 : decode cX8_init 92 = .ok (.putfield 40, 3) := by decide +kernel
theorem dX8_init_95 : decode cX8_init 95 = .ok (.aload_n 0, 1) := by decide +kernel
theorem dX8_init_96 : decode cX8_init 96 = .ok (.bipush 24, 2) := by decide +kernel
theorem dX8_init_98 : decode cX8_init 98 = .ok (.newarray .int, 2) := by decide +kernel
theorem dX8_init_100 : decode cX8_init 100 = .ok (.putfield 43, 3) := by decide +kernel
theorem dX8_init_103 : decode cX8_init 103 = .ok (.aload_n 0, 1) := by decide +kernel
theorem dX8_init_104 : decode cX8_init 104 = .ok (.bipush 100, 2) := by decide +kernel
theorem dX8_init_106 : decode cX8_init 106 = .ok (.newarray .int, 2) := by decide +kernel
theorem dX8_init_108 : decode cX8_init 108 = .ok (.putfield 46, 3) := by decide +kernel
theorem dX8_init_111 : decode cX8_init 111 = .ok (.aload_n 0, 1) := by decide +kernel
theorem dX8_init_112 : decode cX8_init 112 = .ok (.getfield 9, 3) := by decide +kernel
theorem dX8_init_115 : decode cX8_init 115 = .ok (.iconst 3, 1) := by decide +kernel
theorem dX8_init_116 : decode cX8_init 116 = .ok (.bipush (-4), 2) := by decide +kernel
theorem dX8_init_118 : decode cX8_init 118 = .ok (.iastore, 1) := by decide +kernel
theorem dX8_init_119 : decode cX8_init 119 = .ok (.return_, 1) := by decide +kernel
theorem dX8_thrown_0 : decode cX8_thrown 0 = .ok (.aload_n 0, 1) := by decide +kernel
theorem dX8_thrown_1 : decode cX8_thrown 1 = .ok (.getfield 49, 3) := by decide +kernel
theorem dX8_thrown_4 : decode cX8_thrown 4 = .ok (.ireturn, 1) := by decide +kernel
theorem dX8_isIn_0 : decode cX8_isIn 0 = .ok (.lload_n 0, 1) := by decide +kernel
theorem dX8_isIn_1 : decode cX8_isIn 1 = .ok (.lload_n 2, 1) := by decide +kernel
theorem dX8_isIn_2 : decode cX8_isIn 2 = .ok (.lcmp, 1) := by decide +kernel
theorem dX8_isIn_3 : decode cX8_isIn 3 = .ok (.ifCond .lt 14, 3) := by decide +kernel
theorem dX8_isIn_6 : decode cX8_isIn 6 = .ok (.lload_n 0, 1) := by decide +kernel
theorem dX8_isIn_7 : decode cX8_isIn 7 = .ok (.lload 4, 2) := by decide +kernel
theorem dX8_isIn_9 : decode cX8_isIn 9 = .ok (.lcmp, 1) := by decide +kernel
theorem dX8_isIn_10 : decode cX8_isIn 10 = .ok (.ifCond .gt 7, 3) := by decide +kernel
theorem dX8_isIn_13 : decode cX8_isIn 13 = .ok (.iconst 1, 1) := by decide +kernel
theorem dX8_isIn_14 : decode cX8_isIn 14 = .ok (.goto 4, 3) := by decide +kernel
theorem dX8_isIn_17 : decode cX8_isIn 17 = .ok (.iconst 0, 1) := by decide +kernel
theorem dX8_isIn_18 : decode cX8_isIn 18 = .ok (.ireturn, 1) := by decide +kernel
theorem dX8_isPiece_0 : decode cX8_isPiece 0 = .ok (.iload_n 1, 1) := by decide +kernel
theorem dX8_isPiece_1 : decode cX8_isPiece 1 = .ok (.i2l, 1) := by decide +kernel
theorem dX8_isPiece_2 : decode cX8_isPiece 2 = .ok (.lconst 0, 1) := by decide +kernel
theorem dX8_isPiece_3 : decode cX8_isPiece 3 = .ok (.aload_n 0, 1) := by decide +kernel
theorem dX8_isPiece_4 : decode cX8_isPiece 4 = .ok (.getfield 9, 3) := by decide +kernel
theorem dX8_isPiece_7 : decode cX8_isPiece 7 = .ok (.iconst 0, 1) := by decide +kernel
theorem dX8_isPiece_8 : decode cX8_isPiece 8 = .ok (.iaload, 1) := by decide +kernel
theorem dX8_isPiece_9 : decode cX8_isPiece 9 = .ok (.iconst 1, 1) := by decide +kernel
theorem dX8_isPiece_10 : decode cX8_isPiece 10 = .ok (.isub, 1) := by decide +kernel
theorem dX8_isPiece_11 : decode cX8_isPiece 11 = .ok (.i2l, 1) := by decide +kernel
theorem dX8_isPiece_12 : decode cX8_isPiece 12 = .ok (.invokestatic 53, 3) := by decide +kernel
theorem dX8_isPiece_15 : decode cX8_isPiece 15 = .ok (.ireturn, 1) := by decide +kernel
theorem dX8_isThing_0 : decode cX8_isThing 0 = .ok (.iload_n 1, 1) := by decide +kernel
theorem dX8_isThing_1 : decode cX8_isThing 1 = .ok (.i2l, 1) := by decide +kernel
theorem dX8_isThing_2 : decode cX8_isThing 2 = .ok (.lconst 0, 1) := by decide +kernel
theorem dX8_isThing_3 : decode cX8_isThing 3 = .ok (.aload_n 0, 1) := by decide +kernel
theorem dX8_isThing_4 : decode cX8_isThing 4 = .ok (.getfield 9, 3) := by decide +kernel
theorem dX8_isThing_7 : decode cX8_isThing 7 = .ok (.iconst 1, 1) := by decide +kernel
theorem dX8_isThing_8 : decode cX8_isThing 8 = .ok (.iaload, 1) := by decide +kernel
theorem dX8_isThing_9 : decode cX8_isThing 9 = .ok (.iconst 1, 1) := by decide +kernel
theorem dX8_isThing_10 : decode cX8_isThing 10 = .ok (.isub, 1) := by decide +kernel
theorem dX8_isThing_11 : decode cX8_isThing 11 = .ok (.i2l, 1) := by decide +kernel
theorem dX8_isThing_12 : decode cX8_isThing 12 = .ok (.invokestatic 53, 3) := by decide +kernel
theorem dX8_isThing_15 : decode cX8_isThing 15 = .ok (.ireturn, 1) := by decide +kernel
theorem dX8_isShelf_0 : decode cX8_isShelf 0 = .ok (.iload_n 0, 1) := by decide +kernel
theorem dX8_isShelf_1 : decode cX8_isShelf 1 = .ok (.i2l, 1) := by decide +kernel
theorem dX8_isShelf_2 : decode cX8_isShelf 2 = .ok (.lconst 0, 1) := by decide +kernel
theorem dX8_isShelf_3 : decode cX8_isShelf 3 = .ok (.ldc2_w 57, 3) := by decide +kernel
theorem dX8_isShelf_6 : decode cX8_isShelf 6 = .ok (.invokestatic 53, 3) := by decide +kernel
theorem dX8_isShelf_9 : decode cX8_isShelf 9 = .ok (.ireturn, 1) := by decide +kernel
theorem dX8_isTone_0 : decode cX8_isTone 0 = .ok (.iload_n 0, 1) := by decide +kernel
theorem dX8_isTone_1 : decode cX8_isTone 1 = .ok (.i2l, 1) := by decide +kernel
theorem dX8_isTone_2 : decode cX8_isTone 2 = .ok (.lconst 1, 1) := by decide +kernel
theorem dX8_isTone_3 : decode cX8_isTone 3 = .ok (.ldc2_w 59, 3) := by decide +kernel
theorem dX8_isTone_6 : decode cX8_isTone 6 = .ok (.invokestatic 53, 3) := by decide +kernel
theorem dX8_isTone_9 : decode cX8_isTone 9 = .ok (.ireturn, 1) := by decide +kernel
theorem dX8_isStrong_0 : decode cX8_isStrong 0 = .ok (.iload_n 0, 1) := by decide +kernel
theorem dX8_isStrong_1 : decode cX8_isStrong 1 = .ok (.i2l, 1) := by decide +kernel
theorem dX8_isStrong_2 : decode cX8_isStrong 2 = .ok (.lconst 1, 1) := by decide +kernel
theorem dX8_isStrong_3 : decode cX8_isStrong 3 = .ok (.ldc2_w 61, 3) := by decide +kernel
theorem dX8_isStrong_6 : decode cX8_isStrong 6 = .ok (.invokestatic 53, 3) := by decide +kernel
theorem dX8_isStrong_9 : decode cX8_isStrong 9 = .ok (.ireturn, 1) := by decide +kernel
theorem dX8_get_0 : decode cX8_get 0 = .ok (.aload_n 0, 1) := by decide +kernel
theorem dX8_get_1 : decode cX8_get 1 = .ok (.getfield 9, 3) := by decide +kernel
theorem dX8_get_4 : decode cX8_get 4 = .ok (.bipush 8, 2) := by decide +kernel
theorem dX8_get_6 : decode cX8_get 6 = .ok (.bipush 6, 2) := by decide +kernel
theorem dX8_get_8 : decode cX8_get 8 = .ok (.iload_n 1, 1) := by decide +kernel
theorem dX8_get_9 : decode cX8_get 9 = .ok (.imul, 1) := by decide +kernel
theorem dX8_get_10 : decode cX8_get 10 = .ok (.iadd, 1) := by decide +kernel
theorem dX8_get_11 : decode cX8_get 11 = .ok (.iload_n 2, 1) := by decide +kernel
theorem dX8_get_12 : decode cX8_get 12 = .ok (.iadd, 1) := by decide +kernel
theorem dX8_get_13 : decode cX8_get 13 = .ok (.iaload, 1) := by decide +kernel
theorem dX8_get_14 : decode cX8_get 14 = .ok (.ireturn, 1) := by decide +kernel
theorem dX8_of_0 : decode cX8_of 0 = .ok (.aload_n 0, 1) := by decide +kernel
theorem dX8_of_1 : decode cX8_of 1 = .ok (.getfield 9, 3) := by decide +kernel
theorem dX8_of_4 : decode cX8_of 4 = .ok (.bipush 68, 2) := by decide +kernel
theorem dX8_of_6 : decode cX8_of 6 = .ok (.iconst 5, 1) := by decide +kernel
theorem dX8_of_7 : decode cX8_of 7 = .ok (.iload_n 1, 1) := by decide +kernel
theorem dX8_of_8 : decode cX8_of 8 = .ok (.imul, 1) := by decide +kernel
theorem dX8_of_9 : decode cX8_of 9 = .ok (.iadd, 1) := by decide +kernel
theorem dX8_of_10 : decode cX8_of 10 = .ok (.iload_n 2, 1) := by decide +kernel
theorem dX8_of_11 : decode cX8_of 11 = .ok (.iadd, 1) := by decide +kernel
theorem dX8_of_12 : decode cX8_of 12 = .ok (.iaload, 1) := by decide +kernel
theorem dX8_of_13 : decode cX8_of 13 = .ok (.ireturn, 1) := by decide +kernel
theorem dX8_amount_0 : decode cX8_amount 0 = .ok (.iload_n 0, 1) := by decide +kernel
theorem dX8_amount_1 : decode cX8_amount 1 = .ok (.ifCond .ge 8, 3) := by decide +kernel
theorem dX8_amount_4 : decode cX8_amount 4 = .ok (.iload_n 0, 1) := by decide +kernel
theorem dX8_amount_5 : decode cX8_amount 5 = .ok (.ineg, 1) := by decide +kernel
theorem dX8_amount_6 : decode cX8_amount 6 = .ok (.goto 4, 3) := by decide +kernel
theorem dX8_amount_9 : decode cX8_amount 9 = .ok (.iload_n 0, 1) := by decide +kernel
theorem dX8_amount_10 : decode cX8_amount 10 = .ok (.ireturn, 1) := by decide +kernel
theorem dX8_held_0 : decode cX8_held 0 = .ok (.iload_n 0, 1) := by decide +kernel
theorem dX8_held_1 : decode cX8_held 1 = .ok (.iload_n 1, 1) := by decide +kernel
theorem dX8_held_2 : decode cX8_held 2 = .ok (.if_icmp .ge 7, 3) := by decide +kernel
theorem dX8_held_5 : decode cX8_held 5 = .ok (.iload_n 1, 1) := by decide +kernel
theorem dX8_held_6 : decode cX8_held 6 = .ok (.goto 13, 3) := by decide +kernel
theorem dX8_held_9 : decode cX8_held 9 = .ok (.iload_n 0, 1) := by decide +kernel
theorem dX8_held_10 : decode cX8_held 10 = .ok (.iload_n 2, 1) := by decide +kernel
theorem dX8_held_11 : decode cX8_held 11 = .ok (.if_icmp .le 7, 3) := by decide +kernel
theorem dX8_held_14 : decode cX8_held 14 = .ok (.iload_n 2, 1) := by decide +kernel
theorem dX8_held_15 : decode cX8_held 15 = .ok (.goto 4, 3) := by decide +kernel
theorem dX8_held_18 : decode cX8_held 18 = .ok (.iload_n 0, 1) := by decide +kernel
theorem dX8_held_19 : decode cX8_held 19 = .ok (.ireturn, 1) := by decide +kernel
theorem dX8_becomes_0 : decode cX8_becomes 0 = .ok (.aload_n 0, 1) := by decide +kernel
theorem dX8_becomes_1 : decode cX8_becomes 1 = .ok (.getfield 9, 3) := by decide +kernel
theorem dX8_becomes_4 : decode cX8_becomes 4 = .ok (.iload_n 1, 1) := by decide +kernel
theorem dX8_becomes_5 : decode cX8_becomes 5 = .ok (.iaload, 1) := by decide +kernel
theorem dX8_becomes_6 : decode cX8_becomes 6 = .ok (.istore_n 3, 1) := by decide +kernel
theorem dX8_becomes_7 : decode cX8_becomes 7 = .ok (.aload_n 0, 1) := by decide +kernel
theorem dX8_becomes_8 : decode cX8_becomes 8 = .ok (.getfield 9, 3) := by decide +kernel
theorem dX8_becomes_11 : decode cX8_becomes 11 = .ok (.iload_n 1, 1) := by decide +kernel
theorem dX8_becomes_12 : decode cX8_becomes 12 = .ok (.iload_n 2, 1) := by decide +kernel
theorem dX8_becomes_13 : decode cX8_becomes 13 = .ok (.iastore, 1) := by decide +kernel
theorem dX8_becomes_14 : decode cX8_becomes 14 = .ok (.iload_n 3, 1) := by decide +kernel
theorem dX8_becomes_15 : decode cX8_becomes 15 = .ok (.ireturn, 1) := by decide +kernel
theorem dX8_here_0 : decode cX8_here 0 = .ok (.aload_n 0, 1) := by decide +kernel
theorem dX8_here_1 : decode cX8_here 1 = .ok (.getfield 63, 3) := by decide +kernel
theorem dX8_here_4 : decode cX8_here 4 = .ok (.aload_n 0, 1) := by decide +kernel
theorem dX8_here_5 : decode cX8_here 5 = .ok (.getfield 66, 3) := by decide +kernel
theorem dX8_here_8 : decode cX8_here 8 = .ok (.if_icmp .ge 20, 3) := by decide +kernel
theorem dX8_here_11 : decode cX8_here 11 = .ok (.aload_n 0, 1) := by decide +kernel
theorem dX8_here_12 : decode cX8_here 12 = .ok (.getfield 31, 3) := by decide +kernel
theorem dX8_here_15 : decode cX8_here 15 = .ok (.aload_n 0, 1) := by decide +kernel
theorem dX8_here_16 : decode cX8_here 16 = .ok (.getfield 69, 3) := by decide +kernel
theorem dX8_here_19 : decode cX8_here 19 = .ok (.aload_n 0, 1) := by decide +kernel
theorem dX8_here_20 : decode cX8_here 20 = .ok (.getfield 63, 3) := by decide +kernel
theorem dX8_here_23 : decode cX8_here 23 = .ok (.iadd, 1) := by decide +kernel
theorem dX8_here_24 : decode cX8_here 24 = .ok (.iaload, 1) := by decide +kernel
theorem dX8_here_25 : decode cX8_here 25 = .ok (.goto 6, 3) := by decide +kernel
theorem dX8_here_28 : decode cX8_here 28 = .ok (.sipush (-1000), 3) := by decide +kernel
theorem dX8_here_31 : decode cX8_here 31 = .ok (.ireturn, 1) := by decide +kernel
theorem dX8_isDigit_0 : decode cX8_isDigit 0 = .ok (.aload_n 0, 1) := by decide +kernel
theorem dX8_isDigit_1 : decode cX8_isDigit 1 = .ok (.invokevirtual 72, 3) := by decide +kernel
theorem dX8_isDigit_4 : decode cX8_isDigit 4 = .ok (.i2l, 1) := by decide +kernel
theorem dX8_isDigit_5 : decode cX8_isDigit 5 = .ok (.ldc2_w 76, 3) := by decide +kernel
theorem dX8_isDigit_8 : decode cX8_isDigit 8 = .ok (.ldc2_w 78, 3) := by decide +kernel
theorem dX8_isDigit_11 : decode cX8_isDigit 11 = .ok (.invokestatic 53, 3) := by decide +kernel
theorem dX8_isDigit_14 : decode cX8_isDigit 14 = .ok (.ireturn, 1) := by decide +kernel
theorem dX8_takes_0 : decode cX8_takes 0 = .ok (.aload_n 0, 1) := by decide +kernel
theorem dX8_takes_1 : decode cX8_takes 1 = .ok (.invokevirtual 72, 3) := by decide +kernel
theorem dX8_takes_4 : decode cX8_takes 4 = .ok (.iload_n 1, 1) := by decide +kernel
theorem dX8_takes_5 : decode cX8_takes 5 = .ok (.if_icmp .eq 5, 3) := by decide +kernel
theorem dX8_takes_8 : decode cX8_takes 8 = .ok (.iconst 0, 1) := by decide +kernel
theorem dX8_takes_9 : decode cX8_takes 9 = .ok (.ireturn, 1) := by decide +kernel
theorem dX8_takes_10 : decode cX8_takes 10 = .ok (.aload_n 0, 1) := by decide +kernel
theorem dX8_takes_11 : decode cX8_takes 11 = .ok (.dup, 1) := by decide +kernel
theorem dX8_takes_12 : decode cX8_takes 12 = .ok (.getfield 63, 3) := by decide +kernel
theorem dX8_takes_15 : decode cX8_takes 15 = .ok (.iconst 1, 1) := by decide +kernel
theorem dX8_takes_16 : decode cX8_takes 16 = .ok (.iadd, 1) := by decide +kernel
theorem dX8_takes_17 : decode cX8_takes 17 = .ok (.putfield 63, 3) := by decide +kernel
theorem dX8_takes_20 : decode cX8_takes 20 = .ok (.iconst 1, 1) := by decide +kernel
theorem dX8_takes_21 : decode cX8_takes 21 = .ok (.ireturn, 1) := by decide +kernel
theorem dX8_readsDigit_0 : decode cX8_readsDigit 0 = .ok (.aload_n 0, 1) := by decide +kernel
theorem dX8_readsDigit_1 : decode cX8_readsDigit 1 = .ok (.invokevirtual 80, 3) := by decide +kernel
theorem dX8_readsDigit_4 : decode cX8_readsDigit 4 = .ok (.ifCond .ne 5, 3) := by decide +kernel
theorem dX8_readsDigit_7 : decode cX8_readsDigit 7 = .ok (.iconst 0, 1) := by decide +kernel
theorem dX8_readsDigit_8 : decode cX8_readsDigit 8 = .ok (.ireturn, 1) := by decide +kernel
theorem dX8_readsDigit_9 : decode cX8_readsDigit 9 = .ok (.aload_n 0, 1) := by decide +kernel
theorem dX8_readsDigit_10 : decode cX8_readsDigit 10 = .ok (.getfield 40, 3) := by decide +kernel
theorem dX8_readsDigit_13 : decode cX8_readsDigit 13 = .ok (.aload_n 0, 1) := by decide +kernel
theorem dX8_readsDigit_14 : decode cX8_readsDigit 14 = .ok (.getfield 84, 3) := by decide +kernel
theorem dX8_readsDigit_17 : decode cX8_readsDigit 17 = .ok (.aload_n 0, 1) := by decide +kernel
theorem dX8_readsDigit_18 : decode cX8_readsDigit 18 = .ok (.invokevirtual 72, 3) := by decide +kernel
theorem dX8_readsDigit_21 : decode cX8_readsDigit 21 = .ok (.bipush 48, 2) := by decide +kernel
theorem dX8_readsDigit_23 : decode cX8_readsDigit 23 = .ok (.isub, 1) := by decide +kernel
theorem dX8_readsDigit_24 : decode cX8_readsDigit 24 = .ok (.iastore, 1) := by decide +kernel
theorem dX8_readsDigit_25 : decode cX8_readsDigit 25 = .ok (.aload_n 0, 1) := by decide +kernel
theorem dX8_readsDigit_26 : decode cX8_readsDigit 26 = .ok (.dup, 1) := by decide +kernel
theorem dX8_readsDigit_27 : decode cX8_readsDigit 27 = .ok (.getfield 84, 3) := by decide +kernel
theorem dX8_readsDigit_30 : decode cX8_readsDigit 30 = .ok (.iconst 1, 1) := by decide +kernel
theorem dX8_readsDigit_31 : decode cX8_readsDigit 31 = .ok (.iadd, 1) := by decide +kernel
theorem dX8_readsDigit_32 : decode cX8_readsDigit 32 = .ok (.putfield 84, 3) := by decide +kernel
theorem dX8_readsDigit_35 : decode cX8_readsDigit 35 = .ok (.aload_n 0, 1) := by decide +kernel
theorem dX8_readsDigit_36 : decode cX8_readsDigit 36 = .ok (.dup, 1) := by decide +kernel
theorem dX8_readsDigit_37 : decode cX8_readsDigit 37 = .ok (.getfield 63, 3) := by decide +kernel
theorem dX8_readsDigit_40 : decode cX8_readsDigit 40 = .ok (.iconst 1, 1) := by decide +kernel
theorem dX8_readsDigit_41 : decode cX8_readsDigit 41 = .ok (.iadd, 1) := by decide +kernel
theorem dX8_readsDigit_42 : decode cX8_readsDigit 42 = .ok (.putfield 63, 3) := by decide +kernel
theorem dX8_readsDigit_45 : decode cX8_readsDigit 45 = .ok (.iconst 1, 1) := by decide +kernel
theorem dX8_readsDigit_46 : decode cX8_readsDigit 46 = .ok (.ireturn, 1) := by decide +kernel
theorem dX8_readsNumber_0 : decode cX8_readsNumber 0 = .ok (.aload_n 0, 1) := by decide +kernel
theorem dX8_readsNumber_1 : decode cX8_readsNumber 1 = .ok (.invokevirtual 87, 3) := by decide +kernel
theorem dX8_readsNumber_4 : decode cX8_readsNumber 4 = .ok (.ifCond .ne 5, 3) := by decide +kernel
theorem dX8_readsNumber_7 : decode cX8_readsNumber 7 = .ok (.iconst 0, 1) := by decide +kernel
theorem dX8_readsNumber_8 : decode cX8_readsNumber 8 = .ok (.ireturn, 1) := by decide +kernel
theorem dX8_readsNumber_9 : decode cX8_readsNumber 9 = .ok (.iconst 1, 1) := by decide +kernel
theorem dX8_readsNumber_10 : decode cX8_readsNumber 10 = .ok (.istore_n 1, 1) := by decide +kernel
theorem dX8_readsNumber_11 : decode cX8_readsNumber 11 = .ok (.iload_n 1, 1) := by decide +kernel
theorem dX8_readsNumber_12 : decode cX8_readsNumber 12 = .ok (.iconst 3, 1) := by decide +kernel
theorem dX8_readsNumber_13 : decode cX8_readsNumber 13 = .ok (.if_icmp .ge 73, 3) := by decide +kernel
theorem dX8_readsNumber_16 : decode cX8_readsNumber 16 = .ok (.aload_n 0, 1) := by decide +kernel
theorem dX8_readsNumber_17 : decode cX8_readsNumber 17 = .ok (.getfield 40, 3) := by decide +kernel
theorem dX8_readsNumber_20 : decode cX8_readsNumber 20 = .ok (.aload_n 0, 1) := by decide +kernel
theorem dX8_readsNumber_21 : decode cX8_readsNumber 21 = .ok (.getfield 84, 3) := by decide +kernel
theorem dX8_readsNumber_24 : decode cX8_readsNumber 24 = .ok (.iconst 1, 1) := by decide +kernel
theorem dX8_readsNumber_25 : decode cX8_readsNumber 25 = .ok (.isub, 1) := by decide +kernel
theorem dX8_readsNumber_26 : decode cX8_readsNumber 26 = .ok (.iaload, 1) := by decide +kernel
theorem dX8_readsNumber_27 : decode cX8_readsNumber 27 = .ok (.ifCond .le 59, 3) := by decide +kernel
theorem dX8_readsNumber_30 : decode cX8_readsNumber 30 = .ok (.aload_n 0, 1) := by decide +kernel
theorem dX8_readsNumber_31 : decode cX8_readsNumber 31 = .ok (.invokevirtual 80, 3) := by decide +kernel
theorem dX8_readsNumber_34 : decode cX8_readsNumber 34 = .ok (.ifCond .eq 52, 3) := by decide +kernel
theorem dX8_readsNumber_37 : decode cX8_readsNumber 37 = .ok (.aload_n 0, 1) := by decide +kernel
theorem dX8_readsNumber_38 : decode cX8_readsNumber 38 = .ok (.getfield 40, 3) := by decide +kernel
theorem dX8_readsNumber_41 : decode cX8_readsNumber 41 = .ok (.aload_n 0, 1) := by decide +kernel
theorem dX8_readsNumber_42 : decode cX8_readsNumber 42 = .ok (.getfield 84, 3) := by decide +kernel
theorem dX8_readsNumber_45 : decode cX8_readsNumber 45 = .ok (.iconst 1, 1) := by decide +kernel
theorem dX8_readsNumber_46 : decode cX8_readsNumber 46 = .ok (.isub, 1) := by decide +kernel
theorem dX8_readsNumber_47 : decode cX8_readsNumber 47 = .ok (.bipush 10, 2) := by decide +kernel
theorem dX8_readsNumber_49 : decode cX8_readsNumber 49 = .ok (.aload_n 0, 1) := by decide +kernel
theorem dX8_readsNumber_50 : decode cX8_readsNumber 50 = .ok (.getfield 40, 3) := by decide +kernel
theorem dX8_readsNumber_53 : decode cX8_readsNumber 53 = .ok (.aload_n 0, 1) := by decide +kernel
theorem dX8_readsNumber_54 : decode cX8_readsNumber 54 = .ok (.getfield 84, 3) := by decide +kernel
theorem dX8_readsNumber_57 : decode cX8_readsNumber 57 = .ok (.iconst 1, 1) := by decide +kernel
theorem dX8_readsNumber_58 : decode cX8_readsNumber 58 = .ok (.isub, 1) := by decide +kernel
theorem dX8_readsNumber_59 : decode cX8_readsNumber 59 = .ok (.iaload, 1) := by decide +kernel
theorem dX8_readsNumber_60 : decode cX8_readsNumber 60 = .ok (.imul, 1) := by decide +kernel
theorem dX8_readsNumber_61 : decode cX8_readsNumber 61 = .ok (.aload_n 0, 1) := by decide +kernel
theorem dX8_readsNumber_62 : decode cX8_readsNumber 62 = .ok (.invokevirtual 72, 3) := by decide +kernel
theorem dX8_readsNumber_65 : decode cX8_readsNumber 65 = .ok (.iadd, 1) := by decide +kernel
theorem dX8_readsNumber_66 : decode cX8_readsNumber 66 = .ok (.bipush 48, 2) := by decide +kernel
theorem dX8_readsNumber_68 : decode cX8_readsNumber 68 = .ok (.isub, 1) := by decide +kernel
theorem dX8_readsNumber_69 : decode cX8_readsNumber 69 = .ok (.iastore, 1) := by decide +kernel
theorem dX8_readsNumber_70 : decode cX8_readsNumber 70 = .ok (.aload_n 0, 1) := by decide +kernel
theorem dX8_readsNumber_71 : decode cX8_readsNumber 71 = .ok (.dup, 1) := by decide +kernel
theorem dX8_readsNumber_72 : decode cX8_readsNumber 72 = .ok (.getfield 63, 3) := by decide +kernel
theorem dX8_readsNumber_75 : decode cX8_readsNumber 75 = .ok (.iconst 1, 1) := by decide +kernel
theorem dX8_readsNumber_76 : decode cX8_readsNumber 76 = .ok (.iadd, 1) := by decide +kernel
theorem dX8_readsNumber_77 : decode cX8_readsNumber 77 = .ok (.putfield 63, 3) := by decide +kernel
theorem dX8_readsNumber_80 : decode cX8_readsNumber 80 = .ok (.iinc 1 1, 3) := by decide +kernel
theorem dX8_readsNumber_83 : decode cX8_readsNumber 83 = .ok (.goto (-72), 3) := by decide +kernel
theorem dX8_readsNumber_86 : decode cX8_readsNumber 86 = .ok (.iconst 1, 1) := by decide +kernel
theorem dX8_readsNumber_87 : decode cX8_readsNumber 87 = .ok (.ireturn, 1) := by decide +kernel
theorem dX8_readsStatement_0 : decode cX8_readsStatement 0 = .ok (.aload_n 0, 1) := by decide +kernel
theorem dX8_readsStatement_1 : decode cX8_readsStatement 1 = .ok (.invokevirtual 72, 3) := by decide +kernel
theorem dX8_readsStatement_4 : decode cX8_readsStatement 4 = .ok (.istore_n 1, 1) := by decide +kernel
theorem dX8_readsStatement_5 : decode cX8_readsStatement 5 = .ok (.aload_n 0, 1) := by decide +kernel
theorem dX8_readsStatement_6 : decode cX8_readsStatement 6 = .ok (.iconst 0, 1) := by decide +kernel
theorem dX8_readsStatement_7 : decode cX8_readsStatement 7 = .ok (.putfield 84, 3) := by decide +kernel
theorem dX8_readsStatement_10 : decode cX8_readsStatement 10 = .ok (.aload_n 0, 1) := by decide +kernel
theorem dX8_readsStatement_11 : decode cX8_readsStatement 11 = .ok (.iconst 0, 1) := by decide +kernel
theorem dX8_readsStatement_12 : decode cX8_readsStatement 12 = .ok (.putfield 90, 3) := by decide +kernel
theorem dX8_readsStatement_15 : decode cX8_readsStatement 15 = .ok (.iload_n 1, 1) := by decide +kernel
theorem dX8_readsStatement_16 : decode cX8_readsStatement 16 = .ok (.lookupswitch 309 #[(100, 245), (112, 52), (114, 277), (116, 158), (119, 277)], 52) := by decide +kernel
theorem dX8_readsStatement_68 : decode cX8_readsStatement 68 = .ok (.aload_n 0, 1) := by decide +kernel
theorem dX8_readsStatement_69 : decode cX8_readsStatement 69 = .ok (.dup, 1) := by decide +kernel
theorem dX8_readsStatement_70 : decode cX8_readsStatement 70 = .ok (.getfield 63, 3) := by decide +kernel
theorem dX8_readsStatement_73 : decode cX8_readsStatement 73 = .ok (.iconst 1, 1) := by decide +kernel
theorem dX8_readsStatement_74 : decode cX8_readsStatement 74 = .ok (.iadd, 1) := by decide +kernel
theorem dX8_readsStatement_75 : decode cX8_readsStatement 75 = .ok (.putfield 63, 3) := by decide +kernel
theorem dX8_readsStatement_78 : decode cX8_readsStatement 78 = .ok (.aload_n 0, 1) := by decide +kernel
theorem dX8_readsStatement_79 : decode cX8_readsStatement 79 = .ok (.invokevirtual 94, 3) := by decide +kernel
theorem dX8_readsStatement_82 : decode cX8_readsStatement 82 = .ok (.ifCond .eq 35, 3) := by decide +kernel
theorem dX8_readsStatement_85 : decode cX8_readsStatement 85 = .ok (.aload_n 0, 1) := by decide +kernel
theorem dX8_readsStatement_86 : decode cX8_readsStatement 86 = .ok (.bipush 32, 2) := by decide +kernel
theorem dX8_readsStatement_88 : decode cX8_readsStatement 88 = .ok (.invokevirtual 97, 3) := by decide +kernel
theorem dX8_readsStatement_91 : decode cX8_readsStatement 91 = .ok (.ifCond .eq 26, 3) := by decide +kernel
theorem dX8_readsStatement_94 : decode cX8_readsStatement 94 = .ok (.aload_n 0, 1) := by decide +kernel
theorem dX8_readsStatement_95 : decode cX8_readsStatement 95 = .ok (.invokevirtual 94, 3) := by decide +kernel
theorem dX8_readsStatement_98 : decode cX8_readsStatement 98 = .ok (.ifCond .eq 19, 3) := by decide +kernel
theorem dX8_readsStatement_101 : decode cX8_readsStatement 101 = .ok (.aload_n 0, 1) := by decide +kernel
theorem dX8_readsStatement_102 : decode cX8_readsStatement 102 = .ok (.bipush 32, 2) := by decide +kernel
theorem dX8_readsStatement_104 : decode cX8_readsStatement 104 = .ok (.invokevirtual 97, 3) := by decide +kernel
theorem dX8_readsStatement_107 : decode cX8_readsStatement 107 = .ok (.ifCond .eq 10, 3) := by decide +kernel
theorem dX8_readsStatement_110 : decode cX8_readsStatement 110 = .ok (.aload_n 0, 1) := by decide +kernel
theorem dX8_readsStatement_111 : decode cX8_readsStatement 111 = .ok (.invokevirtual 94, 3) := by decide +kernel
theorem dX8_readsStatement_114 : decode cX8_readsStatement 114 = .ok (.ifCond .ne 5, 3) := by decide +kernel
theorem dX8_readsStatement_117 : decode cX8_readsStatement 117 = .ok (.iconst 0, 1) := by decide +kernel
theorem dX8_readsStatement_118 : decode cX8_readsStatement 118 = .ok (.ireturn, 1) := by decide +kernel
theorem dX8_readsStatement_119 : decode cX8_readsStatement 119 = .ok (.aload_n 0, 1) := by decide +kernel
theorem dX8_readsStatement_120 : decode cX8_readsStatement 120 = .ok (.aload_n 0, 1) := by decide +kernel
theorem dX8_readsStatement_121 : decode cX8_readsStatement 121 = .ok (.bipush 106, 2) := by decide +kernel
theorem dX8_readsStatement_123 : decode cX8_readsStatement 123 = .ok (.invokevirtual 97, 3) := by decide +kernel
theorem dX8_readsStatement_126 : decode cX8_readsStatement 126 = .ok (.putfield 90, 3) := by decide +kernel
theorem dX8_readsStatement_129 : decode cX8_readsStatement 129 = .ok (.aload_n 0, 1) := by decide +kernel
theorem dX8_readsStatement_130 : decode cX8_readsStatement 130 = .ok (.getfield 90, 3) := by decide +kernel
theorem dX8_readsStatement_133 : decode cX8_readsStatement 133 = .ok (.ifCond .eq 26, 3) := by decide +kernel
theorem dX8_readsStatement_136 : decode cX8_readsStatement 136 = .ok (.aload_n 0, 1) := by decide +kernel
theorem dX8_readsStatement_137 : decode cX8_readsStatement 137 = .ok (.invokevirtual 87, 3) := by decide +kernel
theorem dX8_readsStatement_140 : decode cX8_readsStatement 140 = .ok (.ifCond .eq 32, 3) := by decide +kernel
theorem dX8_readsStatement_143 : decode cX8_readsStatement 143 = .ok (.aload_n 0, 1) := by decide +kernel
theorem dX8_readsStatement_144 : decode cX8_readsStatement 144 = .ok (.bipush 32, 2) := by decide +kernel
theorem dX8_readsStatement_146 : decode cX8_readsStatement 146 = .ok (.invokevirtual 97, 3) := by decide +kernel
theorem dX8_readsStatement_149 : decode cX8_readsStatement 149 = .ok (.ifCond .eq 23, 3) := by decide +kernel
theorem dX8_readsStatement_152 : decode cX8_readsStatement 152 = .ok (.aload_n 0, 1) := by decide +kernel
theorem dX8_readsStatement_153 : decode cX8_readsStatement 153 = .ok (.invokevirtual 94, 3) := by decide +kernel
theorem dX8_readsStatement_156 : decode cX8_readsStatement 156 = .ok (.ifCond .eq 16, 3) := by decide +kernel
theorem dX8_readsStatement_159 : decode cX8_readsStatement 159 = .ok (.aload_n 0, 1) := by decide +kernel
theorem dX8_readsStatement_160 : decode cX8_readsStatement 160 = .ok (.bipush 59, 2) := by decide +kernel
theorem dX8_readsStatement_162 : decode cX8_readsStatement 162 = .ok (.invokevirtual 97, 3) := by decide +kernel
theorem dX8_readsStatement_165 : decode cX8_readsStatement 165 = .ok (.ifCond .eq 7, 3) := by decide +kernel
theorem dX8_readsStatement_168 : decode cX8_readsStatement 168 = .ok (.iconst 1, 1) := by decide +kernel
theorem dX8_readsStatement_169 : decode cX8_readsStatement 169 = .ok (.goto 4, 3) := by decide +kernel
theorem dX8_readsStatement_172 : decode cX8_readsStatement 172 = .ok (.iconst 0, 1) := by decide +kernel
theorem dX8_readsStatement_173 : decode cX8_readsStatement 173 = .ok (.ireturn, 1) := by decide +kernel
theorem dX8_readsStatement_174 : decode cX8_readsStatement 174 = .ok (.aload_n 0, 1) := by decide +kernel
theorem dX8_readsStatement_175 : decode cX8_readsStatement 175 = .ok (.dup, 1) := by decide +kernel
theorem dX8_readsStatement_176 : decode cX8_readsStatement 176 = .ok (.getfield 63, 3) := by decide +kernel
theorem dX8_readsStatement_179 : decode cX8_readsStatement 179 = .ok (.iconst 1, 1) := by decide +kernel
theorem dX8_readsStatement_180 : decode cX8_readsStatement 180 = .ok (.iadd, 1) := by decide +kernel
theorem dX8_readsStatement_181 : decode cX8_readsStatement 181 = .ok (.putfield 63, 3) := by decide +kernel
theorem dX8_readsStatement_184 : decode cX8_readsStatement 184 = .ok (.aload_n 0, 1) := by decide +kernel
theorem dX8_readsStatement_185 : decode cX8_readsStatement 185 = .ok (.invokevirtual 87, 3) := by decide +kernel
theorem dX8_readsStatement_188 : decode cX8_readsStatement 188 = .ok (.ifCond .eq 71, 3) := by decide +kernel
theorem dX8_readsStatement_191 : decode cX8_readsStatement 191 = .ok (.aload_n 0, 1) := by decide +kernel
theorem dX8_readsStatement_192 : decode cX8_readsStatement 192 = .ok (.invokevirtual 87, 3) := by decide +kernel
theorem dX8_readsStatement_195 : decode cX8_readsStatement 195 = .ok (.ifCond .eq 64, 3) := by decide +kernel
theorem dX8_readsStatement_198 : decode cX8_readsStatement 198 = .ok (.aload_n 0, 1) := by decide +kernel
theorem dX8_readsStatement_199 : decode cX8_readsStatement 199 = .ok (.bipush 32, 2) := by decide +kernel
theorem dX8_readsStatement_201 : decode cX8_readsStatement 201 = .ok (.invokevirtual 97, 3) := by decide +kernel
theorem dX8_readsStatement_204 : decode cX8_readsStatement 204 = .ok (.ifCond .eq 55, 3) := by decide +kernel
theorem dX8_readsStatement_207 : decode cX8_readsStatement 207 = .ok (.aload_n 0, 1) := by decide +kernel
theorem dX8_readsStatement_208 : decode cX8_readsStatement 208 = .ok (.invokevirtual 94, 3) := by decide +kernel
theorem dX8_readsStatement_211 : decode cX8_readsStatement 211 = .ok (.ifCond .eq 48, 3) := by decide +kernel
theorem dX8_readsStatement_214 : decode cX8_readsStatement 214 = .ok (.aload_n 0, 1) := by decide +kernel
theorem dX8_readsStatement_215 : decode cX8_readsStatement 215 = .ok (.bipush 32, 2) := by decide +kernel
theorem dX8_readsStatement_217 : decode cX8_readsStatement 217 = .ok (.invokevirtual 97, 3) := by decide +kernel
theorem dX8_readsStatement_220 : decode cX8_readsStatement 220 = .ok (.ifCond .eq 39, 3) := by decide +kernel
theorem dX8_readsStatement_223 : decode cX8_readsStatement 223 = .ok (.aload_n 0, 1) := by decide +kernel
theorem dX8_readsStatement_224 : decode cX8_readsStatement 224 = .ok (.invokevirtual 87, 3) := by decide +kernel
theorem dX8_readsStatement_227 : decode cX8_readsStatement 227 = .ok (.ifCond .eq 32, 3) := by decide +kernel
theorem dX8_readsStatement_230 : decode cX8_readsStatement 230 = .ok (.aload_n 0, 1) := by decide +kernel
theorem dX8_readsStatement_231 : decode cX8_readsStatement 231 = .ok (.bipush 32, 2) := by decide +kernel
theorem dX8_readsStatement_233 : decode cX8_readsStatement 233 = .ok (.invokevirtual 97, 3) := by decide +kernel
theorem dX8_readsStatement_236 : decode cX8_readsStatement 236 = .ok (.ifCond .eq 23, 3) := by decide +kernel
theorem dX8_readsStatement_239 : decode cX8_readsStatement 239 = .ok (.aload_n 0, 1) := by decide +kernel
theorem dX8_readsStatement_240 : decode cX8_readsStatement 240 = .ok (.invokevirtual 94, 3) := by decide +kernel
theorem dX8_readsStatement_243 : decode cX8_readsStatement 243 = .ok (.ifCond .eq 16, 3) := by decide +kernel
theorem dX8_readsStatement_246 : decode cX8_readsStatement 246 = .ok (.aload_n 0, 1) := by decide +kernel
theorem dX8_readsStatement_247 : decode cX8_readsStatement 247 = .ok (.bipush 59, 2) := by decide +kernel
theorem dX8_readsStatement_249 : decode cX8_readsStatement 249 = .ok (.invokevirtual 97, 3) := by decide +kernel
theorem dX8_readsStatement_252 : decode cX8_readsStatement 252 = .ok (.ifCond .eq 7, 3) := by decide +kernel
theorem dX8_readsStatement_255 : decode cX8_readsStatement 255 = .ok (.iconst 1, 1) := by decide +kernel
theorem dX8_readsStatement_256 : decode cX8_readsStatement 256 = .ok (.goto 4, 3) := by decide +kernel
theorem dX8_readsStatement_259 : decode cX8_readsStatement 259 = .ok (.iconst 0, 1) := by decide +kernel
theorem dX8_readsStatement_260 : decode cX8_readsStatement 260 = .ok (.ireturn, 1) := by decide +kernel
theorem dX8_readsStatement_261 : decode cX8_readsStatement 261 = .ok (.aload_n 0, 1) := by decide +kernel
theorem dX8_readsStatement_262 : decode cX8_readsStatement 262 = .ok (.dup, 1) := by decide +kernel
theorem dX8_readsStatement_263 : decode cX8_readsStatement 263 = .ok (.getfield 63, 3) := by decide +kernel
theorem dX8_readsStatement_266 : decode cX8_readsStatement 266 = .ok (.iconst 1, 1) := by decide +kernel
theorem dX8_readsStatement_267 : decode cX8_readsStatement 267 = .ok (.iadd, 1) := by decide +kernel
theorem dX8_readsStatement_268 : decode cX8_readsStatement 268 = .ok (.putfield 63, 3) := by decide +kernel
theorem dX8_readsStatement_271 : decode cX8_readsStatement 271 = .ok (.aload_n 0, 1) := by decide +kernel
theorem dX8_readsStatement_272 : decode cX8_readsStatement 272 = .ok (.invokevirtual 94, 3) := by decide +kernel
theorem dX8_readsStatement_275 : decode cX8_readsStatement 275 = .ok (.ifCond .eq 16, 3) := by decide +kernel
theorem dX8_readsStatement_278 : decode cX8_readsStatement 278 = .ok (.aload_n 0, 1) := by decide +kernel
theorem dX8_readsStatement_279 : decode cX8_readsStatement 279 = .ok (.bipush 59, 2) := by decide +kernel
theorem dX8_readsStatement_281 : decode cX8_readsStatement 281 = .ok (.invokevirtual 97, 3) := by decide +kernel
theorem dX8_readsStatement_284 : decode cX8_readsStatement 284 = .ok (.ifCond .eq 7, 3) := by decide +kernel
theorem dX8_readsStatement_287 : decode cX8_readsStatement 287 = .ok (.iconst 1, 1) := by decide +kernel
theorem dX8_readsStatement_288 : decode cX8_readsStatement 288 = .ok (.goto 4, 3) := by decide +kernel
theorem dX8_readsStatement_291 : decode cX8_readsStatement 291 = .ok (.iconst 0, 1) := by decide +kernel
theorem dX8_readsStatement_292 : decode cX8_readsStatement 292 = .ok (.ireturn, 1) := by decide +kernel
theorem dX8_readsStatement_293 : decode cX8_readsStatement 293 = .ok (.aload_n 0, 1) := by decide +kernel
theorem dX8_readsStatement_294 : decode cX8_readsStatement 294 = .ok (.dup, 1) := by decide +kernel
theorem dX8_readsStatement_295 : decode cX8_readsStatement 295 = .ok (.getfield 63, 3) := by decide +kernel
theorem dX8_readsStatement_298 : decode cX8_readsStatement 298 = .ok (.iconst 1, 1) := by decide +kernel
theorem dX8_readsStatement_299 : decode cX8_readsStatement 299 = .ok (.iadd, 1) := by decide +kernel
theorem dX8_readsStatement_300 : decode cX8_readsStatement 300 = .ok (.putfield 63, 3) := by decide +kernel
theorem dX8_readsStatement_303 : decode cX8_readsStatement 303 = .ok (.aload_n 0, 1) := by decide +kernel
theorem dX8_readsStatement_304 : decode cX8_readsStatement 304 = .ok (.invokevirtual 87, 3) := by decide +kernel
theorem dX8_readsStatement_307 : decode cX8_readsStatement 307 = .ok (.ifCond .eq 16, 3) := by decide +kernel
theorem dX8_readsStatement_310 : decode cX8_readsStatement 310 = .ok (.aload_n 0, 1) := by decide +kernel
theorem dX8_readsStatement_311 : decode cX8_readsStatement 311 = .ok (.bipush 59, 2) := by decide +kernel
theorem dX8_readsStatement_313 : decode cX8_readsStatement 313 = .ok (.invokevirtual 97, 3) := by decide +kernel
theorem dX8_readsStatement_316 : decode cX8_readsStatement 316 = .ok (.ifCond .eq 7, 3) := by decide +kernel
theorem dX8_readsStatement_319 : decode cX8_readsStatement 319 = .ok (.iconst 1, 1) := by decide +kernel
theorem dX8_readsStatement_320 : decode cX8_readsStatement 320 = .ok (.goto 4, 3) := by decide +kernel
theorem dX8_readsStatement_323 : decode cX8_readsStatement 323 = .ok (.iconst 0, 1) := by decide +kernel
theorem dX8_readsStatement_324 : decode cX8_readsStatement 324 = .ok (.ireturn, 1) := by decide +kernel
theorem dX8_readsStatement_325 : decode cX8_readsStatement 325 = .ok (.iconst 0, 1) := by decide +kernel
theorem dX8_readsStatement_326 : decode cX8_readsStatement 326 = .ok (.ireturn, 1) := by decide +kernel
theorem dX8_comesPiece_0 : decode cX8_comesPiece 0 = .ok (.aload_n 0, 1) := by decide +kernel
theorem dX8_comesPiece_1 : decode cX8_comesPiece 1 = .ok (.getfield 16, 3) := by decide +kernel
theorem dX8_comesPiece_4 : decode cX8_comesPiece 4 = .ok (.iconst 0, 1) := by decide +kernel
theorem dX8_comesPiece_5 : decode cX8_comesPiece 5 = .ok (.iaload, 1) := by decide +kernel
theorem dX8_comesPiece_6 : decode cX8_comesPiece 6 = .ok (.istore_n 1, 1) := by decide +kernel
theorem dX8_comesPiece_7 : decode cX8_comesPiece 7 = .ok (.aload_n 0, 1) := by decide +kernel
theorem dX8_comesPiece_8 : decode cX8_comesPiece 8 = .ok (.getfield 40, 3) := by decide +kernel
theorem dX8_comesPiece_11 : decode cX8_comesPiece 11 = .ok (.iconst 0, 1) := by decide +kernel
theorem dX8_comesPiece_12 : decode cX8_comesPiece 12 = .ok (.iaload, 1) := by decide +kernel
theorem dX8_comesPiece_13 : decode cX8_comesPiece 13 = .ok (.i2l, 1) := by decide +kernel
theorem dX8_comesPiece_14 : decode cX8_comesPiece 14 = .ok (.ldc2_w 101, 3) := by decide +kernel
theorem dX8_comesPiece_17 : decode cX8_comesPiece 17 = .ok (.ldc2_w 103, 3) := by decide +kernel
theorem dX8_comesPiece_20 : decode cX8_comesPiece 20 = .ok (.invokestatic 53, 3) := by decide +kernel
theorem dX8_comesPiece_23 : decode cX8_comesPiece 23 = .ok (.ifCond .eq 56, 3) := by decide +kernel
theorem dX8_comesPiece_26 : decode cX8_comesPiece 26 = .ok (.aload_n 0, 1) := by decide +kernel
theorem dX8_comesPiece_27 : decode cX8_comesPiece 27 = .ok (.getfield 40, 3) := by decide +kernel
theorem dX8_comesPiece_30 : decode cX8_comesPiece 30 = .ok (.iconst 1, 1) := by decide +kernel
theorem dX8_comesPiece_31 : decode cX8_comesPiece 31 = .ok (.iaload, 1) := by decide +kernel
theorem dX8_comesPiece_32 : decode cX8_comesPiece 32 = .ok (.i2l, 1) := by decide +kernel
theorem dX8_comesPiece_33 : decode cX8_comesPiece 33 = .ok (.lconst 1, 1) := by decide +kernel
theorem dX8_comesPiece_34 : decode cX8_comesPiece 34 = .ok (.ldc2_w 61, 3) := by decide +kernel
theorem dX8_comesPiece_37 : decode cX8_comesPiece 37 = .ok (.invokestatic 53, 3) := by decide +kernel
theorem dX8_comesPiece_40 : decode cX8_comesPiece 40 = .ok (.ifCond .eq 39, 3) := by decide +kernel
theorem dX8_comesPiece_43 : decode cX8_comesPiece 43 = .ok (.aload_n 0, 1) := by decide +kernel
theorem dX8_comesPiece_44 : decode cX8_comesPiece 44 = .ok (.getfield 40, 3) := by decide +kernel
theorem dX8_comesPiece_47 : decode cX8_comesPiece 47 = .ok (.iconst 2, 1) := by decide +kernel
theorem dX8_comesPiece_48 : decode cX8_comesPiece 48 = .ok (.iaload, 1) := by decide +kernel
theorem dX8_comesPiece_49 : decode cX8_comesPiece 49 = .ok (.i2l, 1) := by decide +kernel
theorem dX8_comesPiece_50 : decode cX8_comesPiece 50 = .ok (.lconst 1, 1) := by decide +kernel
theorem dX8_comesPiece_51 : decode cX8_comesPiece 51 = .ok (.ldc2_w 61, 3) := by decide +kernel
theorem dX8_comesPiece_54 : decode cX8_comesPiece 54 = .ok (.invokestatic 53, 3) := by decide +kernel
theorem dX8_comesPiece_57 : decode cX8_comesPiece 57 = .ok (.ifCond .eq 22, 3) := by decide +kernel
theorem dX8_comesPiece_60 : decode cX8_comesPiece 60 = .ok (.iload_n 1, 1) := by decide +kernel
theorem dX8_comesPiece_61 : decode cX8_comesPiece 61 = .ok (.bipush 10, 2) := by decide +kernel
theorem dX8_comesPiece_63 : decode cX8_comesPiece 63 = .ok (.if_icmp .ge 16, 3) := by decide +kernel
theorem dX8_comesPiece_66 : decode cX8_comesPiece 66 = .ok (.aload_n 0, 1) := by decide +kernel
theorem dX8_comesPiece_67 : decode cX8_comesPiece 67 = .ok (.getfield 16, 3) := by decide +kernel
theorem dX8_comesPiece_70 : decode cX8_comesPiece 70 = .ok (.iconst 2, 1) := by decide +kernel
theorem dX8_comesPiece_71 : decode cX8_comesPiece 71 = .ok (.iaload, 1) := by decide +kernel
theorem dX8_comesPiece_72 : decode cX8_comesPiece 72 = .ok (.ifCond .ne 7, 3) := by decide +kernel
theorem dX8_comesPiece_75 : decode cX8_comesPiece 75 = .ok (.iconst 1, 1) := by decide +kernel
theorem dX8_comesPiece_76 : decode cX8_comesPiece 76 = .ok (.goto 4, 3) := by decide +kernel
theorem dX8_comesPiece_79 : decode cX8_comesPiece 79 = .ok (.iconst 0, 1) := by decide +kernel
theorem dX8_comesPiece_80 : decode cX8_comesPiece 80 = .ok (.istore_n 2, 1) := by decide +kernel
theorem dX8_comesPiece_81 : decode cX8_comesPiece 81 = .ok (.iload_n 2, 1) := by decide +kernel
theorem dX8_comesPiece_82 : decode cX8_comesPiece 82 = .ok (.ifCond .eq 31, 3) := by decide +kernel
theorem dX8_comesPiece_85 : decode cX8_comesPiece 85 = .ok (.aload_n 0, 1) := by decide +kernel
theorem dX8_comesPiece_86 : decode cX8_comesPiece 86 = .ok (.getfield 90, 3) := by decide +kernel
theorem dX8_comesPiece_89 : decode cX8_comesPiece 89 = .ok (.ifCond .eq 26, 3) := by decide +kernel
theorem dX8_comesPiece_92 : decode cX8_comesPiece 92 = .ok (.aload_n 0, 1) := by decide +kernel
theorem dX8_comesPiece_93 : decode cX8_comesPiece 93 = .ok (.getfield 40, 3) := by decide +kernel
theorem dX8_comesPiece_96 : decode cX8_comesPiece 96 = .ok (.iconst 3, 1) := by decide +kernel
theorem dX8_comesPiece_97 : decode cX8_comesPiece 97 = .ok (.iaload, 1) := by decide +kernel
theorem dX8_comesPiece_98 : decode cX8_comesPiece 98 = .ok (.iload_n 1, 1) := by decide +kernel
theorem dX8_comesPiece_99 : decode cX8_comesPiece 99 = .ok (.if_icmp .ge 14, 3) := by decide +kernel
theorem dX8_comesPiece_102 : decode cX8_comesPiece 102 = .ok (.aload_n 0, 1) := by decide +kernel
theorem dX8_comesPiece_103 : decode cX8_comesPiece 103 = .ok (.getfield 40, 3) := by decide +kernel
theorem dX8_comesPiece_106 : decode cX8_comesPiece 106 = .ok (.iconst 4, 1) := by decide +kernel
theorem dX8_comesPiece_107 : decode cX8_comesPiece 107 = .ok (.iaload, 1) := by decide +kernel
theorem dX8_comesPiece_108 : decode cX8_comesPiece 108 = .ok (.bipush 99, 2) := by decide +kernel
theorem dX8_comesPiece_110 : decode cX8_comesPiece 110 = .ok (.if_icmp .le 5, 3) := by decide +kernel
theorem dX8_comesPiece_113 : decode cX8_comesPiece 113 = .ok (.iconst 0, 1) := by decide +kernel
theorem dX8_comesPiece_114 : decode cX8_comesPiece 114 = .ok (.ireturn, 1) := by decide +kernel
theorem dX8_comesPiece_115 : decode cX8_comesPiece 115 = .ok (.bipush 8, 2) := by decide +kernel
theorem dX8_comesPiece_117 : decode cX8_comesPiece 117 = .ok (.bipush 6, 2) := by decide +kernel
theorem dX8_comesPiece_119 : decode cX8_comesPiece 119 = .ok (.iload_n 1, 1) := by decide +kernel
theorem dX8_comesPiece_120 : decode cX8_comesPiece 120 = .ok (.imul, 1) := by decide +kernel
theorem dX8_comesPiece_121 : decode cX8_comesPiece 121 = .ok (.iadd, 1) := by decide +kernel
theorem dX8_comesPiece_122 : decode cX8_comesPiece 122 = .ok (.istore_n 3, 1) := by decide +kernel
theorem dX8_comesPiece_123 : decode cX8_comesPiece 123 = .ok (.iconst 0, 1) := by decide +kernel
theorem dX8_comesPiece_124 : decode cX8_comesPiece 124 = .ok (.istore 4, 2) := by decide +kernel
theorem dX8_comesPiece_126 : decode cX8_comesPiece 126 = .ok (.iload 4, 2) := by decide +kernel
theorem dX8_comesPiece_128 : decode cX8_comesPiece 128 = .ok (.iconst 3, 1) := by decide +kernel
theorem dX8_comesPiece_129 : decode cX8_comesPiece 129 = .ok (.if_icmp .ge 25, 3) := by decide +kernel
theorem dX8_comesPiece_132 : decode cX8_comesPiece 132 = .ok (.aload_n 0, 1) := by decide +kernel
theorem dX8_comesPiece_133 : decode cX8_comesPiece 133 = .ok (.getfield 16, 3) := by decide +kernel
theorem dX8_comesPiece_136 : decode cX8_comesPiece 136 = .ok (.iload_n 3, 1) := by decide +kernel
theorem dX8_comesPiece_137 : decode cX8_comesPiece 137 = .ok (.iload 4, 2) := by decide +kernel
theorem dX8_comesPiece_139 : decode cX8_comesPiece 139 = .ok (.iadd, 1) := by decide +kernel
theorem dX8_comesPiece_140 : decode cX8_comesPiece 140 = .ok (.aload_n 0, 1) := by decide +kernel
theorem dX8_comesPiece_141 : decode cX8_comesPiece 141 = .ok (.getfield 40, 3) := by decide +kernel
theorem dX8_comesPiece_144 : decode cX8_comesPiece 144 = .ok (.iload 4, 2) := by decide +kernel
theorem dX8_comesPiece_146 : decode cX8_comesPiece 146 = .ok (.iaload, 1) := by decide +kernel
theorem dX8_comesPiece_147 : decode cX8_comesPiece 147 = .ok (.iastore, 1) := by decide +kernel
theorem dX8_comesPiece_148 : decode cX8_comesPiece 148 = .ok (.iinc 4 1, 3) := by decide +kernel
theorem dX8_comesPiece_151 : decode cX8_comesPiece 151 = .ok (.goto (-25), 3) := by decide +kernel
theorem dX8_comesPiece_154 : decode cX8_comesPiece 154 = .ok (.aload_n 0, 1) := by decide +kernel
theorem dX8_comesPiece_155 : decode cX8_comesPiece 155 = .ok (.getfield 16, 3) := by decide +kernel
theorem dX8_comesPiece_158 : decode cX8_comesPiece 158 = .ok (.iload_n 3, 1) := by decide +kernel
theorem dX8_comesPiece_159 : decode cX8_comesPiece 159 = .ok (.iconst 3, 1) := by decide +kernel
theorem dX8_comesPiece_160 : decode cX8_comesPiece 160 = .ok (.iadd, 1) := by decide +kernel
theorem dX8_comesPiece_161 : decode cX8_comesPiece 161 = .ok (.aload_n 0, 1) := by decide +kernel
theorem dX8_comesPiece_162 : decode cX8_comesPiece 162 = .ok (.getfield 90, 3) := by decide +kernel
theorem dX8_comesPiece_165 : decode cX8_comesPiece 165 = .ok (.ifCond .eq 12, 3) := by decide +kernel
theorem dX8_comesPiece_168 : decode cX8_comesPiece 168 = .ok (.aload_n 0, 1) := by decide +kernel
theorem dX8_comesPiece_169 : decode cX8_comesPiece 169 = .ok (.getfield 40, 3) := by decide +kernel
theorem dX8_comesPiece_172 : decode cX8_comesPiece 172 = .ok (.iconst 3, 1) := by decide +kernel
theorem dX8_comesPiece_173 : decode cX8_comesPiece 173 = .ok (.iaload, 1) := by decide +kernel
theorem dX8_comesPiece_174 : decode cX8_comesPiece 174 = .ok (.goto 5, 3) := by decide +kernel
theorem dX8_comesPiece_177 : decode cX8_comesPiece 177 = .ok (.bipush (-4), 2) := by decide +kernel
theorem dX8_comesPiece_179 : decode cX8_comesPiece 179 = .ok (.iastore, 1) := by decide +kernel
theorem dX8_comesPiece_180 : decode cX8_comesPiece 180 = .ok (.aload_n 0, 1) := by decide +kernel
theorem dX8_comesPiece_181 : decode cX8_comesPiece 181 = .ok (.getfield 16, 3) := by decide +kernel
theorem dX8_comesPiece_184 : decode cX8_comesPiece 184 = .ok (.iload_n 3, 1) := by decide +kernel
theorem dX8_comesPiece_185 : decode cX8_comesPiece 185 = .ok (.iconst 4, 1) := by decide +kernel
theorem dX8_comesPiece_186 : decode cX8_comesPiece 186 = .ok (.iadd, 1) := by decide +kernel
theorem dX8_comesPiece_187 : decode cX8_comesPiece 187 = .ok (.aload_n 0, 1) := by decide +kernel
theorem dX8_comesPiece_188 : decode cX8_comesPiece 188 = .ok (.getfield 90, 3) := by decide +kernel
theorem dX8_comesPiece_191 : decode cX8_comesPiece 191 = .ok (.ifCond .eq 12, 3) := by decide +kernel
theorem dX8_comesPiece_194 : decode cX8_comesPiece 194 = .ok (.aload_n 0, 1) := by decide +kernel
theorem dX8_comesPiece_195 : decode cX8_comesPiece 195 = .ok (.getfield 40, 3) := by decide +kernel
theorem dX8_comesPiece_198 : decode cX8_comesPiece 198 = .ok (.iconst 4, 1) := by decide +kernel
theorem dX8_comesPiece_199 : decode cX8_comesPiece 199 = .ok (.iaload, 1) := by decide +kernel
theorem dX8_comesPiece_200 : decode cX8_comesPiece 200 = .ok (.goto 4, 3) := by decide +kernel
theorem dX8_comesPiece_203 : decode cX8_comesPiece 203 = .ok (.iconst 0, 1) := by decide +kernel
theorem dX8_comesPiece_204 : decode cX8_comesPiece 204 = .ok (.iastore, 1) := by decide +kernel
theorem dX8_comesPiece_205 : decode cX8_comesPiece 205 = .ok (.aload_n 0, 1) := by decide +kernel
theorem dX8_comesPiece_206 : decode cX8_comesPiece 206 = .ok (.getfield 16, 3) := by decide +kernel
theorem dX8_comesPiece_209 : decode cX8_comesPiece 209 = .ok (.iload_n 3, 1) := by decide +kernel
theorem dX8_comesPiece_210 : decode cX8_comesPiece 210 = .ok (.iconst 5, 1) := by decide +kernel
theorem dX8_comesPiece_211 : decode cX8_comesPiece 211 = .ok (.iadd, 1) := by decide +kernel
theorem dX8_comesPiece_212 : decode cX8_comesPiece 212 = .ok (.iconst 0, 1) := by decide +kernel
theorem dX8_comesPiece_213 : decode cX8_comesPiece 213 = .ok (.iastore, 1) := by decide +kernel
theorem dX8_comesPiece_214 : decode cX8_comesPiece 214 = .ok (.aload_n 0, 1) := by decide +kernel
theorem dX8_comesPiece_215 : decode cX8_comesPiece 215 = .ok (.getfield 16, 3) := by decide +kernel
theorem dX8_comesPiece_218 : decode cX8_comesPiece 218 = .ok (.iconst 0, 1) := by decide +kernel
theorem dX8_comesPiece_219 : decode cX8_comesPiece 219 = .ok (.dup2, 1) := by decide +kernel
theorem dX8_comesPiece_220 : decode cX8_comesPiece 220 = .ok (.iaload, 1) := by decide +kernel
theorem dX8_comesPiece_221 : decode cX8_comesPiece 221 = .ok (.iconst 1, 1) := by decide +kernel
theorem dX8_comesPiece_222 : decode cX8_comesPiece 222 = .ok (.iadd, 1) := by decide +kernel
theorem dX8_comesPiece_223 : decode cX8_comesPiece 223 = .ok (.iastore, 1) := by decide +kernel
theorem dX8_comesPiece_224 : decode cX8_comesPiece 224 = .ok (.iconst 1, 1) := by decide +kernel
theorem dX8_comesPiece_225 : decode cX8_comesPiece 225 = .ok (.ireturn, 1) := by decide +kernel
theorem dX8_comesThing_0 : decode cX8_comesThing 0 = .ok (.aload_n 0, 1) := by decide +kernel
theorem dX8_comesThing_1 : decode cX8_comesThing 1 = .ok (.getfield 16, 3) := by decide +kernel
theorem dX8_comesThing_4 : decode cX8_comesThing 4 = .ok (.iconst 1, 1) := by decide +kernel
theorem dX8_comesThing_5 : decode cX8_comesThing 5 = .ok (.iaload, 1) := by decide +kernel
theorem dX8_comesThing_6 : decode cX8_comesThing 6 = .ok (.istore_n 1, 1) := by decide +kernel
theorem dX8_comesThing_7 : decode cX8_comesThing 7 = .ok (.aload_n 0, 1) := by decide +kernel
theorem dX8_comesThing_8 : decode cX8_comesThing 8 = .ok (.getfield 40, 3) := by decide +kernel
theorem dX8_comesThing_11 : decode cX8_comesThing 11 = .ok (.iconst 0, 1) := by decide +kernel
theorem dX8_comesThing_12 : decode cX8_comesThing 12 = .ok (.iaload, 1) := by decide +kernel
theorem dX8_comesThing_13 : decode cX8_comesThing 13 = .ok (.bipush 8, 2) := by decide +kernel
theorem dX8_comesThing_15 : decode cX8_comesThing 15 = .ok (.if_icmp .ge 63, 3) := by decide +kernel
theorem dX8_comesThing_18 : decode cX8_comesThing 18 = .ok (.aload_n 0, 1) := by decide +kernel
theorem dX8_comesThing_19 : decode cX8_comesThing 19 = .ok (.getfield 40, 3) := by decide +kernel
theorem dX8_comesThing_22 : decode cX8_comesThing 22 = .ok (.iconst 1, 1) := by decide +kernel
theorem dX8_comesThing_23 : decode cX8_comesThing 23 = .ok (.iaload, 1) := by decide +kernel
theorem dX8_comesThing_24 : decode cX8_comesThing 24 = .ok (.aload_n 0, 1) := by decide +kernel
theorem dX8_comesThing_25 : decode cX8_comesThing 25 = .ok (.getfield 16, 3) := by decide +kernel
theorem dX8_comesThing_28 : decode cX8_comesThing 28 = .ok (.iconst 0, 1) := by decide +kernel
theorem dX8_comesThing_29 : decode cX8_comesThing 29 = .ok (.iaload, 1) := by decide +kernel
theorem dX8_comesThing_30 : decode cX8_comesThing 30 = .ok (.if_icmp .ge 48, 3) := by decide +kernel
theorem dX8_comesThing_33 : decode cX8_comesThing 33 = .ok (.aload_n 0, 1) := by decide +kernel
theorem dX8_comesThing_34 : decode cX8_comesThing 34 = .ok (.getfield 40, 3) := by decide +kernel
theorem dX8_comesThing_37 : decode cX8_comesThing 37 = .ok (.iconst 2, 1) := by decide +kernel
theorem dX8_comesThing_38 : decode cX8_comesThing 38 = .ok (.iaload, 1) := by decide +kernel
theorem dX8_comesThing_39 : decode cX8_comesThing 39 = .ok (.ifCond .le 39, 3) := by decide +kernel
theorem dX8_comesThing_42 : decode cX8_comesThing 42 = .ok (.aload_n 0, 1) := by decide +kernel
theorem dX8_comesThing_43 : decode cX8_comesThing 43 = .ok (.getfield 40, 3) := by decide +kernel
theorem dX8_comesThing_46 : decode cX8_comesThing 46 = .ok (.iconst 4, 1) := by decide +kernel
theorem dX8_comesThing_47 : decode cX8_comesThing 47 = .ok (.iaload, 1) := by decide +kernel
theorem dX8_comesThing_48 : decode cX8_comesThing 48 = .ok (.i2l, 1) := by decide +kernel
theorem dX8_comesThing_49 : decode cX8_comesThing 49 = .ok (.lconst 1, 1) := by decide +kernel
theorem dX8_comesThing_50 : decode cX8_comesThing 50 = .ok (.ldc2_w 61, 3) := by decide +kernel
theorem dX8_comesThing_53 : decode cX8_comesThing 53 = .ok (.invokestatic 53, 3) := by decide +kernel
theorem dX8_comesThing_56 : decode cX8_comesThing 56 = .ok (.ifCond .eq 22, 3) := by decide +kernel
theorem dX8_comesThing_59 : decode cX8_comesThing 59 = .ok (.iload_n 1, 1) := by decide +kernel
theorem dX8_comesThing_60 : decode cX8_comesThing 60 = .ok (.bipush 7, 2) := by decide +kernel
theorem dX8_comesThing_62 : decode cX8_comesThing 62 = .ok (.if_icmp .ge 16, 3) := by decide +kernel
theorem dX8_comesThing_65 : decode cX8_comesThing 65 = .ok (.aload_n 0, 1) := by decide +kernel
theorem dX8_comesThing_66 : decode cX8_comesThing 66 = .ok (.getfield 16, 3) := by decide +kernel
theorem dX8_comesThing_69 : decode cX8_comesThing 69 = .ok (.iconst 2, 1) := by decide +kernel
theorem dX8_comesThing_70 : decode cX8_comesThing 70 = .ok (.iaload, 1) := by decide +kernel
theorem dX8_comesThing_71 : decode cX8_comesThing 71 = .ok (.ifCond .ne 7, 3) := by decide +kernel
theorem dX8_comesThing_74 : decode cX8_comesThing 74 = .ok (.iconst 1, 1) := by decide +kernel
theorem dX8_comesThing_75 : decode cX8_comesThing 75 = .ok (.goto 4, 3) := by decide +kernel
theorem dX8_comesThing_78 : decode cX8_comesThing 78 = .ok (.iconst 0, 1) := by decide +kernel
theorem dX8_comesThing_79 : decode cX8_comesThing 79 = .ok (.istore_n 2, 1) := by decide +kernel
theorem dX8_comesThing_80 : decode cX8_comesThing 80 = .ok (.iload_n 2, 1) := by decide +kernel
theorem dX8_comesThing_81 : decode cX8_comesThing 81 = .ok (.ifCond .ne 5, 3) := by decide +kernel
theorem dX8_comesThing_84 : decode cX8_comesThing 84 = .ok (.iconst 0, 1) := by decide +kernel
theorem dX8_comesThing_85 : decode cX8_comesThing 85 = .ok (.ireturn, 1) := by decide +kernel
theorem dX8_comesThing_86 : decode cX8_comesThing 86 = .ok (.iconst 0, 1) := by decide +kernel
theorem dX8_comesThing_87 : decode cX8_comesThing 87 = .ok (.istore_n 3, 1) := by decide +kernel
theorem dX8_comesThing_88 : decode cX8_comesThing 88 = .ok (.iload_n 3, 1) := by decide +kernel
theorem dX8_comesThing_89 : decode cX8_comesThing 89 = .ok (.iconst 5, 1) := by decide +kernel
theorem dX8_comesThing_90 : decode cX8_comesThing 90 = .ok (.if_icmp .ge 28, 3) := by decide +kernel
theorem dX8_comesThing_93 : decode cX8_comesThing 93 = .ok (.aload_n 0, 1) := by decide +kernel
theorem dX8_comesThing_94 : decode cX8_comesThing 94 = .ok (.getfield 16, 3) := by decide +kernel
theorem dX8_comesThing_97 : decode cX8_comesThing 97 = .ok (.bipush 68, 2) := by decide +kernel
theorem dX8_comesThing_99 : decode cX8_comesThing 99 = .ok (.iconst 5, 1) := by decide +kernel
theorem dX8_comesThing_100 : decode cX8_comesThing 100 = .ok (.iload_n 1, 1) := by decide +kernel
theorem dX8_comesThing_101 : decode cX8_comesThing 101 = .ok (.imul, 1) := by decide +kernel
theorem dX8_comesThing_102 : decode cX8_comesThing 102 = .ok (.iadd, 1) := by decide +kernel
theorem dX8_comesThing_103 : decode cX8_comesThing 103 = .ok (.iload_n 3, 1) := by decide +kernel
theorem dX8_comesThing_104 : decode cX8_comesThing 104 = .ok (.iadd, 1) := by decide +kernel
theorem dX8_comesThing_105 : decode cX8_comesThing 105 = .ok (.aload_n 0, 1) := by decide +kernel
theorem dX8_comesThing_106 : decode cX8_comesThing 106 = .ok (.getfield 40, 3) := by decide +kernel
theorem dX8_comesThing_109 : decode cX8_comesThing 109 = .ok (.iload_n 3, 1) := by decide +kernel
theorem dX8_comesThing_110 : decode cX8_comesThing 110 = .ok (.iaload, 1) := by decide +kernel
theorem dX8_comesThing_111 : decode cX8_comesThing 111 = .ok (.iastore, 1) := by decide +kernel
theorem dX8_comesThing_112 : decode cX8_comesThing 112 = .ok (.iinc 3 1, 3) := by decide +kernel
theorem dX8_comesThing_115 : decode cX8_comesThing 115 = .ok (.goto (-27), 3) := by decide +kernel
theorem dX8_comesThing_118 : decode cX8_comesThing 118 = .ok (.aload_n 0, 1) := by decide +kernel
theorem dX8_comesThing_119 : decode cX8_comesThing 119 = .ok (.getfield 16, 3) := by decide +kernel
theorem dX8_comesThing_122 : decode cX8_comesThing 122 = .ok (.iconst 1, 1) := by decide +kernel
theorem dX8_comesThing_123 : decode cX8_comesThing 123 = .ok (.dup2, 1) := by decide +kernel
theorem dX8_comesThing_124 : decode cX8_comesThing 124 = .ok (.iaload, 1) := by decide +kernel
theorem dX8_comesThing_125 : decode cX8_comesThing 125 = .ok (.iconst 1, 1) := by decide +kernel
theorem dX8_comesThing_126 : decode cX8_comesThing 126 = .ok (.iadd, 1) := by decide +kernel
theorem dX8_comesThing_127 : decode cX8_comesThing 127 = .ok (.iastore, 1) := by decide +kernel
theorem dX8_comesThing_128 : decode cX8_comesThing 128 = .ok (.iconst 1, 1) := by decide +kernel
theorem dX8_comesThing_129 : decode cX8_comesThing 129 = .ok (.ireturn, 1) := by decide +kernel
theorem dX8_comes_0 : decode cX8_comes 0 = .ok (.aload_n 0, 1) := by decide +kernel
theorem dX8_comes_1 : decode cX8_comes 1 = .ok (.getfield 40, 3) := by decide +kernel
theorem dX8_comes_4 : decode cX8_comes 4 = .ok (.iconst 0, 1) := by decide +kernel
theorem dX8_comes_5 : decode cX8_comes 5 = .ok (.iaload, 1) := by decide +kernel
theorem dX8_comes_6 : decode cX8_comes 6 = .ok (.istore_n 2, 1) := by decide +kernel
theorem dX8_comes_7 : decode cX8_comes 7 = .ok (.iload_n 1, 1) := by decide +kernel
theorem dX8_comes_8 : decode cX8_comes 8 = .ok (.lookupswitch 91 #[(100, 54), (112, 44), (116, 49), (119, 73)], 44) := by decide +kernel
theorem dX8_comes_52 : decode cX8_comes 52 = .ok (.aload_n 0, 1) := by decide +kernel
theorem dX8_comes_53 : decode cX8_comes 53 = .ok (.invokevirtual 105, 3) := by decide +kernel
theorem dX8_comes_56 : decode cX8_comes 56 = .ok (.ireturn, 1) := by decide +kernel
theorem dX8_comes_57 : decode cX8_comes 57 = .ok (.aload_n 0, 1) := by decide +kernel
theorem dX8_comes_58 : decode cX8_comes 58 = .ok (.invokevirtual 108, 3) := by decide +kernel
theorem dX8_comes_61 : decode cX8_comes 61 = .ok (.ireturn, 1) := by decide +kernel
theorem dX8_comes_62 : decode cX8_comes 62 = .ok (.aload_n 0, 1) := by decide +kernel
theorem dX8_comes_63 : decode cX8_comes 63 = .ok (.getfield 16, 3) := by decide +kernel
theorem dX8_comes_66 : decode cX8_comes 66 = .ok (.iconst 4, 1) := by decide +kernel
theorem dX8_comes_67 : decode cX8_comes 67 = .ok (.iload_n 2, 1) := by decide +kernel
theorem dX8_comes_68 : decode cX8_comes 68 = .ok (.iastore, 1) := by decide +kernel
theorem dX8_comes_69 : decode cX8_comes 69 = .ok (.iload_n 2, 1) := by decide +kernel
theorem dX8_comes_70 : decode cX8_comes 70 = .ok (.bipush 20, 2) := by decide +kernel
theorem dX8_comes_72 : decode cX8_comes 72 = .ok (.if_icmp .gt 7, 3) := by decide +kernel
theorem dX8_comes_75 : decode cX8_comes 75 = .ok (.iconst 1, 1) := by decide +kernel
theorem dX8_comes_76 : decode cX8_comes 76 = .ok (.goto 4, 3) := by decide +kernel
theorem dX8_comes_79 : decode cX8_comes 79 = .ok (.iconst 0, 1) := by decide +kernel
theorem dX8_comes_80 : decode cX8_comes 80 = .ok (.ireturn, 1) := by decide +kernel
theorem dX8_comes_81 : decode cX8_comes 81 = .ok (.aload_n 0, 1) := by decide +kernel
theorem dX8_comes_82 : decode cX8_comes 82 = .ok (.getfield 16, 3) := by decide +kernel
theorem dX8_comes_85 : decode cX8_comes 85 = .ok (.iconst 5, 1) := by decide +kernel
theorem dX8_comes_86 : decode cX8_comes 86 = .ok (.iload_n 2, 1) := by decide +kernel
theorem dX8_comes_87 : decode cX8_comes 87 = .ok (.iastore, 1) := by decide +kernel
theorem dX8_comes_88 : decode cX8_comes 88 = .ok (.iload_n 2, 1) := by decide +kernel
theorem dX8_comes_89 : decode cX8_comes 89 = .ok (.iconst 2, 1) := by decide +kernel
theorem dX8_comes_90 : decode cX8_comes 90 = .ok (.if_icmp .ge 7, 3) := by decide +kernel
theorem dX8_comes_93 : decode cX8_comes 93 = .ok (.iconst 1, 1) := by decide +kernel
theorem dX8_comes_94 : decode cX8_comes 94 = .ok (.goto 4, 3) := by decide +kernel
theorem dX8_comes_97 : decode cX8_comes 97 = .ok (.iconst 0, 1) := by decide +kernel
theorem dX8_comes_98 : decode cX8_comes 98 = .ok (.ireturn, 1) := by decide +kernel
theorem dX8_comes_99 : decode cX8_comes 99 = .ok (.aload_n 0, 1) := by decide +kernel
theorem dX8_comes_100 : decode cX8_comes 100 = .ok (.getfield 16, 3) := by decide +kernel
theorem dX8_comes_103 : decode cX8_comes 103 = .ok (.bipush 6, 2) := by decide +kernel
theorem dX8_comes_105 : decode cX8_comes 105 = .ok (.iload_n 2, 1) := by decide +kernel
theorem dX8_comes_106 : decode cX8_comes 106 = .ok (.iastore, 1) := by decide +kernel
theorem dX8_comes_107 : decode cX8_comes 107 = .ok (.iload_n 2, 1) := by decide +kernel
theorem dX8_comes_108 : decode cX8_comes 108 = .ok (.iconst 4, 1) := by decide +kernel
theorem dX8_comes_109 : decode cX8_comes 109 = .ok (.if_icmp .ge 7, 3) := by decide +kernel
theorem dX8_comes_112 : decode cX8_comes 112 = .ok (.iconst 1, 1) := by decide +kernel
theorem dX8_comes_113 : decode cX8_comes 113 = .ok (.goto 4, 3) := by decide +kernel
theorem dX8_comes_116 : decode cX8_comes 116 = .ok (.iconst 0, 1) := by decide +kernel
theorem dX8_comes_117 : decode cX8_comes 117 = .ok (.ireturn, 1) := by decide +kernel
theorem dX8_wrongRow_0 : decode cX8_wrongRow 0 = .ok (.iload_n 1, 1) := by decide +kernel
theorem dX8_wrongRow_1 : decode cX8_wrongRow 1 = .ok (.invokestatic 111, 3) := by decide +kernel
theorem dX8_wrongRow_4 : decode cX8_wrongRow 4 = .ok (.ifCond .ne 7, 3) := by decide +kernel
theorem dX8_wrongRow_7 : decode cX8_wrongRow 7 = .ok (.iconst (-1), 1) := by decide +kernel
theorem dX8_wrongRow_8 : decode cX8_wrongRow 8 = .ok (.goto 47, 3) := by decide +kernel
theorem dX8_wrongRow_11 : decode cX8_wrongRow 11 = .ok (.aload_n 0, 1) := by decide +kernel
theorem dX8_wrongRow_12 : decode cX8_wrongRow 12 = .ok (.getfield 22, 3) := by decide +kernel
theorem dX8_wrongRow_15 : decode cX8_wrongRow 15 = .ok (.iload_n 1, 1) := by decide +kernel
theorem dX8_wrongRow_16 : decode cX8_wrongRow 16 = .ok (.iaload, 1) := by decide +kernel
theorem dX8_wrongRow_17 : decode cX8_wrongRow 17 = .ok (.ifCond .ne 8, 3) := by decide +kernel
theorem dX8_wrongRow_20 : decode cX8_wrongRow 20 = .ok (.bipush (-11), 2) := by decide +kernel
theorem dX8_wrongRow_22 : decode cX8_wrongRow 22 = .ok (.goto 33, 3) := by decide +kernel
theorem dX8_wrongRow_25 : decode cX8_wrongRow 25 = .ok (.aload_n 0, 1) := by decide +kernel
theorem dX8_wrongRow_26 : decode cX8_wrongRow 26 = .ok (.getfield 22, 3) := by decide +kernel
theorem dX8_wrongRow_29 : decode cX8_wrongRow 29 = .ok (.iload_n 1, 1) := by decide +kernel
theorem dX8_wrongRow_30 : decode cX8_wrongRow 30 = .ok (.iaload, 1) := by decide +kernel
theorem dX8_wrongRow_31 : decode cX8_wrongRow 31 = .ok (.iconst 2, 1) := by decide +kernel
theorem dX8_wrongRow_32 : decode cX8_wrongRow 32 = .ok (.if_icmp .ne 17, 3) := by decide +kernel
theorem dX8_wrongRow_35 : decode cX8_wrongRow 35 = .ok (.iload_n 2, 1) := by decide +kernel
theorem dX8_wrongRow_36 : decode cX8_wrongRow 36 = .ok (.ifCond .lt 18, 3) := by decide +kernel
theorem dX8_wrongRow_39 : decode cX8_wrongRow 39 = .ok (.aload_n 0, 1) := by decide +kernel
theorem dX8_wrongRow_40 : decode cX8_wrongRow 40 = .ok (.getfield 25, 3) := by decide +kernel
theorem dX8_wrongRow_43 : decode cX8_wrongRow 43 = .ok (.iload_n 1, 1) := by decide +kernel
theorem dX8_wrongRow_44 : decode cX8_wrongRow 44 = .ok (.iaload, 1) := by decide +kernel
theorem dX8_wrongRow_45 : decode cX8_wrongRow 45 = .ok (.iload_n 2, 1) := by decide +kernel
theorem dX8_wrongRow_46 : decode cX8_wrongRow 46 = .ok (.if_icmp .eq 8, 3) := by decide +kernel
theorem dX8_wrongRow_49 : decode cX8_wrongRow 49 = .ok (.bipush (-12), 2) := by decide +kernel
theorem dX8_wrongRow_51 : decode cX8_wrongRow 51 = .ok (.goto 4, 3) := by decide +kernel
theorem dX8_wrongRow_54 : decode cX8_wrongRow 54 = .ok (.iconst 0, 1) := by decide +kernel
theorem dX8_wrongRow_55 : decode cX8_wrongRow 55 = .ok (.ireturn, 1) := by decide +kernel
theorem dX8_instrument_0 : decode cX8_instrument 0 = .ok (.aload_n 0, 1) := by decide +kernel
theorem dX8_instrument_1 : decode cX8_instrument 1 = .ok (.iload_n 1, 1) := by decide +kernel
theorem dX8_instrument_2 : decode cX8_instrument 2 = .ok (.iconst 0, 1) := by decide +kernel
theorem dX8_instrument_3 : decode cX8_instrument 3 = .ok (.invokevirtual 114, 3) := by decide +kernel
theorem dX8_instrument_6 : decode cX8_instrument 6 = .ok (.istore_n 2, 1) := by decide +kernel
theorem dX8_instrument_7 : decode cX8_instrument 7 = .ok (.iload_n 2, 1) := by decide +kernel
theorem dX8_instrument_8 : decode cX8_instrument 8 = .ok (.ifCond .eq 5, 3) := by decide +kernel
theorem dX8_instrument_11 : decode cX8_instrument 11 = .ok (.iload_n 2, 1) := by decide +kernel
theorem dX8_instrument_12 : decode cX8_instrument 12 = .ok (.ireturn, 1) := by decide +kernel
theorem dX8_instrument_13 : decode cX8_instrument 13 = .ok (.aload_n 0, 1) := by decide +kernel
theorem dX8_instrument_14 : decode cX8_instrument 14 = .ok (.bipush 100, 2) := by decide +kernel
theorem dX8_instrument_16 : decode cX8_instrument 16 = .ok (.iload_n 1, 1) := by decide +kernel
theorem dX8_instrument_17 : decode cX8_instrument 17 = .ok (.imul, 1) := by decide +kernel
theorem dX8_instrument_18 : decode cX8_instrument 18 = .ok (.putfield 69, 3) := by decide +kernel
theorem dX8_instrument_21 : decode cX8_instrument 21 = .ok (.aload_n 0, 1) := by decide +kernel
theorem dX8_instrument_22 : decode cX8_instrument 22 = .ok (.aload_n 0, 1) := by decide +kernel
theorem dX8_instrument_23 : decode cX8_instrument 23 = .ok (.getfield 28, 3) := by decide +kernel
theorem dX8_instrument_26 : decode cX8_instrument 26 = .ok (.iload_n 1, 1) := by decide +kernel
theorem dX8_instrument_27 : decode cX8_instrument 27 = .ok (.iaload, 1) := by decide +kernel
theorem dX8_instrument_28 : decode cX8_instrument 28 = .ok (.putfield 66, 3) := by decide +kernel
theorem dX8_instrument_31 : decode cX8_instrument 31 = .ok (.aload_n 0, 1) := by decide +kernel
theorem dX8_instrument_32 : decode cX8_instrument 32 = .ok (.iconst 0, 1) := by decide +kernel
theorem dX8_instrument_33 : decode cX8_instrument 33 = .ok (.putfield 63, 3) := by decide +kernel
theorem dX8_instrument_36 : decode cX8_instrument 36 = .ok (.iconst 0, 1) := by decide +kernel
theorem dX8_instrument_37 : decode cX8_instrument 37 = .ok (.istore_n 3, 1) := by decide +kernel
theorem dX8_instrument_38 : decode cX8_instrument 38 = .ok (.aload_n 0, 1) := by decide +kernel
theorem dX8_instrument_39 : decode cX8_instrument 39 = .ok (.invokevirtual 118, 3) := by decide +kernel
theorem dX8_instrument_42 : decode cX8_instrument 42 = .ok (.ifCond .ne 12, 3) := by decide +kernel
theorem dX8_instrument_45 : decode cX8_instrument 45 = .ok (.sipush (-1000), 3) := by decide +kernel
theorem dX8_instrument_48 : decode cX8_instrument 48 = .ok (.aload_n 0, 1) := by decide +kernel
theorem dX8_instrument_49 : decode cX8_instrument 49 = .ok (.getfield 63, 3) := by decide +kernel
theorem dX8_instrument_52 : decode cX8_instrument 52 = .ok (.isub, 1) := by decide +kernel
theorem dX8_instrument_53 : decode cX8_instrument 53 = .ok (.ireturn, 1) := by decide +kernel
theorem dX8_instrument_54 : decode cX8_instrument 54 = .ok (.iinc 3 1, 3) := by decide +kernel
theorem dX8_instrument_57 : decode cX8_instrument 57 = .ok (.aload_n 0, 1) := by decide +kernel
theorem dX8_instrument_58 : decode cX8_instrument 58 = .ok (.getfield 63, 3) := by decide +kernel
theorem dX8_instrument_61 : decode cX8_instrument 61 = .ok (.aload_n 0, 1) := by decide +kernel
theorem dX8_instrument_62 : decode cX8_instrument 62 = .ok (.getfield 66, 3) := by decide +kernel
theorem dX8_instrument_65 : decode cX8_instrument 65 = .ok (.if_icmp .lt (-27), 3) := by decide +kernel
theorem dX8_instrument_68 : decode cX8_instrument 68 = .ok (.iconst 0, 1) := by decide +kernel
theorem dX8_instrument_69 : decode cX8_instrument 69 = .ok (.istore 4, 2) := by decide +kernel
theorem dX8_instrument_71 : decode cX8_instrument 71 = .ok (.iload 4, 2) := by decide +kernel
theorem dX8_instrument_73 : decode cX8_instrument 73 = .ok (.sipush 535, 3) := by decide +kernel
theorem dX8_instrument_76 : decode cX8_instrument 76 = .ok (.if_icmp .ge 23, 3) := by decide +kernel
theorem dX8_instrument_79 : decode cX8_instrument 79 = .ok (.aload_n 0, 1) := by decide +kernel
theorem dX8_instrument_80 : decode cX8_instrument 80 = .ok (.getfield 16, 3) := by decide +kernel
theorem dX8_instrument_83 : decode cX8_instrument 83 = .ok (.iload 4, 2) := by decide +kernel
theorem dX8_instrument_85 : decode cX8_instrument 85 = .ok (.aload_n 0, 1) := by decide +kernel
theorem dX8_instrument_86 : decode cX8_instrument 86 = .ok (.getfield 9, 3) := by decide +kernel
theorem dX8_instrument_89 : decode cX8_instrument 89 = .ok (.iload 4, 2) := by decide +kernel
theorem dX8_instrument_91 : decode cX8_instrument 91 = .ok (.iaload, 1) := by decide +kernel
theorem dX8_instrument_92 : decode cX8_instrument 92 = .ok (.iastore, 1) := by decide +kernel
theorem dX8_instrument_93 : decode cX8_instrument 93 = .ok (.iinc 4 1, 3) := by decide +kernel
theorem dX8_instrument_96 : decode cX8_instrument 96 = .ok (.goto (-25), 3) := by decide +kernel
theorem dX8_instrument_99 : decode cX8_instrument 99 = .ok (.aload_n 0, 1) := by decide +kernel
theorem dX8_instrument_100 : decode cX8_instrument 100 = .ok (.iconst 0, 1) := by decide +kernel
theorem dX8_instrument_101 : decode cX8_instrument 101 = .ok (.putfield 63, 3) := by decide +kernel
theorem dX8_instrument_104 : decode cX8_instrument 104 = .ok (.aload_n 0, 1) := by decide +kernel
theorem dX8_instrument_105 : decode cX8_instrument 105 = .ok (.getfield 63, 3) := by decide +kernel
theorem dX8_instrument_108 : decode cX8_instrument 108 = .ok (.aload_n 0, 1) := by decide +kernel
theorem dX8_instrument_109 : decode cX8_instrument 109 = .ok (.getfield 66, 3) := by decide +kernel
theorem dX8_instrument_112 : decode cX8_instrument 112 = .ok (.if_icmp .ge 40, 3) := by decide +kernel
theorem dX8_instrument_115 : decode cX8_instrument 115 = .ok (.aload_n 0, 1) := by decide +kernel
theorem dX8_instrument_116 : decode cX8_instrument 116 = .ok (.getfield 63, 3) := by decide +kernel
theorem dX8_instrument_119 : decode cX8_instrument 119 = .ok (.istore 4, 2) := by decide +kernel
theorem dX8_instrument_121 : decode cX8_instrument 121 = .ok (.aload_n 0, 1) := by decide +kernel
theorem dX8_instrument_122 : decode cX8_instrument 122 = .ok (.invokevirtual 72, 3) := by decide +kernel
theorem dX8_instrument_125 : decode cX8_instrument 125 = .ok (.istore 5, 2) := by decide +kernel
theorem dX8_instrument_127 : decode cX8_instrument 127 = .ok (.aload_n 0, 1) := by decide +kernel
theorem dX8_instrument_128 : decode cX8_instrument 128 = .ok (.invokevirtual 118, 3) := by decide +kernel
theorem dX8_instrument_131 : decode cX8_instrument 131 = .ok (.istore 6, 2) := by decide +kernel
theorem dX8_instrument_133 : decode cX8_instrument 133 = .ok (.aload_n 0, 1) := by decide +kernel
theorem dX8_instrument_134 : decode cX8_instrument 134 = .ok (.iload 5, 2) := by decide +kernel
theorem dX8_instrument_136 : decode cX8_instrument 136 = .ok (.invokevirtual 121, 3) := by decide +kernel
theorem dX8_instrument_139 : decode cX8_instrument 139 = .ok (.ifCond .ne 10, 3) := by decide +kernel
theorem dX8_instrument_142 : decode cX8_instrument 142 = .ok (.sipush (-2000), 3) := by decide +kernel
theorem dX8_instrument_145 : decode cX8_instrument 145 = .ok (.iload 4, 2) := by decide +kernel
theorem dX8_instrument_147 : decode cX8_instrument 147 = .ok (.isub, 1) := by decide +kernel
theorem dX8_instrument_148 : decode cX8_instrument 148 = .ok (.ireturn, 1) := by decide +kernel
theorem dX8_instrument_149 : decode cX8_instrument 149 = .ok (.goto (-45), 3) := by decide +kernel
theorem dX8_instrument_152 : decode cX8_instrument 152 = .ok (.iconst 0, 1) := by decide +kernel
theorem dX8_instrument_153 : decode cX8_instrument 153 = .ok (.istore 4, 2) := by decide +kernel
theorem dX8_instrument_155 : decode cX8_instrument 155 = .ok (.iload 4, 2) := by decide +kernel
theorem dX8_instrument_157 : decode cX8_instrument 157 = .ok (.sipush 535, 3) := by decide +kernel
theorem dX8_instrument_160 : decode cX8_instrument 160 = .ok (.if_icmp .ge 23, 3) := by decide +kernel
theorem dX8_instrument_163 : decode cX8_instrument 163 = .ok (.aload_n 0, 1) := by decide +kernel
theorem dX8_instrument_164 : decode cX8_instrument 164 = .ok (.getfield 9, 3) := by decide +kernel
theorem dX8_instrument_167 : decode cX8_instrument 167 = .ok (.iload 4, 2) := by decide +kernel
theorem dX8_instrument_169 : decode cX8_instrument 169 = .ok (.aload_n 0, 1) := by decide +kernel
theorem dX8_instrument_170 : decode cX8_instrument 170 = .ok (.getfield 16, 3) := by decide +kernel
theorem dX8_instrument_173 : decode cX8_instrument 173 = .ok (.iload 4, 2) := by decide +kernel
theorem dX8_instrument_175 : decode cX8_instrument 175 = .ok (.iaload, 1) := by decide +kernel
theorem dX8_instrument_176 : decode cX8_instrument 176 = .ok (.iastore, 1) := by decide +kernel
theorem dX8_instrument_177 : decode cX8_instrument 177 = .ok (.iinc 4 1, 3) := by decide +kernel
theorem dX8_instrument_180 : decode cX8_instrument 180 = .ok (.goto (-25), 3) := by decide +kernel
theorem dX8_instrument_183 : decode cX8_instrument 183 = .ok (.iload_n 3, 1) := by decide +kernel
theorem dX8_instrument_184 : decode cX8_instrument 184 = .ok (.ireturn, 1) := by decide +kernel
theorem dX8_toneWith_0 : decode cX8_toneWith 0 = .ok (.aload_n 0, 1) := by decide +kernel
theorem dX8_toneWith_1 : decode cX8_toneWith 1 = .ok (.iload_n 1, 1) := by decide +kernel
theorem dX8_toneWith_2 : decode cX8_toneWith 2 = .ok (.iconst 0, 1) := by decide +kernel
theorem dX8_toneWith_3 : decode cX8_toneWith 3 = .ok (.invokevirtual 124, 3) := by decide +kernel
theorem dX8_toneWith_6 : decode cX8_toneWith 6 = .ok (.istore_n 3, 1) := by decide +kernel
theorem dX8_toneWith_7 : decode cX8_toneWith 7 = .ok (.iload_n 3, 1) := by decide +kernel
theorem dX8_toneWith_8 : decode cX8_toneWith 8 = .ok (.iload_n 3, 1) := by decide +kernel
theorem dX8_toneWith_9 : decode cX8_toneWith 9 = .ok (.iload_n 2, 1) := by decide +kernel
theorem dX8_toneWith_10 : decode cX8_toneWith 10 = .ok (.imul, 1) := by decide +kernel
theorem dX8_toneWith_11 : decode cX8_toneWith 11 = .ok (.iconst 2, 1) := by decide +kernel
theorem dX8_toneWith_12 : decode cX8_toneWith 12 = .ok (.aload_n 0, 1) := by decide +kernel
theorem dX8_toneWith_13 : decode cX8_toneWith 13 = .ok (.iload_n 1, 1) := by decide +kernel
theorem dX8_toneWith_14 : decode cX8_toneWith 14 = .ok (.iconst 2, 1) := by decide +kernel
theorem dX8_toneWith_15 : decode cX8_toneWith 15 = .ok (.invokevirtual 124, 3) := by decide +kernel
theorem dX8_toneWith_18 : decode cX8_toneWith 18 = .ok (.imul, 1) := by decide +kernel
theorem dX8_toneWith_19 : decode cX8_toneWith 19 = .ok (.iload_n 2, 1) := by decide +kernel
theorem dX8_toneWith_20 : decode cX8_toneWith 20 = .ok (.iadd, 1) := by decide +kernel
theorem dX8_toneWith_21 : decode cX8_toneWith 21 = .ok (.idiv, 1) := by decide +kernel
theorem dX8_toneWith_22 : decode cX8_toneWith 22 = .ok (.isub, 1) := by decide +kernel
theorem dX8_toneWith_23 : decode cX8_toneWith 23 = .ok (.ireturn, 1) := by decide +kernel
theorem dX8_toneNow_0 : decode cX8_toneNow 0 = .ok (.aload_n 0, 1) := by decide +kernel
theorem dX8_toneNow_1 : decode cX8_toneNow 1 = .ok (.iload_n 1, 1) := by decide +kernel
theorem dX8_toneNow_2 : decode cX8_toneNow 2 = .ok (.aload_n 0, 1) := by decide +kernel
theorem dX8_toneNow_3 : decode cX8_toneNow 3 = .ok (.iload_n 1, 1) := by decide +kernel
theorem dX8_toneNow_4 : decode cX8_toneNow 4 = .ok (.iconst 5, 1) := by decide +kernel
theorem dX8_toneNow_5 : decode cX8_toneNow 5 = .ok (.invokevirtual 124, 3) := by decide +kernel
theorem dX8_toneNow_8 : decode cX8_toneNow 8 = .ok (.invokevirtual 127, 3) := by decide +kernel
theorem dX8_toneNow_11 : decode cX8_toneNow 11 = .ok (.ireturn, 1) := by decide +kernel
theorem dX8_lossNow_0 : decode cX8_lossNow 0 = .ok (.aload_n 0, 1) := by decide +kernel
theorem dX8_lossNow_1 : decode cX8_lossNow 1 = .ok (.getfield 9, 3) := by decide +kernel
theorem dX8_lossNow_4 : decode cX8_lossNow 4 = .ok (.iconst 3, 1) := by decide +kernel
theorem dX8_lossNow_5 : decode cX8_lossNow 5 = .ok (.iaload, 1) := by decide +kernel
theorem dX8_lossNow_6 : decode cX8_lossNow 6 = .ok (.iload_n 1, 1) := by decide +kernel
theorem dX8_lossNow_7 : decode cX8_lossNow 7 = .ok (.if_icmp .ne 14, 3) := by decide +kernel
theorem dX8_lossNow_10 : decode cX8_lossNow 10 = .ok (.iconst 2, 1) := by decide +kernel
theorem dX8_lossNow_11 : decode cX8_lossNow 11 = .ok (.aload_n 0, 1) := by decide +kernel
theorem dX8_lossNow_12 : decode cX8_lossNow 12 = .ok (.iload_n 1, 1) := by decide +kernel
theorem dX8_lossNow_13 : decode cX8_lossNow 13 = .ok (.iconst 1, 1) := by decide +kernel
theorem dX8_lossNow_14 : decode cX8_lossNow 14 = .ok (.invokevirtual 124, 3) := by decide +kernel
theorem dX8_lossNow_17 : decode cX8_lossNow 17 = .ok (.imul, 1) := by decide +kernel
theorem dX8_lossNow_18 : decode cX8_lossNow 18 = .ok (.goto 9, 3) := by decide +kernel
theorem dX8_lossNow_21 : decode cX8_lossNow 21 = .ok (.aload_n 0, 1) := by decide +kernel
theorem dX8_lossNow_22 : decode cX8_lossNow 22 = .ok (.iload_n 1, 1) := by decide +kernel
theorem dX8_lossNow_23 : decode cX8_lossNow 23 = .ok (.iconst 1, 1) := by decide +kernel
theorem dX8_lossNow_24 : decode cX8_lossNow 24 = .ok (.invokevirtual 124, 3) := by decide +kernel
theorem dX8_lossNow_27 : decode cX8_lossNow 27 = .ok (.ireturn, 1) := by decide +kernel
theorem dX8_piece_0 : decode cX8_piece 0 = .ok (.aload_n 0, 1) := by decide +kernel
theorem dX8_piece_1 : decode cX8_piece 1 = .ok (.iload_n 1, 1) := by decide +kernel
theorem dX8_piece_2 : decode cX8_piece 2 = .ok (.invokevirtual 130, 3) := by decide +kernel
theorem dX8_piece_5 : decode cX8_piece 5 = .ok (.ifCond .ne 5, 3) := by decide +kernel
theorem dX8_piece_8 : decode cX8_piece 8 = .ok (.iconst (-1), 1) := by decide +kernel
theorem dX8_piece_9 : decode cX8_piece 9 = .ok (.ireturn, 1) := by decide +kernel
theorem dX8_piece_10 : decode cX8_piece 10 = .ok (.iload_n 2, 1) := by decide +kernel
theorem dX8_piece_11 : decode cX8_piece 11 = .ok (.tableswitch 64 0 7 #[45, 45, 45, 45, 45, 45, 52, 58], 45) := by decide +kernel
theorem dX8_piece_56 : decode cX8_piece 56 = .ok (.aload_n 0, 1) := by decide +kernel
theorem dX8_piece_57 : decode cX8_piece 57 = .ok (.iload_n 1, 1) := by decide +kernel
theorem dX8_piece_58 : decode cX8_piece 58 = .ok (.iload_n 2, 1) := by decide +kernel
theorem dX8_piece_59 : decode cX8_piece 59 = .ok (.invokevirtual 124, 3) := by decide +kernel
theorem dX8_piece_62 : decode cX8_piece 62 = .ok (.ireturn, 1) := by decide +kernel
theorem dX8_piece_63 : decode cX8_piece 63 = .ok (.aload_n 0, 1) := by decide +kernel
theorem dX8_piece_64 : decode cX8_piece 64 = .ok (.iload_n 1, 1) := by decide +kernel
theorem dX8_piece_65 : decode cX8_piece 65 = .ok (.invokevirtual 133, 3) := by decide +kernel
theorem dX8_piece_68 : decode cX8_piece 68 = .ok (.ireturn, 1) := by decide +kernel
theorem dX8_piece_69 : decode cX8_piece 69 = .ok (.aload_n 0, 1) := by decide +kernel
theorem dX8_piece_70 : decode cX8_piece 70 = .ok (.iload_n 1, 1) := by decide +kernel
theorem dX8_piece_71 : decode cX8_piece 71 = .ok (.invokevirtual 137, 3) := by decide +kernel
theorem dX8_piece_74 : decode cX8_piece 74 = .ok (.ireturn, 1) := by decide +kernel
theorem dX8_piece_75 : decode cX8_piece 75 = .ok (.iconst (-1), 1) := by decide +kernel
theorem dX8_piece_76 : decode cX8_piece 76 = .ok (.ireturn, 1) := by decide +kernel
theorem dX8_priceOf_0 : decode cX8_priceOf 0 = .ok (.aload_n 0, 1) := by decide +kernel
theorem dX8_priceOf_1 : decode cX8_priceOf 1 = .ok (.iload_n 1, 1) := by decide +kernel
theorem dX8_priceOf_2 : decode cX8_priceOf 2 = .ok (.iconst 3, 1) := by decide +kernel
theorem dX8_priceOf_3 : decode cX8_priceOf 3 = .ok (.invokevirtual 140, 3) := by decide +kernel
theorem dX8_priceOf_6 : decode cX8_priceOf 6 = .ok (.istore_n 2, 1) := by decide +kernel
theorem dX8_priceOf_7 : decode cX8_priceOf 7 = .ok (.aload_n 0, 1) := by decide +kernel
theorem dX8_priceOf_8 : decode cX8_priceOf 8 = .ok (.iload_n 1, 1) := by decide +kernel
theorem dX8_priceOf_9 : decode cX8_priceOf 9 = .ok (.iconst 0, 1) := by decide +kernel
theorem dX8_priceOf_10 : decode cX8_priceOf 10 = .ok (.invokevirtual 140, 3) := by decide +kernel
theorem dX8_priceOf_13 : decode cX8_priceOf 13 = .ok (.tableswitch 66 1 7 #[43, 47, 50, 52, 57, 62, 64], 43) := by decide +kernel
theorem dX8_priceOf_56 : decode cX8_priceOf 56 = .ok (.iconst 5, 1) := by decide +kernel
theorem dX8_priceOf_57 : decode cX8_priceOf 57 = .ok (.iload_n 2, 1) := by decide +kernel
theorem dX8_priceOf_58 : decode cX8_priceOf 58 = .ok (.iadd, 1) := by decide +kernel
theorem dX8_priceOf_59 : decode cX8_priceOf 59 = .ok (.ireturn, 1) := by decide +kernel
theorem dX8_priceOf_60 : decode cX8_priceOf 60 = .ok (.bipush 15, 2) := by decide +kernel
theorem dX8_priceOf_62 : decode cX8_priceOf 62 = .ok (.ireturn, 1) := by decide +kernel
theorem dX8_priceOf_63 : decode cX8_priceOf 63 = .ok (.iconst 2, 1) := by decide +kernel
theorem dX8_priceOf_64 : decode cX8_priceOf 64 = .ok (.ireturn, 1) := by decide +kernel
theorem dX8_priceOf_65 : decode cX8_priceOf 65 = .ok (.bipush 45, 2) := by decide +kernel
theorem dX8_priceOf_67 : decode cX8_priceOf 67 = .ok (.iload_n 2, 1) := by decide +kernel
theorem dX8_priceOf_68 : decode cX8_priceOf 68 = .ok (.iadd, 1) := by decide +kernel
theorem dX8_priceOf_69 : decode cX8_priceOf 69 = .ok (.ireturn, 1) := by decide +kernel
theorem dX8_priceOf_70 : decode cX8_priceOf 70 = .ok (.bipush 10, 2) := by decide +kernel
theorem dX8_priceOf_72 : decode cX8_priceOf 72 = .ok (.iload_n 2, 1) := by decide +kernel
theorem dX8_priceOf_73 : decode cX8_priceOf 73 = .ok (.iadd, 1) := by decide +kernel
theorem dX8_priceOf_74 : decode cX8_priceOf 74 = .ok (.ireturn, 1) := by decide +kernel
theorem dX8_priceOf_75 : decode cX8_priceOf 75 = .ok (.iconst 0, 1) := by decide +kernel
theorem dX8_priceOf_76 : decode cX8_priceOf 76 = .ok (.ireturn, 1) := by decide +kernel
theorem dX8_priceOf_77 : decode cX8_priceOf 77 = .ok (.iconst 1, 1) := by decide +kernel
theorem dX8_priceOf_78 : decode cX8_priceOf 78 = .ok (.ireturn, 1) := by decide +kernel
theorem dX8_priceOf_79 : decode cX8_priceOf 79 = .ok (.iconst 5, 1) := by decide +kernel
theorem dX8_priceOf_80 : decode cX8_priceOf 80 = .ok (.ireturn, 1) := by decide +kernel
theorem dX8_thing_0 : decode cX8_thing 0 = .ok (.aload_n 0, 1) := by decide +kernel
theorem dX8_thing_1 : decode cX8_thing 1 = .ok (.iload_n 1, 1) := by decide +kernel
theorem dX8_thing_2 : decode cX8_thing 2 = .ok (.invokevirtual 143, 3) := by decide +kernel
theorem dX8_thing_5 : decode cX8_thing 5 = .ok (.ifCond .eq 15, 3) := by decide +kernel
theorem dX8_thing_8 : decode cX8_thing 8 = .ok (.iload_n 2, 1) := by decide +kernel
theorem dX8_thing_9 : decode cX8_thing 9 = .ok (.i2l, 1) := by decide +kernel
theorem dX8_thing_10 : decode cX8_thing 10 = .ok (.lconst 0, 1) := by decide +kernel
theorem dX8_thing_11 : decode cX8_thing 11 = .ok (.ldc2_w 146, 3) := by decide +kernel
theorem dX8_thing_14 : decode cX8_thing 14 = .ok (.invokestatic 53, 3) := by decide +kernel
theorem dX8_thing_17 : decode cX8_thing 17 = .ok (.ifCond .ne 7, 3) := by decide +kernel
theorem dX8_thing_20 : decode cX8_thing 20 = .ok (.iconst (-1), 1) := by decide +kernel
theorem dX8_thing_21 : decode cX8_thing 21 = .ok (.goto 22, 3) := by decide +kernel
theorem dX8_thing_24 : decode cX8_thing 24 = .ok (.iload_n 2, 1) := by decide +kernel
theorem dX8_thing_25 : decode cX8_thing 25 = .ok (.iconst 5, 1) := by decide +kernel
theorem dX8_thing_26 : decode cX8_thing 26 = .ok (.if_icmp .ne 11, 3) := by decide +kernel
theorem dX8_thing_29 : decode cX8_thing 29 = .ok (.aload_n 0, 1) := by decide +kernel
theorem dX8_thing_30 : decode cX8_thing 30 = .ok (.iload_n 1, 1) := by decide +kernel
theorem dX8_thing_31 : decode cX8_thing 31 = .ok (.invokevirtual 148, 3) := by decide +kernel
theorem dX8_thing_34 : decode cX8_thing 34 = .ok (.goto 9, 3) := by decide +kernel
theorem dX8_thing_37 : decode cX8_thing 37 = .ok (.aload_n 0, 1) := by decide +kernel
theorem dX8_thing_38 : decode cX8_thing 38 = .ok (.iload_n 1, 1) := by decide +kernel
theorem dX8_thing_39 : decode cX8_thing 39 = .ok (.iload_n 2, 1) := by decide +kernel
theorem dX8_thing_40 : decode cX8_thing 40 = .ok (.invokevirtual 140, 3) := by decide +kernel
theorem dX8_thing_43 : decode cX8_thing 43 = .ok (.ireturn, 1) := by decide +kernel
theorem dX8_wax_0 : decode cX8_wax 0 = .ok (.aload_n 0, 1) := by decide +kernel
theorem dX8_wax_1 : decode cX8_wax 1 = .ok (.iload_n 1, 1) := by decide +kernel
theorem dX8_wax_2 : decode cX8_wax 2 = .ok (.invokevirtual 130, 3) := by decide +kernel
theorem dX8_wax_5 : decode cX8_wax 5 = .ok (.ifCond .eq 32, 3) := by decide +kernel
theorem dX8_wax_8 : decode cX8_wax 8 = .ok (.iload_n 2, 1) := by decide +kernel
theorem dX8_wax_9 : decode cX8_wax 9 = .ok (.i2l, 1) := by decide +kernel
theorem dX8_wax_10 : decode cX8_wax 10 = .ok (.lconst 0, 1) := by decide +kernel
theorem dX8_wax_11 : decode cX8_wax 11 = .ok (.ldc2_w 151, 3) := by decide +kernel
theorem dX8_wax_14 : decode cX8_wax 14 = .ok (.invokestatic 53, 3) := by decide +kernel
theorem dX8_wax_17 : decode cX8_wax 17 = .ok (.ifCond .eq 20, 3) := by decide +kernel
theorem dX8_wax_20 : decode cX8_wax 20 = .ok (.aload_n 0, 1) := by decide +kernel
theorem dX8_wax_21 : decode cX8_wax 21 = .ok (.bipush 8, 2) := by decide +kernel
theorem dX8_wax_23 : decode cX8_wax 23 = .ok (.bipush 6, 2) := by decide +kernel
theorem dX8_wax_25 : decode cX8_wax 25 = .ok (.iload_n 1, 1) := by decide +kernel
theorem dX8_wax_26 : decode cX8_wax 26 = .ok (.imul, 1) := by decide +kernel
theorem dX8_wax_27 : decode cX8_wax 27 = .ok (.iadd, 1) := by decide +kernel
theorem dX8_wax_28 : decode cX8_wax 28 = .ok (.iconst 5, 1) := by decide +kernel
theorem dX8_wax_29 : decode cX8_wax 29 = .ok (.iadd, 1) := by decide +kernel
theorem dX8_wax_30 : decode cX8_wax 30 = .ok (.iload_n 2, 1) := by decide +kernel
theorem dX8_wax_31 : decode cX8_wax 31 = .ok (.invokevirtual 153, 3) := by decide +kernel
theorem dX8_wax_34 : decode cX8_wax 34 = .ok (.goto 4, 3) := by decide +kernel
theorem dX8_wax_37 : decode cX8_wax 37 = .ok (.iconst (-1), 1) := by decide +kernel
theorem dX8_wax_38 : decode cX8_wax 38 = .ok (.ireturn, 1) := by decide +kernel
theorem dX8_hand_0 : decode cX8_hand 0 = .ok (.iload_n 1, 1) := by decide +kernel
theorem dX8_hand_1 : decode cX8_hand 1 = .ok (.iconst (-1), 1) := by decide +kernel
theorem dX8_hand_2 : decode cX8_hand 2 = .ok (.if_icmp .ne 13, 3) := by decide +kernel
theorem dX8_hand_5 : decode cX8_hand 5 = .ok (.aload_n 0, 1) := by decide +kernel
theorem dX8_hand_6 : decode cX8_hand 6 = .ok (.iconst 3, 1) := by decide +kernel
theorem dX8_hand_7 : decode cX8_hand 7 = .ok (.bipush (-4), 2) := by decide +kernel
theorem dX8_hand_9 : decode cX8_hand 9 = .ok (.invokevirtual 153, 3) := by decide +kernel
theorem dX8_hand_12 : decode cX8_hand 12 = .ok (.goto 22, 3) := by decide +kernel
theorem dX8_hand_15 : decode cX8_hand 15 = .ok (.aload_n 0, 1) := by decide +kernel
theorem dX8_hand_16 : decode cX8_hand 16 = .ok (.iload_n 1, 1) := by decide +kernel
theorem dX8_hand_17 : decode cX8_hand 17 = .ok (.invokevirtual 130, 3) := by decide +kernel
theorem dX8_hand_20 : decode cX8_hand 20 = .ok (.ifCond .eq 12, 3) := by decide +kernel
theorem dX8_hand_23 : decode cX8_hand 23 = .ok (.aload_n 0, 1) := by decide +kernel
theorem dX8_hand_24 : decode cX8_hand 24 = .ok (.iconst 3, 1) := by decide +kernel
theorem dX8_hand_25 : decode cX8_hand 25 = .ok (.iload_n 1, 1) := by decide +kernel
theorem dX8_hand_26 : decode cX8_hand 26 = .ok (.invokevirtual 153, 3) := by decide +kernel
theorem dX8_hand_29 : decode cX8_hand 29 = .ok (.goto 5, 3) := by decide +kernel
theorem dX8_hand_32 : decode cX8_hand 32 = .ok (.ldc 156, 2) := by decide +kernel
theorem dX8_hand_34 : decode cX8_hand 34 = .ok (.ireturn, 1) := by decide +kernel
theorem dX8_isValue_0 : decode cX8_isValue 0 = .ok (.iload_n 0, 1) := by decide +kernel
theorem dX8_isValue_1 : decode cX8_isValue 1 = .ok (.tableswitch 55 0 2 #[27, 37, 45], 27) := by decide +kernel
theorem dX8_isValue_28 : decode cX8_isValue 28 = .ok (.iload_n 1, 1) := by decide +kernel
theorem dX8_isValue_29 : decode cX8_isValue 29 = .ok (.i2l, 1) := by decide +kernel
theorem dX8_isValue_30 : decode cX8_isValue 30 = .ok (.lconst 0, 1) := by decide +kernel
theorem dX8_isValue_31 : decode cX8_isValue 31 = .ok (.ldc2_w 151, 3) := by decide +kernel
theorem dX8_isValue_34 : decode cX8_isValue 34 = .ok (.invokestatic 53, 3) := by decide +kernel
theorem dX8_isValue_37 : decode cX8_isValue 37 = .ok (.ireturn, 1) := by decide +kernel
theorem dX8_isValue_38 : decode cX8_isValue 38 = .ok (.iload_n 1, 1) := by decide +kernel
theorem dX8_isValue_39 : decode cX8_isValue 39 = .ok (.i2l, 1) := by decide +kernel
theorem dX8_isValue_40 : decode cX8_isValue 40 = .ok (.lconst 0, 1) := by decide +kernel
theorem dX8_isValue_41 : decode cX8_isValue 41 = .ok (.lconst 1, 1) := by decide +kernel
theorem dX8_isValue_42 : decode cX8_isValue 42 = .ok (.invokestatic 53, 3) := by decide +kernel
theorem dX8_isValue_45 : decode cX8_isValue 45 = .ok (.ireturn, 1) := by decide +kernel
theorem dX8_isValue_46 : decode cX8_isValue 46 = .ok (.iload_n 1, 1) := by decide +kernel
theorem dX8_isValue_47 : decode cX8_isValue 47 = .ok (.i2l, 1) := by decide +kernel
theorem dX8_isValue_48 : decode cX8_isValue 48 = .ok (.lconst 0, 1) := by decide +kernel
theorem dX8_isValue_49 : decode cX8_isValue 49 = .ok (.ldc2_w 157, 3) := by decide +kernel
theorem dX8_isValue_52 : decode cX8_isValue 52 = .ok (.invokestatic 53, 3) := by decide +kernel
theorem dX8_isValue_55 : decode cX8_isValue 55 = .ok (.ireturn, 1) := by decide +kernel
theorem dX8_isValue_56 : decode cX8_isValue 56 = .ok (.iload_n 0, 1) := by decide +kernel
theorem dX8_isValue_57 : decode cX8_isValue 57 = .ok (.iconst 3, 1) := by decide +kernel
theorem dX8_isValue_58 : decode cX8_isValue 58 = .ok (.if_icmp .ne 21, 3) := by decide +kernel
theorem dX8_isValue_61 : decode cX8_isValue 61 = .ok (.iload_n 1, 1) := by decide +kernel
theorem dX8_isValue_62 : decode cX8_isValue 62 = .ok (.i2l, 1) := by decide +kernel
theorem dX8_isValue_63 : decode cX8_isValue 63 = .ok (.ldc2_w 159, 3) := by decide +kernel
theorem dX8_isValue_66 : decode cX8_isValue 66 = .ok (.ldc2_w 161, 3) := by decide +kernel
theorem dX8_isValue_69 : decode cX8_isValue 69 = .ok (.invokestatic 53, 3) := by decide +kernel
theorem dX8_isValue_72 : decode cX8_isValue 72 = .ok (.ifCond .eq 7, 3) := by decide +kernel
theorem dX8_isValue_75 : decode cX8_isValue 75 = .ok (.iconst 1, 1) := by decide +kernel
theorem dX8_isValue_76 : decode cX8_isValue 76 = .ok (.goto 4, 3) := by decide +kernel
theorem dX8_isValue_79 : decode cX8_isValue 79 = .ok (.iconst 0, 1) := by decide +kernel
theorem dX8_isValue_80 : decode cX8_isValue 80 = .ok (.ireturn, 1) := by decide +kernel
theorem dX8_set_0 : decode cX8_set 0 = .ok (.iload_n 1, 1) := by decide +kernel
theorem dX8_set_1 : decode cX8_set 1 = .ok (.iload_n 2, 1) := by decide +kernel
theorem dX8_set_2 : decode cX8_set 2 = .ok (.invokestatic 163, 3) := by decide +kernel
theorem dX8_set_5 : decode cX8_set 5 = .ok (.ifCond .eq 14, 3) := by decide +kernel
theorem dX8_set_8 : decode cX8_set 8 = .ok (.aload_n 0, 1) := by decide +kernel
theorem dX8_set_9 : decode cX8_set 9 = .ok (.iconst 4, 1) := by decide +kernel
theorem dX8_set_10 : decode cX8_set 10 = .ok (.iload_n 1, 1) := by decide +kernel
theorem dX8_set_11 : decode cX8_set 11 = .ok (.iadd, 1) := by decide +kernel
theorem dX8_set_12 : decode cX8_set 12 = .ok (.iload_n 2, 1) := by decide +kernel
theorem dX8_set_13 : decode cX8_set 13 = .ok (.invokevirtual 153, 3) := by decide +kernel
theorem dX8_set_16 : decode cX8_set 16 = .ok (.goto 5, 3) := by decide +kernel
theorem dX8_set_19 : decode cX8_set 19 = .ok (.ldc 156, 2) := by decide +kernel
theorem dX8_set_21 : decode cX8_set 21 = .ok (.ireturn, 1) := by decide +kernel
theorem dX8_swingOf_0 : decode cX8_swingOf 0 = .ok (.bipush 100, 2) := by decide +kernel
theorem dX8_swingOf_2 : decode cX8_swingOf 2 = .ok (.iload_n 3, 1) := by decide +kernel
theorem dX8_swingOf_3 : decode cX8_swingOf 3 = .ok (.imul, 1) := by decide +kernel
theorem dX8_swingOf_4 : decode cX8_swingOf 4 = .ok (.aload_n 0, 1) := by decide +kernel
theorem dX8_swingOf_5 : decode cX8_swingOf 5 = .ok (.iload_n 1, 1) := by decide +kernel
theorem dX8_swingOf_6 : decode cX8_swingOf 6 = .ok (.invokevirtual 137, 3) := by decide +kernel
theorem dX8_swingOf_9 : decode cX8_swingOf 9 = .ok (.iload_n 2, 1) := by decide +kernel
theorem dX8_swingOf_10 : decode cX8_swingOf 10 = .ok (.aload_n 0, 1) := by decide +kernel
theorem dX8_swingOf_11 : decode cX8_swingOf 11 = .ok (.iload_n 1, 1) := by decide +kernel
theorem dX8_swingOf_12 : decode cX8_swingOf 12 = .ok (.invokevirtual 133, 3) := by decide +kernel
theorem dX8_swingOf_15 : decode cX8_swingOf 15 = .ok (.isub, 1) := by decide +kernel
theorem dX8_swingOf_16 : decode cX8_swingOf 16 = .ok (.invokestatic 167, 3) := by decide +kernel
theorem dX8_swingOf_19 : decode cX8_swingOf 19 = .ok (.iadd, 1) := by decide +kernel
theorem dX8_swingOf_20 : decode cX8_swingOf 20 = .ok (.idiv, 1) := by decide +kernel
theorem dX8_swingOf_21 : decode cX8_swingOf 21 = .ok (.istore 4, 2) := by decide +kernel
theorem dX8_swingOf_23 : decode cX8_swingOf 23 = .ok (.aload_n 0, 1) := by decide +kernel
theorem dX8_swingOf_24 : decode cX8_swingOf 24 = .ok (.iload_n 1, 1) := by decide +kernel
theorem dX8_swingOf_25 : decode cX8_swingOf 25 = .ok (.iconst 3, 1) := by decide +kernel
theorem dX8_swingOf_26 : decode cX8_swingOf 26 = .ok (.invokevirtual 124, 3) := by decide +kernel
theorem dX8_swingOf_29 : decode cX8_swingOf 29 = .ok (.ifCond .ge 6, 3) := by decide +kernel
theorem dX8_swingOf_32 : decode cX8_swingOf 32 = .ok (.iload 4, 2) := by decide +kernel
theorem dX8_swingOf_34 : decode cX8_swingOf 34 = .ok (.ireturn, 1) := by decide +kernel
theorem dX8_swingOf_35 : decode cX8_swingOf 35 = .ok (.iload 4, 2) := by decide +kernel
theorem dX8_swingOf_37 : decode cX8_swingOf 37 = .ok (.aload_n 0, 1) := by decide +kernel
theorem dX8_swingOf_38 : decode cX8_swingOf 38 = .ok (.iload_n 1, 1) := by decide +kernel
theorem dX8_swingOf_39 : decode cX8_swingOf 39 = .ok (.iconst 4, 1) := by decide +kernel
theorem dX8_swingOf_40 : decode cX8_swingOf 40 = .ok (.invokevirtual 124, 3) := by decide +kernel
theorem dX8_swingOf_43 : decode cX8_swingOf 43 = .ok (.aload_n 0, 1) := by decide +kernel
theorem dX8_swingOf_44 : decode cX8_swingOf 44 = .ok (.getfield 9, 3) := by decide +kernel
theorem dX8_swingOf_47 : decode cX8_swingOf 47 = .ok (.bipush 7, 2) := by decide +kernel
theorem dX8_swingOf_49 : decode cX8_swingOf 49 = .ok (.iaload, 1) := by decide +kernel
theorem dX8_swingOf_50 : decode cX8_swingOf 50 = .ok (.iadd, 1) := by decide +kernel
theorem dX8_swingOf_51 : decode cX8_swingOf 51 = .ok (.iconst 0, 1) := by decide +kernel
theorem dX8_swingOf_52 : decode cX8_swingOf 52 = .ok (.bipush 99, 2) := by decide +kernel
theorem dX8_swingOf_54 : decode cX8_swingOf 54 = .ok (.invokestatic 170, 3) := by decide +kernel
theorem dX8_swingOf_57 : decode cX8_swingOf 57 = .ok (.aload_n 0, 1) := by decide +kernel
theorem dX8_swingOf_58 : decode cX8_swingOf 58 = .ok (.aload_n 0, 1) := by decide +kernel
theorem dX8_swingOf_59 : decode cX8_swingOf 59 = .ok (.iload_n 1, 1) := by decide +kernel
theorem dX8_swingOf_60 : decode cX8_swingOf 60 = .ok (.iconst 3, 1) := by decide +kernel
theorem dX8_swingOf_61 : decode cX8_swingOf 61 = .ok (.invokevirtual 124, 3) := by decide +kernel
theorem dX8_swingOf_64 : decode cX8_swingOf 64 = .ok (.iload_n 2, 1) := by decide +kernel
theorem dX8_swingOf_65 : decode cX8_swingOf 65 = .ok (.iload_n 3, 1) := by decide +kernel
theorem dX8_swingOf_66 : decode cX8_swingOf 66 = .ok (.invokevirtual 174, 3) := by decide +kernel
theorem dX8_swingOf_69 : decode cX8_swingOf 69 = .ok (.imul, 1) := by decide +kernel
theorem dX8_swingOf_70 : decode cX8_swingOf 70 = .ok (.bipush 100, 2) := by decide +kernel
theorem dX8_swingOf_72 : decode cX8_swingOf 72 = .ok (.idiv, 1) := by decide +kernel
theorem dX8_swingOf_73 : decode cX8_swingOf 73 = .ok (.iadd, 1) := by decide +kernel
theorem dX8_swingOf_74 : decode cX8_swingOf 74 = .ok (.ireturn, 1) := by decide +kernel
theorem dX8_swing_0 : decode cX8_swing 0 = .ok (.aload_n 0, 1) := by decide +kernel
theorem dX8_swing_1 : decode cX8_swing 1 = .ok (.iload_n 1, 1) := by decide +kernel
theorem dX8_swing_2 : decode cX8_swing 2 = .ok (.invokevirtual 130, 3) := by decide +kernel
theorem dX8_swing_5 : decode cX8_swing 5 = .ok (.ifCond .eq 27, 3) := by decide +kernel
theorem dX8_swing_8 : decode cX8_swing 8 = .ok (.iload_n 2, 1) := by decide +kernel
theorem dX8_swing_9 : decode cX8_swing 9 = .ok (.invokestatic 177, 3) := by decide +kernel
theorem dX8_swing_12 : decode cX8_swing 12 = .ok (.ifCond .eq 20, 3) := by decide +kernel
theorem dX8_swing_15 : decode cX8_swing 15 = .ok (.iload_n 3, 1) := by decide +kernel
theorem dX8_swing_16 : decode cX8_swing 16 = .ok (.invokestatic 180, 3) := by decide +kernel
theorem dX8_swing_19 : decode cX8_swing 19 = .ok (.ifCond .eq 13, 3) := by decide +kernel
theorem dX8_swing_22 : decode cX8_swing 22 = .ok (.aload_n 0, 1) := by decide +kernel
theorem dX8_swing_23 : decode cX8_swing 23 = .ok (.iload_n 1, 1) := by decide +kernel
theorem dX8_swing_24 : decode cX8_swing 24 = .ok (.iload_n 2, 1) := by decide +kernel
theorem dX8_swing_25 : decode cX8_swing 25 = .ok (.iload_n 3, 1) := by decide +kernel
theorem dX8_swing_26 : decode cX8_swing 26 = .ok (.invokevirtual 174, 3) := by decide +kernel
theorem dX8_swing_29 : decode cX8_swing 29 = .ok (.goto 4, 3) := by decide +kernel
theorem dX8_swing_32 : decode cX8_swing 32 = .ok (.iconst (-1), 1) := by decide +kernel
theorem dX8_swing_33 : decode cX8_swing 33 = .ok (.ireturn, 1) := by decide +kernel
theorem dX8_swingsOf_0 : decode cX8_swingsOf 0 = .ok (.aload_n 0, 1) := by decide +kernel
theorem dX8_swingsOf_1 : decode cX8_swingsOf 1 = .ok (.iload_n 1, 1) := by decide +kernel
theorem dX8_swingsOf_2 : decode cX8_swingsOf 2 = .ok (.iconst 1, 1) := by decide +kernel
theorem dX8_swingsOf_3 : decode cX8_swingsOf 3 = .ok (.invokevirtual 140, 3) := by decide +kernel
theorem dX8_swingsOf_6 : decode cX8_swingsOf 6 = .ok (.istore 4, 2) := by decide +kernel
theorem dX8_swingsOf_8 : decode cX8_swingsOf 8 = .ok (.aload_n 0, 1) := by decide +kernel
theorem dX8_swingsOf_9 : decode cX8_swingsOf 9 = .ok (.iload_n 1, 1) := by decide +kernel
theorem dX8_swingsOf_10 : decode cX8_swingsOf 10 = .ok (.iconst 0, 1) := by decide +kernel
theorem dX8_swingsOf_11 : decode cX8_swingsOf 11 = .ok (.invokevirtual 140, 3) := by decide +kernel
theorem dX8_swingsOf_14 : decode cX8_swingsOf 14 = .ok (.tableswitch 172 2 7 #[38, 172, 172, 75, 116, 139], 38) := by decide +kernel
theorem dX8_swingsOf_52 : decode cX8_swingsOf 52 = .ok (.aload_n 0, 1) := by decide +kernel
theorem dX8_swingsOf_53 : decode cX8_swingsOf 53 = .ok (.iload 4, 2) := by decide +kernel
theorem dX8_swingsOf_55 : decode cX8_swingsOf 55 = .ok (.iload_n 2, 1) := by decide +kernel
theorem dX8_swingsOf_56 : decode cX8_swingsOf 56 = .ok (.iload_n 3, 1) := by decide +kernel
theorem dX8_swingsOf_57 : decode cX8_swingsOf 57 = .ok (.invokevirtual 174, 3) := by decide +kernel
theorem dX8_swingsOf_60 : decode cX8_swingsOf 60 = .ok (.istore 5, 2) := by decide +kernel
theorem dX8_swingsOf_62 : decode cX8_swingsOf 62 = .ok (.aload_n 0, 1) := by decide +kernel
theorem dX8_swingsOf_63 : decode cX8_swingsOf 63 = .ok (.iload 4, 2) := by decide +kernel
theorem dX8_swingsOf_65 : decode cX8_swingsOf 65 = .ok (.iconst 2, 1) := by decide +kernel
theorem dX8_swingsOf_66 : decode cX8_swingsOf 66 = .ok (.iload_n 2, 1) := by decide +kernel
theorem dX8_swingsOf_67 : decode cX8_swingsOf 67 = .ok (.imul, 1) := by decide +kernel
theorem dX8_swingsOf_68 : decode cX8_swingsOf 68 = .ok (.iload_n 3, 1) := by decide +kernel
theorem dX8_swingsOf_69 : decode cX8_swingsOf 69 = .ok (.invokevirtual 174, 3) := by decide +kernel
theorem dX8_swingsOf_72 : decode cX8_swingsOf 72 = .ok (.istore 6, 2) := by decide +kernel
theorem dX8_swingsOf_74 : decode cX8_swingsOf 74 = .ok (.iload 5, 2) := by decide +kernel
theorem dX8_swingsOf_76 : decode cX8_swingsOf 76 = .ok (.iload 6, 2) := by decide +kernel
theorem dX8_swingsOf_78 : decode cX8_swingsOf 78 = .ok (.if_icmp .le 8, 3) := by decide +kernel
theorem dX8_swingsOf_81 : decode cX8_swingsOf 81 = .ok (.iload 5, 2) := by decide +kernel
theorem dX8_swingsOf_83 : decode cX8_swingsOf 83 = .ok (.goto 5, 3) := by decide +kernel
theorem dX8_swingsOf_86 : decode cX8_swingsOf 86 = .ok (.iload 6, 2) := by decide +kernel
theorem dX8_swingsOf_88 : decode cX8_swingsOf 88 = .ok (.ireturn, 1) := by decide +kernel
theorem dX8_swingsOf_89 : decode cX8_swingsOf 89 = .ok (.iconst 0, 1) := by decide +kernel
theorem dX8_swingsOf_90 : decode cX8_swingsOf 90 = .ok (.istore 5, 2) := by decide +kernel
theorem dX8_swingsOf_92 : decode cX8_swingsOf 92 = .ok (.iconst 0, 1) := by decide +kernel
theorem dX8_swingsOf_93 : decode cX8_swingsOf 93 = .ok (.istore 6, 2) := by decide +kernel
theorem dX8_swingsOf_95 : decode cX8_swingsOf 95 = .ok (.iload 6, 2) := by decide +kernel
theorem dX8_swingsOf_97 : decode cX8_swingsOf 97 = .ok (.aload_n 0, 1) := by decide +kernel
theorem dX8_swingsOf_98 : decode cX8_swingsOf 98 = .ok (.getfield 9, 3) := by decide +kernel
theorem dX8_swingsOf_101 : decode cX8_swingsOf 101 = .ok (.iconst 0, 1) := by decide +kernel
theorem dX8_swingsOf_102 : decode cX8_swingsOf 102 = .ok (.iaload, 1) := by decide +kernel
theorem dX8_swingsOf_103 : decode cX8_swingsOf 103 = .ok (.if_icmp .ge 22, 3) := by decide +kernel
theorem dX8_swingsOf_106 : decode cX8_swingsOf 106 = .ok (.iload 5, 2) := by decide +kernel
theorem dX8_swingsOf_108 : decode cX8_swingsOf 108 = .ok (.aload_n 0, 1) := by decide +kernel
theorem dX8_swingsOf_109 : decode cX8_swingsOf 109 = .ok (.iload 6, 2) := by decide +kernel
theorem dX8_swingsOf_111 : decode cX8_swingsOf 111 = .ok (.iload_n 2, 1) := by decide +kernel
theorem dX8_swingsOf_112 : decode cX8_swingsOf 112 = .ok (.iload_n 3, 1) := by decide +kernel
theorem dX8_swingsOf_113 : decode cX8_swingsOf 113 = .ok (.invokevirtual 174, 3) := by decide +kernel
theorem dX8_swingsOf_116 : decode cX8_swingsOf 116 = .ok (.iadd, 1) := by decide +kernel
theorem dX8_swingsOf_117 : decode cX8_swingsOf 117 = .ok (.istore 5, 2) := by decide +kernel
theorem dX8_swingsOf_119 : decode cX8_swingsOf 119 = .ok (.iinc 6 1, 3) := by decide +kernel
theorem dX8_swingsOf_122 : decode cX8_swingsOf 122 = .ok (.goto (-27), 3) := by decide +kernel
theorem dX8_swingsOf_125 : decode cX8_swingsOf 125 = .ok (.iload 5, 2) := by decide +kernel
theorem dX8_swingsOf_127 : decode cX8_swingsOf 127 = .ok (.iconst 4, 1) := by decide +kernel
theorem dX8_swingsOf_128 : decode cX8_swingsOf 128 = .ok (.idiv, 1) := by decide +kernel
theorem dX8_swingsOf_129 : decode cX8_swingsOf 129 = .ok (.ireturn, 1) := by decide +kernel
theorem dX8_swingsOf_130 : decode cX8_swingsOf 130 = .ok (.aload_n 0, 1) := by decide +kernel
theorem dX8_swingsOf_131 : decode cX8_swingsOf 131 = .ok (.getfield 9, 3) := by decide +kernel
theorem dX8_swingsOf_134 : decode cX8_swingsOf 134 = .ok (.iconst 5, 1) := by decide +kernel
theorem dX8_swingsOf_135 : decode cX8_swingsOf 135 = .ok (.iaload, 1) := by decide +kernel
theorem dX8_swingsOf_136 : decode cX8_swingsOf 136 = .ok (.iconst 1, 1) := by decide +kernel
theorem dX8_swingsOf_137 : decode cX8_swingsOf 137 = .ok (.if_icmp .ne 14, 3) := by decide +kernel
theorem dX8_swingsOf_140 : decode cX8_swingsOf 140 = .ok (.aload_n 0, 1) := by decide +kernel
theorem dX8_swingsOf_141 : decode cX8_swingsOf 141 = .ok (.iload 4, 2) := by decide +kernel
theorem dX8_swingsOf_143 : decode cX8_swingsOf 143 = .ok (.iload_n 2, 1) := by decide +kernel
theorem dX8_swingsOf_144 : decode cX8_swingsOf 144 = .ok (.iload_n 3, 1) := by decide +kernel
theorem dX8_swingsOf_145 : decode cX8_swingsOf 145 = .ok (.invokevirtual 174, 3) := by decide +kernel
theorem dX8_swingsOf_148 : decode cX8_swingsOf 148 = .ok (.goto 4, 3) := by decide +kernel
theorem dX8_swingsOf_151 : decode cX8_swingsOf 151 = .ok (.iconst 0, 1) := by decide +kernel
theorem dX8_swingsOf_152 : decode cX8_swingsOf 152 = .ok (.ireturn, 1) := by decide +kernel
theorem dX8_swingsOf_153 : decode cX8_swingsOf 153 = .ok (.aload_n 0, 1) := by decide +kernel
theorem dX8_swingsOf_154 : decode cX8_swingsOf 154 = .ok (.getfield 9, 3) := by decide +kernel
theorem dX8_swingsOf_157 : decode cX8_swingsOf 157 = .ok (.bipush 6, 2) := by decide +kernel
theorem dX8_swingsOf_159 : decode cX8_swingsOf 159 = .ok (.iaload, 1) := by decide +kernel
theorem dX8_swingsOf_160 : decode cX8_swingsOf 160 = .ok (.aload_n 0, 1) := by decide +kernel
theorem dX8_swingsOf_161 : decode cX8_swingsOf 161 = .ok (.iload_n 1, 1) := by decide +kernel
theorem dX8_swingsOf_162 : decode cX8_swingsOf 162 = .ok (.iconst 3, 1) := by decide +kernel
theorem dX8_swingsOf_163 : decode cX8_swingsOf 163 = .ok (.invokevirtual 140, 3) := by decide +kernel
theorem dX8_swingsOf_166 : decode cX8_swingsOf 166 = .ok (.iconst 4, 1) := by decide +kernel
theorem dX8_swingsOf_167 : decode cX8_swingsOf 167 = .ok (.irem, 1) := by decide +kernel
theorem dX8_swingsOf_168 : decode cX8_swingsOf 168 = .ok (.if_icmp .ne 16, 3) := by decide +kernel
theorem dX8_swingsOf_171 : decode cX8_swingsOf 171 = .ok (.iload_n 3, 1) := by decide +kernel
theorem dX8_swingsOf_172 : decode cX8_swingsOf 172 = .ok (.aload_n 0, 1) := by decide +kernel
theorem dX8_swingsOf_173 : decode cX8_swingsOf 173 = .ok (.iload_n 1, 1) := by decide +kernel
theorem dX8_swingsOf_174 : decode cX8_swingsOf 174 = .ok (.iconst 3, 1) := by decide +kernel
theorem dX8_swingsOf_175 : decode cX8_swingsOf 175 = .ok (.invokevirtual 140, 3) := by decide +kernel
theorem dX8_swingsOf_178 : decode cX8_swingsOf 178 = .ok (.iconst 1, 1) := by decide +kernel
theorem dX8_swingsOf_179 : decode cX8_swingsOf 179 = .ok (.iadd, 1) := by decide +kernel
theorem dX8_swingsOf_180 : decode cX8_swingsOf 180 = .ok (.imul, 1) := by decide +kernel
theorem dX8_swingsOf_181 : decode cX8_swingsOf 181 = .ok (.goto 4, 3) := by decide +kernel
theorem dX8_swingsOf_184 : decode cX8_swingsOf 184 = .ok (.iconst 0, 1) := by decide +kernel
theorem dX8_swingsOf_185 : decode cX8_swingsOf 185 = .ok (.ireturn, 1) := by decide +kernel
theorem dX8_swingsOf_186 : decode cX8_swingsOf 186 = .ok (.aload_n 0, 1) := by decide +kernel
theorem dX8_swingsOf_187 : decode cX8_swingsOf 187 = .ok (.iload 4, 2) := by decide +kernel
theorem dX8_swingsOf_189 : decode cX8_swingsOf 189 = .ok (.iload_n 2, 1) := by decide +kernel
theorem dX8_swingsOf_190 : decode cX8_swingsOf 190 = .ok (.iload_n 3, 1) := by decide +kernel
theorem dX8_swingsOf_191 : decode cX8_swingsOf 191 = .ok (.invokevirtual 174, 3) := by decide +kernel
theorem dX8_swingsOf_194 : decode cX8_swingsOf 194 = .ok (.ireturn, 1) := by decide +kernel
theorem dX8_seamWith_0 : decode cX8_seamWith 0 = .ok (.iload_n 2, 1) := by decide +kernel
theorem dX8_seamWith_1 : decode cX8_seamWith 1 = .ok (.iload_n 3, 1) := by decide +kernel
theorem dX8_seamWith_2 : decode cX8_seamWith 2 = .ok (.aload_n 0, 1) := by decide +kernel
theorem dX8_seamWith_3 : decode cX8_seamWith 3 = .ok (.iload_n 1, 1) := by decide +kernel
theorem dX8_seamWith_4 : decode cX8_seamWith 4 = .ok (.iconst 3, 1) := by decide +kernel
theorem dX8_seamWith_5 : decode cX8_seamWith 5 = .ok (.invokevirtual 140, 3) := by decide +kernel
theorem dX8_seamWith_8 : decode cX8_seamWith 8 = .ok (.imul, 1) := by decide +kernel
theorem dX8_seamWith_9 : decode cX8_seamWith 9 = .ok (.isub, 1) := by decide +kernel
theorem dX8_seamWith_10 : decode cX8_seamWith 10 = .ok (.istore 4, 2) := by decide +kernel
theorem dX8_seamWith_12 : decode cX8_seamWith 12 = .ok (.iload 4, 2) := by decide +kernel
theorem dX8_seamWith_14 : decode cX8_seamWith 14 = .ok (.iconst 1, 1) := by decide +kernel
theorem dX8_seamWith_15 : decode cX8_seamWith 15 = .ok (.if_icmp .ge 7, 3) := by decide +kernel
theorem dX8_seamWith_18 : decode cX8_seamWith 18 = .ok (.iconst 1, 1) := by decide +kernel
theorem dX8_seamWith_19 : decode cX8_seamWith 19 = .ok (.goto 5, 3) := by decide +kernel
theorem dX8_seamWith_22 : decode cX8_seamWith 22 = .ok (.iload 4, 2) := by decide +kernel
theorem dX8_seamWith_24 : decode cX8_seamWith 24 = .ok (.ireturn, 1) := by decide +kernel
theorem dX8_strikesWith_0 : decode cX8_strikesWith 0 = .ok (.aload_n 0, 1) := by decide +kernel
theorem dX8_strikesWith_1 : decode cX8_strikesWith 1 = .ok (.iload_n 1, 1) := by decide +kernel
theorem dX8_strikesWith_2 : decode cX8_strikesWith 2 = .ok (.iconst 0, 1) := by decide +kernel
theorem dX8_strikesWith_3 : decode cX8_strikesWith 3 = .ok (.invokevirtual 140, 3) := by decide +kernel
theorem dX8_strikesWith_6 : decode cX8_strikesWith 6 = .ok (.tableswitch 95 1 6 #[38, 95, 46, 58, 95, 82], 38) := by decide +kernel
theorem dX8_strikesWith_44 : decode cX8_strikesWith 44 = .ok (.aload_n 0, 1) := by decide +kernel
theorem dX8_strikesWith_45 : decode cX8_strikesWith 45 = .ok (.iload_n 1, 1) := by decide +kernel
theorem dX8_strikesWith_46 : decode cX8_strikesWith 46 = .ok (.iload_n 2, 1) := by decide +kernel
theorem dX8_strikesWith_47 : decode cX8_strikesWith 47 = .ok (.iload_n 3, 1) := by decide +kernel
theorem dX8_strikesWith_48 : decode cX8_strikesWith 48 = .ok (.invokevirtual 183, 3) := by decide +kernel
theorem dX8_strikesWith_51 : decode cX8_strikesWith 51 = .ok (.ireturn, 1) := by decide +kernel
theorem dX8_strikesWith_52 : decode cX8_strikesWith 52 = .ok (.iload_n 2, 1) := by decide +kernel
theorem dX8_strikesWith_53 : decode cX8_strikesWith 53 = .ok (.bipush 10, 2) := by decide +kernel
theorem dX8_strikesWith_55 : decode cX8_strikesWith 55 = .ok (.aload_n 0, 1) := by decide +kernel
theorem dX8_strikesWith_56 : decode cX8_strikesWith 56 = .ok (.iload_n 1, 1) := by decide +kernel
theorem dX8_strikesWith_57 : decode cX8_strikesWith 57 = .ok (.iconst 3, 1) := by decide +kernel
theorem dX8_strikesWith_58 : decode cX8_strikesWith 58 = .ok (.invokevirtual 140, 3) := by decide +kernel
theorem dX8_strikesWith_61 : decode cX8_strikesWith 61 = .ok (.imul, 1) := by decide +kernel
theorem dX8_strikesWith_62 : decode cX8_strikesWith 62 = .ok (.iadd, 1) := by decide +kernel
theorem dX8_strikesWith_63 : decode cX8_strikesWith 63 = .ok (.ireturn, 1) := by decide +kernel
theorem dX8_strikesWith_64 : decode cX8_strikesWith 64 = .ok (.aload_n 0, 1) := by decide +kernel
theorem dX8_strikesWith_65 : decode cX8_strikesWith 65 = .ok (.iload_n 1, 1) := by decide +kernel
theorem dX8_strikesWith_66 : decode cX8_strikesWith 66 = .ok (.iload_n 2, 1) := by decide +kernel
theorem dX8_strikesWith_67 : decode cX8_strikesWith 67 = .ok (.iload_n 3, 1) := by decide +kernel
theorem dX8_strikesWith_68 : decode cX8_strikesWith 68 = .ok (.invokevirtual 183, 3) := by decide +kernel
theorem dX8_strikesWith_71 : decode cX8_strikesWith 71 = .ok (.iconst 2, 1) := by decide +kernel
theorem dX8_strikesWith_72 : decode cX8_strikesWith 72 = .ok (.idiv, 1) := by decide +kernel
theorem dX8_strikesWith_73 : decode cX8_strikesWith 73 = .ok (.istore 4, 2) := by decide +kernel
theorem dX8_strikesWith_75 : decode cX8_strikesWith 75 = .ok (.iload 4, 2) := by decide +kernel
theorem dX8_strikesWith_77 : decode cX8_strikesWith 77 = .ok (.iconst 1, 1) := by decide +kernel
theorem dX8_strikesWith_78 : decode cX8_strikesWith 78 = .ok (.if_icmp .ge 7, 3) := by decide +kernel
theorem dX8_strikesWith_81 : decode cX8_strikesWith 81 = .ok (.iconst 1, 1) := by decide +kernel
theorem dX8_strikesWith_82 : decode cX8_strikesWith 82 = .ok (.goto 5, 3) := by decide +kernel
theorem dX8_strikesWith_85 : decode cX8_strikesWith 85 = .ok (.iload 4, 2) := by decide +kernel
theorem dX8_strikesWith_87 : decode cX8_strikesWith 87 = .ok (.ireturn, 1) := by decide +kernel
theorem dX8_strikesWith_88 : decode cX8_strikesWith 88 = .ok (.iload_n 2, 1) := by decide +kernel
theorem dX8_strikesWith_89 : decode cX8_strikesWith 89 = .ok (.aload_n 0, 1) := by decide +kernel
theorem dX8_strikesWith_90 : decode cX8_strikesWith 90 = .ok (.aload_n 0, 1) := by decide +kernel
theorem dX8_strikesWith_91 : decode cX8_strikesWith 91 = .ok (.iload_n 1, 1) := by decide +kernel
theorem dX8_strikesWith_92 : decode cX8_strikesWith 92 = .ok (.iconst 1, 1) := by decide +kernel
theorem dX8_strikesWith_93 : decode cX8_strikesWith 93 = .ok (.invokevirtual 140, 3) := by decide +kernel
theorem dX8_strikesWith_96 : decode cX8_strikesWith 96 = .ok (.invokevirtual 137, 3) := by decide +kernel
theorem dX8_strikesWith_99 : decode cX8_strikesWith 99 = .ok (.iadd, 1) := by decide +kernel
theorem dX8_strikesWith_100 : decode cX8_strikesWith 100 = .ok (.ireturn, 1) := by decide +kernel
theorem dX8_strikesWith_101 : decode cX8_strikesWith 101 = .ok (.iload_n 2, 1) := by decide +kernel
theorem dX8_strikesWith_102 : decode cX8_strikesWith 102 = .ok (.ireturn, 1) := by decide +kernel
theorem dX8_strikesOf_0 : decode cX8_strikesOf 0 = .ok (.aload_n 0, 1) := by decide +kernel
theorem dX8_strikesOf_1 : decode cX8_strikesOf 1 = .ok (.iload_n 1, 1) := by decide +kernel
theorem dX8_strikesOf_2 : decode cX8_strikesOf 2 = .ok (.aload_n 0, 1) := by decide +kernel
theorem dX8_strikesOf_3 : decode cX8_strikesOf 3 = .ok (.iload_n 1, 1) := by decide +kernel
theorem dX8_strikesOf_4 : decode cX8_strikesOf 4 = .ok (.iconst 2, 1) := by decide +kernel
theorem dX8_strikesOf_5 : decode cX8_strikesOf 5 = .ok (.invokevirtual 140, 3) := by decide +kernel
theorem dX8_strikesOf_8 : decode cX8_strikesOf 8 = .ok (.aload_n 0, 1) := by decide +kernel
theorem dX8_strikesOf_9 : decode cX8_strikesOf 9 = .ok (.getfield 9, 3) := by decide +kernel
theorem dX8_strikesOf_12 : decode cX8_strikesOf 12 = .ok (.iconst 4, 1) := by decide +kernel
theorem dX8_strikesOf_13 : decode cX8_strikesOf 13 = .ok (.iaload, 1) := by decide +kernel
theorem dX8_strikesOf_14 : decode cX8_strikesOf 14 = .ok (.invokevirtual 186, 3) := by decide +kernel
theorem dX8_strikesOf_17 : decode cX8_strikesOf 17 = .ok (.ireturn, 1) := by decide +kernel
theorem dX8_buzzesAt_0 : decode cX8_buzzesAt 0 = .ok (.aload_n 0, 1) := by decide +kernel
theorem dX8_buzzesAt_1 : decode cX8_buzzesAt 1 = .ok (.iload_n 1, 1) := by decide +kernel
theorem dX8_buzzesAt_2 : decode cX8_buzzesAt 2 = .ok (.iload_n 2, 1) := by decide +kernel
theorem dX8_buzzesAt_3 : decode cX8_buzzesAt 3 = .ok (.iload_n 3, 1) := by decide +kernel
theorem dX8_buzzesAt_4 : decode cX8_buzzesAt 4 = .ok (.invokevirtual 189, 3) := by decide +kernel
theorem dX8_buzzesAt_7 : decode cX8_buzzesAt 7 = .ok (.aload_n 0, 1) := by decide +kernel
theorem dX8_buzzesAt_8 : decode cX8_buzzesAt 8 = .ok (.iload_n 1, 1) := by decide +kernel
theorem dX8_buzzesAt_9 : decode cX8_buzzesAt 9 = .ok (.invokevirtual 192, 3) := by decide +kernel
theorem dX8_buzzesAt_12 : decode cX8_buzzesAt 12 = .ok (.if_icmp .le 7, 3) := by decide +kernel
theorem dX8_buzzesAt_15 : decode cX8_buzzesAt 15 = .ok (.iconst 1, 1) := by decide +kernel
theorem dX8_buzzesAt_16 : decode cX8_buzzesAt 16 = .ok (.goto 4, 3) := by decide +kernel
theorem dX8_buzzesAt_19 : decode cX8_buzzesAt 19 = .ok (.iconst 0, 1) := by decide +kernel
theorem dX8_buzzesAt_20 : decode cX8_buzzesAt 20 = .ok (.ireturn, 1) := by decide +kernel
theorem dX8_buzzes_0 : decode cX8_buzzes 0 = .ok (.aload_n 0, 1) := by decide +kernel
theorem dX8_buzzes_1 : decode cX8_buzzes 1 = .ok (.iload_n 1, 1) := by decide +kernel
theorem dX8_buzzes_2 : decode cX8_buzzes 2 = .ok (.invokevirtual 143, 3) := by decide +kernel
theorem dX8_buzzes_5 : decode cX8_buzzes 5 = .ok (.ifCond .eq 30, 3) := by decide +kernel
theorem dX8_buzzes_8 : decode cX8_buzzes 8 = .ok (.iload_n 2, 1) := by decide +kernel
theorem dX8_buzzes_9 : decode cX8_buzzes 9 = .ok (.invokestatic 177, 3) := by decide +kernel
theorem dX8_buzzes_12 : decode cX8_buzzes 12 = .ok (.ifCond .eq 23, 3) := by decide +kernel
theorem dX8_buzzes_15 : decode cX8_buzzes 15 = .ok (.iload_n 3, 1) := by decide +kernel
theorem dX8_buzzes_16 : decode cX8_buzzes 16 = .ok (.invokestatic 180, 3) := by decide +kernel
theorem dX8_buzzes_19 : decode cX8_buzzes 19 = .ok (.ifCond .eq 16, 3) := by decide +kernel
theorem dX8_buzzes_22 : decode cX8_buzzes 22 = .ok (.iload 4, 2) := by decide +kernel
theorem dX8_buzzes_24 : decode cX8_buzzes 24 = .ok (.i2l, 1) := by decide +kernel
theorem dX8_buzzes_25 : decode cX8_buzzes 25 = .ok (.lconst 0, 1) := by decide +kernel
theorem dX8_buzzes_26 : decode cX8_buzzes 26 = .ok (.ldc2_w 195, 3) := by decide +kernel
theorem dX8_buzzes_29 : decode cX8_buzzes 29 = .ok (.invokestatic 53, 3) := by decide +kernel
theorem dX8_buzzes_32 : decode cX8_buzzes 32 = .ok (.ifCond .ne 5, 3) := by decide +kernel
theorem dX8_buzzes_35 : decode cX8_buzzes 35 = .ok (.iconst (-1), 1) := by decide +kernel
theorem dX8_buzzes_36 : decode cX8_buzzes 36 = .ok (.ireturn, 1) := by decide +kernel
theorem dX8_buzzes_37 : decode cX8_buzzes 37 = .ok (.iload 4, 2) := by decide +kernel
theorem dX8_buzzes_39 : decode cX8_buzzes 39 = .ok (.ifCond .ne 13, 3) := by decide +kernel
theorem dX8_buzzes_42 : decode cX8_buzzes 42 = .ok (.aload_n 0, 1) := by decide +kernel
theorem dX8_buzzes_43 : decode cX8_buzzes 43 = .ok (.iload_n 1, 1) := by decide +kernel
theorem dX8_buzzes_44 : decode cX8_buzzes 44 = .ok (.iload_n 2, 1) := by decide +kernel
theorem dX8_buzzes_45 : decode cX8_buzzes 45 = .ok (.iload_n 3, 1) := by decide +kernel
theorem dX8_buzzes_46 : decode cX8_buzzes 46 = .ok (.invokevirtual 189, 3) := by decide +kernel
theorem dX8_buzzes_49 : decode cX8_buzzes 49 = .ok (.goto 32, 3) := by decide +kernel
theorem dX8_buzzes_52 : decode cX8_buzzes 52 = .ok (.iload 4, 2) := by decide +kernel
theorem dX8_buzzes_54 : decode cX8_buzzes 54 = .ok (.iconst 1, 1) := by decide +kernel
theorem dX8_buzzes_55 : decode cX8_buzzes 55 = .ok (.if_icmp .ne 11, 3) := by decide +kernel
theorem dX8_buzzes_58 : decode cX8_buzzes 58 = .ok (.aload_n 0, 1) := by decide +kernel
theorem dX8_buzzes_59 : decode cX8_buzzes 59 = .ok (.iload_n 1, 1) := by decide +kernel
theorem dX8_buzzes_60 : decode cX8_buzzes 60 = .ok (.invokevirtual 192, 3) := by decide +kernel
theorem dX8_buzzes_63 : decode cX8_buzzes 63 = .ok (.goto 18, 3) := by decide +kernel
theorem dX8_buzzes_66 : decode cX8_buzzes 66 = .ok (.aload_n 0, 1) := by decide +kernel
theorem dX8_buzzes_67 : decode cX8_buzzes 67 = .ok (.iload_n 1, 1) := by decide +kernel
theorem dX8_buzzes_68 : decode cX8_buzzes 68 = .ok (.iload_n 2, 1) := by decide +kernel
theorem dX8_buzzes_69 : decode cX8_buzzes 69 = .ok (.iload_n 3, 1) := by decide +kernel
theorem dX8_buzzes_70 : decode cX8_buzzes 70 = .ok (.invokevirtual 197, 3) := by decide +kernel
theorem dX8_buzzes_73 : decode cX8_buzzes 73 = .ok (.ifCond .eq 7, 3) := by decide +kernel
theorem dX8_buzzes_76 : decode cX8_buzzes 76 = .ok (.iconst 1, 1) := by decide +kernel
theorem dX8_buzzes_77 : decode cX8_buzzes 77 = .ok (.goto 4, 3) := by decide +kernel
theorem dX8_buzzes_80 : decode cX8_buzzes 80 = .ok (.iconst 0, 1) := by decide +kernel
theorem dX8_buzzes_81 : decode cX8_buzzes 81 = .ok (.ireturn, 1) := by decide +kernel
theorem dX8_heardAt_0 : decode cX8_heardAt 0 = .ok (.iconst 0, 1) := by decide +kernel
theorem dX8_heardAt_1 : decode cX8_heardAt 1 = .ok (.istore_n 3, 1) := by decide +kernel
theorem dX8_heardAt_2 : decode cX8_heardAt 2 = .ok (.iconst 0, 1) := by decide +kernel
theorem dX8_heardAt_3 : decode cX8_heardAt 3 = .ok (.istore 4, 2) := by decide +kernel
theorem dX8_heardAt_5 : decode cX8_heardAt 5 = .ok (.iload 4, 2) := by decide +kernel
theorem dX8_heardAt_7 : decode cX8_heardAt 7 = .ok (.aload_n 0, 1) := by decide +kernel
theorem dX8_heardAt_8 : decode cX8_heardAt 8 = .ok (.getfield 9, 3) := by decide +kernel
theorem dX8_heardAt_11 : decode cX8_heardAt 11 = .ok (.iconst 1, 1) := by decide +kernel
theorem dX8_heardAt_12 : decode cX8_heardAt 12 = .ok (.iaload, 1) := by decide +kernel
theorem dX8_heardAt_13 : decode cX8_heardAt 13 = .ok (.if_icmp .ge 31, 3) := by decide +kernel
theorem dX8_heardAt_16 : decode cX8_heardAt 16 = .ok (.iload_n 3, 1) := by decide +kernel
theorem dX8_heardAt_17 : decode cX8_heardAt 17 = .ok (.aload_n 0, 1) := by decide +kernel
theorem dX8_heardAt_18 : decode cX8_heardAt 18 = .ok (.iload 4, 2) := by decide +kernel
theorem dX8_heardAt_20 : decode cX8_heardAt 20 = .ok (.iload_n 1, 1) := by decide +kernel
theorem dX8_heardAt_21 : decode cX8_heardAt 21 = .ok (.iload_n 2, 1) := by decide +kernel
theorem dX8_heardAt_22 : decode cX8_heardAt 22 = .ok (.invokevirtual 197, 3) := by decide +kernel
theorem dX8_heardAt_25 : decode cX8_heardAt 25 = .ok (.ifCond .eq 10, 3) := by decide +kernel
theorem dX8_heardAt_28 : decode cX8_heardAt 28 = .ok (.iconst 1, 1) := by decide +kernel
theorem dX8_heardAt_29 : decode cX8_heardAt 29 = .ok (.iload 4, 2) := by decide +kernel
theorem dX8_heardAt_31 : decode cX8_heardAt 31 = .ok (.ishl, 1) := by decide +kernel
theorem dX8_heardAt_32 : decode cX8_heardAt 32 = .ok (.goto 4, 3) := by decide +kernel
theorem dX8_heardAt_35 : decode cX8_heardAt 35 = .ok (.iconst 0, 1) := by decide +kernel
theorem dX8_heardAt_36 : decode cX8_heardAt 36 = .ok (.ior, 1) := by decide +kernel
theorem dX8_heardAt_37 : decode cX8_heardAt 37 = .ok (.istore_n 3, 1) := by decide +kernel
theorem dX8_heardAt_38 : decode cX8_heardAt 38 = .ok (.iinc 4 1, 3) := by decide +kernel
theorem dX8_heardAt_41 : decode cX8_heardAt 41 = .ok (.goto (-36), 3) := by decide +kernel
theorem dX8_heardAt_44 : decode cX8_heardAt 44 = .ok (.iload_n 3, 1) := by decide +kernel
theorem dX8_heardAt_45 : decode cX8_heardAt 45 = .ok (.ireturn, 1) := by decide +kernel
theorem dX8_heard_0 : decode cX8_heard 0 = .ok (.iload_n 1, 1) := by decide +kernel
theorem dX8_heard_1 : decode cX8_heard 1 = .ok (.invokestatic 177, 3) := by decide +kernel
theorem dX8_heard_4 : decode cX8_heard 4 = .ok (.ifCond .eq 19, 3) := by decide +kernel
theorem dX8_heard_7 : decode cX8_heard 7 = .ok (.iload_n 2, 1) := by decide +kernel
theorem dX8_heard_8 : decode cX8_heard 8 = .ok (.invokestatic 180, 3) := by decide +kernel
theorem dX8_heard_11 : decode cX8_heard 11 = .ok (.ifCond .eq 12, 3) := by decide +kernel
theorem dX8_heard_14 : decode cX8_heard 14 = .ok (.aload_n 0, 1) := by decide +kernel
theorem dX8_heard_15 : decode cX8_heard 15 = .ok (.iload_n 1, 1) := by decide +kernel
theorem dX8_heard_16 : decode cX8_heard 16 = .ok (.iload_n 2, 1) := by decide +kernel
theorem dX8_heard_17 : decode cX8_heard 17 = .ok (.invokevirtual 201, 3) := by decide +kernel
theorem dX8_heard_20 : decode cX8_heard 20 = .ok (.goto 4, 3) := by decide +kernel
theorem dX8_heard_23 : decode cX8_heard 23 = .ok (.iconst (-1), 1) := by decide +kernel
theorem dX8_heard_24 : decode cX8_heard 24 = .ok (.ireturn, 1) := by decide +kernel
theorem dX8_bands_0 : decode cX8_bands 0 = .ok (.aload_n 0, 1) := by decide +kernel
theorem dX8_bands_1 : decode cX8_bands 1 = .ok (.iload_n 1, 1) := by decide +kernel
theorem dX8_bands_2 : decode cX8_bands 2 = .ok (.invokevirtual 143, 3) := by decide +kernel
theorem dX8_bands_5 : decode cX8_bands 5 = .ok (.ifCond .eq 26, 3) := by decide +kernel
theorem dX8_bands_8 : decode cX8_bands 8 = .ok (.iload_n 2, 1) := by decide +kernel
theorem dX8_bands_9 : decode cX8_bands 9 = .ok (.invokestatic 180, 3) := by decide +kernel
theorem dX8_bands_12 : decode cX8_bands 12 = .ok (.ifCond .eq 19, 3) := by decide +kernel
theorem dX8_bands_15 : decode cX8_bands 15 = .ok (.iload_n 3, 1) := by decide +kernel
theorem dX8_bands_16 : decode cX8_bands 16 = .ok (.iconst (-1), 1) := by decide +kernel
theorem dX8_bands_17 : decode cX8_bands 17 = .ok (.if_icmp .lt 14, 3) := by decide +kernel
theorem dX8_bands_20 : decode cX8_bands 20 = .ok (.iload 4, 2) := by decide +kernel
theorem dX8_bands_22 : decode cX8_bands 22 = .ok (.i2l, 1) := by decide +kernel
theorem dX8_bands_23 : decode cX8_bands 23 = .ok (.lconst 0, 1) := by decide +kernel
theorem dX8_bands_24 : decode cX8_bands 24 = .ok (.lconst 1, 1) := by decide +kernel
theorem dX8_bands_25 : decode cX8_bands 25 = .ok (.invokestatic 53, 3) := by decide +kernel
theorem dX8_bands_28 : decode cX8_bands 28 = .ok (.ifCond .ne 5, 3) := by decide +kernel
theorem dX8_bands_31 : decode cX8_bands 31 = .ok (.iconst (-1), 1) := by decide +kernel
theorem dX8_bands_32 : decode cX8_bands 32 = .ok (.ireturn, 1) := by decide +kernel
theorem dX8_bands_33 : decode cX8_bands 33 = .ok (.iconst 0, 1) := by decide +kernel
theorem dX8_bands_34 : decode cX8_bands 34 = .ok (.istore 5, 2) := by decide +kernel
theorem dX8_bands_36 : decode cX8_bands 36 = .ok (.iconst 0, 1) := by decide +kernel
theorem dX8_bands_37 : decode cX8_bands 37 = .ok (.istore 6, 2) := by decide +kernel
theorem dX8_bands_39 : decode cX8_bands 39 = .ok (.iconst 1, 1) := by decide +kernel
theorem dX8_bands_40 : decode cX8_bands 40 = .ok (.istore 7, 2) := by decide +kernel
theorem dX8_bands_42 : decode cX8_bands 42 = .ok (.iload 7, 2) := by decide +kernel
theorem dX8_bands_44 : decode cX8_bands 44 = .ok (.sipush 601, 3) := by decide +kernel
theorem dX8_bands_47 : decode cX8_bands 47 = .ok (.if_icmp .gt 110, 3) := by decide +kernel
theorem dX8_bands_50 : decode cX8_bands 50 = .ok (.iload 7, 2) := by decide +kernel
theorem dX8_bands_52 : decode cX8_bands 52 = .ok (.sipush 600, 3) := by decide +kernel
theorem dX8_bands_55 : decode cX8_bands 55 = .ok (.if_icmp .gt 18, 3) := by decide +kernel
theorem dX8_bands_58 : decode cX8_bands 58 = .ok (.aload_n 0, 1) := by decide +kernel
theorem dX8_bands_59 : decode cX8_bands 59 = .ok (.iload_n 1, 1) := by decide +kernel
theorem dX8_bands_60 : decode cX8_bands 60 = .ok (.iload 7, 2) := by decide +kernel
theorem dX8_bands_62 : decode cX8_bands 62 = .ok (.iload_n 2, 1) := by decide +kernel
theorem dX8_bands_63 : decode cX8_bands 63 = .ok (.invokevirtual 197, 3) := by decide +kernel
theorem dX8_bands_66 : decode cX8_bands 66 = .ok (.ifCond .eq 7, 3) := by decide +kernel
theorem dX8_bands_69 : decode cX8_bands 69 = .ok (.iconst 1, 1) := by decide +kernel
theorem dX8_bands_70 : decode cX8_bands 70 = .ok (.goto 4, 3) := by decide +kernel
theorem dX8_bands_73 : decode cX8_bands 73 = .ok (.iconst 0, 1) := by decide +kernel
theorem dX8_bands_74 : decode cX8_bands 74 = .ok (.istore 8, 2) := by decide +kernel
theorem dX8_bands_76 : decode cX8_bands 76 = .ok (.iload 8, 2) := by decide +kernel
theorem dX8_bands_78 : decode cX8_bands 78 = .ok (.ifCond .eq 11, 3) := by decide +kernel
theorem dX8_bands_81 : decode cX8_bands 81 = .ok (.iload 6, 2) := by decide +kernel
theorem dX8_bands_83 : decode cX8_bands 83 = .ok (.ifCond .ne 6, 3) := by decide +kernel
theorem dX8_bands_86 : decode cX8_bands 86 = .ok (.iinc 5 1, 3) := by decide +kernel
theorem dX8_bands_89 : decode cX8_bands 89 = .ok (.iload_n 3, 1) := by decide +kernel
theorem dX8_bands_90 : decode cX8_bands 90 = .ok (.ifCond .lt 24, 3) := by decide +kernel
theorem dX8_bands_93 : decode cX8_bands 93 = .ok (.iload 5, 2) := by decide +kernel
theorem dX8_bands_95 : decode cX8_bands 95 = .ok (.iload_n 3, 1) := by decide +kernel
theorem dX8_bands_96 : decode cX8_bands 96 = .ok (.iconst 1, 1) := by decide +kernel
theorem dX8_bands_97 : decode cX8_bands 97 = .ok (.iadd, 1) := by decide +kernel
theorem dX8_bands_98 : decode cX8_bands 98 = .ok (.if_icmp .ne 16, 3) := by decide +kernel
theorem dX8_bands_101 : decode cX8_bands 101 = .ok (.iload 4, 2) := by decide +kernel
theorem dX8_bands_103 : decode cX8_bands 103 = .ok (.ifCond .ne 11, 3) := by decide +kernel
theorem dX8_bands_106 : decode cX8_bands 106 = .ok (.iload 8, 2) := by decide +kernel
theorem dX8_bands_108 : decode cX8_bands 108 = .ok (.ifCond .eq 6, 3) := by decide +kernel
theorem dX8_bands_111 : decode cX8_bands 111 = .ok (.iload 7, 2) := by decide +kernel
theorem dX8_bands_113 : decode cX8_bands 113 = .ok (.ireturn, 1) := by decide +kernel
theorem dX8_bands_114 : decode cX8_bands 114 = .ok (.iload_n 3, 1) := by decide +kernel
theorem dX8_bands_115 : decode cX8_bands 115 = .ok (.ifCond .lt 32, 3) := by decide +kernel
theorem dX8_bands_118 : decode cX8_bands 118 = .ok (.iload 5, 2) := by decide +kernel
theorem dX8_bands_120 : decode cX8_bands 120 = .ok (.iload_n 3, 1) := by decide +kernel
theorem dX8_bands_121 : decode cX8_bands 121 = .ok (.iconst 1, 1) := by decide +kernel
theorem dX8_bands_122 : decode cX8_bands 122 = .ok (.iadd, 1) := by decide +kernel
theorem dX8_bands_123 : decode cX8_bands 123 = .ok (.if_icmp .ne 24, 3) := by decide +kernel
theorem dX8_bands_126 : decode cX8_bands 126 = .ok (.iload 4, 2) := by decide +kernel
theorem dX8_bands_128 : decode cX8_bands 128 = .ok (.iconst 1, 1) := by decide +kernel
theorem dX8_bands_129 : decode cX8_bands 129 = .ok (.if_icmp .ne 18, 3) := by decide +kernel
theorem dX8_bands_132 : decode cX8_bands 132 = .ok (.iload 6, 2) := by decide +kernel
theorem dX8_bands_134 : decode cX8_bands 134 = .ok (.ifCond .eq 13, 3) := by decide +kernel
theorem dX8_bands_137 : decode cX8_bands 137 = .ok (.iload 8, 2) := by decide +kernel
theorem dX8_bands_139 : decode cX8_bands 139 = .ok (.ifCond .ne 8, 3) := by decide +kernel
theorem dX8_bands_142 : decode cX8_bands 142 = .ok (.iload 7, 2) := by decide +kernel
theorem dX8_bands_144 : decode cX8_bands 144 = .ok (.iconst 1, 1) := by decide +kernel
theorem dX8_bands_145 : decode cX8_bands 145 = .ok (.isub, 1) := by decide +kernel
theorem dX8_bands_146 : decode cX8_bands 146 = .ok (.ireturn, 1) := by decide +kernel
theorem dX8_bands_147 : decode cX8_bands 147 = .ok (.iload 8, 2) := by decide +kernel
theorem dX8_bands_149 : decode cX8_bands 149 = .ok (.istore 6, 2) := by decide +kernel
theorem dX8_bands_151 : decode cX8_bands 151 = .ok (.iinc 7 1, 3) := by decide +kernel
theorem dX8_bands_154 : decode cX8_bands 154 = .ok (.goto (-112), 3) := by decide +kernel
theorem dX8_bands_157 : decode cX8_bands 157 = .ok (.iload_n 3, 1) := by decide +kernel
theorem dX8_bands_158 : decode cX8_bands 158 = .ok (.ifCond .ge 8, 3) := by decide +kernel
theorem dX8_bands_161 : decode cX8_bands 161 = .ok (.iload 5, 2) := by decide +kernel
theorem dX8_bands_163 : decode cX8_bands 163 = .ok (.goto 5, 3) := by decide +kernel
theorem dX8_bands_166 : decode cX8_bands 166 = .ok (.bipush (-4), 2) := by decide +kernel
theorem dX8_bands_168 : decode cX8_bands 168 = .ok (.ireturn, 1) := by decide +kernel
theorem dX8_loudest_0 : decode cX8_loudest 0 = .ok (.aload_n 0, 1) := by decide +kernel
theorem dX8_loudest_1 : decode cX8_loudest 1 = .ok (.iload_n 1, 1) := by decide +kernel
theorem dX8_loudest_2 : decode cX8_loudest 2 = .ok (.invokevirtual 130, 3) := by decide +kernel
theorem dX8_loudest_5 : decode cX8_loudest 5 = .ok (.ifCond .eq 10, 3) := by decide +kernel
theorem dX8_loudest_8 : decode cX8_loudest 8 = .ok (.iload_n 2, 1) := by decide +kernel
theorem dX8_loudest_9 : decode cX8_loudest 9 = .ok (.invokestatic 180, 3) := by decide +kernel
theorem dX8_loudest_12 : decode cX8_loudest 12 = .ok (.ifCond .ne 5, 3) := by decide +kernel
theorem dX8_loudest_15 : decode cX8_loudest 15 = .ok (.iconst (-1), 1) := by decide +kernel
theorem dX8_loudest_16 : decode cX8_loudest 16 = .ok (.ireturn, 1) := by decide +kernel
theorem dX8_loudest_17 : decode cX8_loudest 17 = .ok (.iconst 1, 1) := by decide +kernel
theorem dX8_loudest_18 : decode cX8_loudest 18 = .ok (.istore_n 3, 1) := by decide +kernel
theorem dX8_loudest_19 : decode cX8_loudest 19 = .ok (.iconst 2, 1) := by decide +kernel
theorem dX8_loudest_20 : decode cX8_loudest 20 = .ok (.istore 4, 2) := by decide +kernel
theorem dX8_loudest_22 : decode cX8_loudest 22 = .ok (.iload 4, 2) := by decide +kernel
theorem dX8_loudest_24 : decode cX8_loudest 24 = .ok (.sipush 600, 3) := by decide +kernel
theorem dX8_loudest_27 : decode cX8_loudest 27 = .ok (.if_icmp .gt 34, 3) := by decide +kernel
theorem dX8_loudest_30 : decode cX8_loudest 30 = .ok (.aload_n 0, 1) := by decide +kernel
theorem dX8_loudest_31 : decode cX8_loudest 31 = .ok (.iload_n 1, 1) := by decide +kernel
theorem dX8_loudest_32 : decode cX8_loudest 32 = .ok (.iload 4, 2) := by decide +kernel
theorem dX8_loudest_34 : decode cX8_loudest 34 = .ok (.iload_n 2, 1) := by decide +kernel
theorem dX8_loudest_35 : decode cX8_loudest 35 = .ok (.invokevirtual 174, 3) := by decide +kernel
theorem dX8_loudest_38 : decode cX8_loudest 38 = .ok (.aload_n 0, 1) := by decide +kernel
theorem dX8_loudest_39 : decode cX8_loudest 39 = .ok (.iload_n 1, 1) := by decide +kernel
theorem dX8_loudest_40 : decode cX8_loudest 40 = .ok (.iload_n 3, 1) := by decide +kernel
theorem dX8_loudest_41 : decode cX8_loudest 41 = .ok (.iload_n 2, 1) := by decide +kernel
theorem dX8_loudest_42 : decode cX8_loudest 42 = .ok (.invokevirtual 174, 3) := by decide +kernel
theorem dX8_loudest_45 : decode cX8_loudest 45 = .ok (.if_icmp .le 8, 3) := by decide +kernel
theorem dX8_loudest_48 : decode cX8_loudest 48 = .ok (.iload 4, 2) := by decide +kernel
theorem dX8_loudest_50 : decode cX8_loudest 50 = .ok (.goto 4, 3) := by decide +kernel
theorem dX8_loudest_53 : decode cX8_loudest 53 = .ok (.iload_n 3, 1) := by decide +kernel
theorem dX8_loudest_54 : decode cX8_loudest 54 = .ok (.istore_n 3, 1) := by decide +kernel
theorem dX8_loudest_55 : decode cX8_loudest 55 = .ok (.iinc 4 1, 3) := by decide +kernel
theorem dX8_loudest_58 : decode cX8_loudest 58 = .ok (.goto (-36), 3) := by decide +kernel
theorem dX8_loudest_61 : decode cX8_loudest 61 = .ok (.iload_n 3, 1) := by decide +kernel
theorem dX8_loudest_62 : decode cX8_loudest 62 = .ok (.ireturn, 1) := by decide +kernel
theorem dX8_softest_0 : decode cX8_softest 0 = .ok (.aload_n 0, 1) := by decide +kernel
theorem dX8_softest_1 : decode cX8_softest 1 = .ok (.iload_n 1, 1) := by decide +kernel
theorem dX8_softest_2 : decode cX8_softest 2 = .ok (.invokevirtual 143, 3) := by decide +kernel
theorem dX8_softest_5 : decode cX8_softest 5 = .ok (.ifCond .eq 10, 3) := by decide +kernel
theorem dX8_softest_8 : decode cX8_softest 8 = .ok (.iload_n 2, 1) := by decide +kernel
theorem dX8_softest_9 : decode cX8_softest 9 = .ok (.invokestatic 177, 3) := by decide +kernel
theorem dX8_softest_12 : decode cX8_softest 12 = .ok (.ifCond .ne 5, 3) := by decide +kernel
theorem dX8_softest_15 : decode cX8_softest 15 = .ok (.iconst (-1), 1) := by decide +kernel
theorem dX8_softest_16 : decode cX8_softest 16 = .ok (.ireturn, 1) := by decide +kernel
theorem dX8_softest_17 : decode cX8_softest 17 = .ok (.iconst 1, 1) := by decide +kernel
theorem dX8_softest_18 : decode cX8_softest 18 = .ok (.istore_n 3, 1) := by decide +kernel
theorem dX8_softest_19 : decode cX8_softest 19 = .ok (.iload_n 3, 1) := by decide +kernel
theorem dX8_softest_20 : decode cX8_softest 20 = .ok (.bipush 99, 2) := by decide +kernel
theorem dX8_softest_22 : decode cX8_softest 22 = .ok (.if_icmp .gt 21, 3) := by decide +kernel
theorem dX8_softest_25 : decode cX8_softest 25 = .ok (.aload_n 0, 1) := by decide +kernel
theorem dX8_softest_26 : decode cX8_softest 26 = .ok (.iload_n 1, 1) := by decide +kernel
theorem dX8_softest_27 : decode cX8_softest 27 = .ok (.iload_n 2, 1) := by decide +kernel
theorem dX8_softest_28 : decode cX8_softest 28 = .ok (.iload_n 3, 1) := by decide +kernel
theorem dX8_softest_29 : decode cX8_softest 29 = .ok (.invokevirtual 197, 3) := by decide +kernel
theorem dX8_softest_32 : decode cX8_softest 32 = .ok (.ifCond .eq 5, 3) := by decide +kernel
theorem dX8_softest_35 : decode cX8_softest 35 = .ok (.iload_n 3, 1) := by decide +kernel
theorem dX8_softest_36 : decode cX8_softest 36 = .ok (.ireturn, 1) := by decide +kernel
theorem dX8_softest_37 : decode cX8_softest 37 = .ok (.iinc 3 1, 3) := by decide +kernel
theorem dX8_softest_40 : decode cX8_softest 40 = .ok (.goto (-21), 3) := by decide +kernel
theorem dX8_softest_43 : decode cX8_softest 43 = .ok (.bipush (-4), 2) := by decide +kernel
theorem dX8_softest_45 : decode cX8_softest 45 = .ok (.ireturn, 1) := by decide +kernel
theorem dX8_notes_0 : decode cX8_notes 0 = .ok (.iconst 0, 1) := by decide +kernel
theorem dX8_notes_1 : decode cX8_notes 1 = .ok (.istore_n 3, 1) := by decide +kernel
theorem dX8_notes_2 : decode cX8_notes 2 = .ok (.iload_n 3, 1) := by decide +kernel
theorem dX8_notes_3 : decode cX8_notes 3 = .ok (.iconst 5, 1) := by decide +kernel
theorem dX8_notes_4 : decode cX8_notes 4 = .ok (.if_icmp .ge 22, 3) := by decide +kernel
theorem dX8_notes_7 : decode cX8_notes 7 = .ok (.aload_n 1, 1) := by decide +kernel
theorem dX8_notes_8 : decode cX8_notes 8 = .ok (.iload_n 2, 1) := by decide +kernel
theorem dX8_notes_9 : decode cX8_notes 9 = .ok (.iload_n 3, 1) := by decide +kernel
theorem dX8_notes_10 : decode cX8_notes 10 = .ok (.iadd, 1) := by decide +kernel
theorem dX8_notes_11 : decode cX8_notes 11 = .ok (.aload_n 0, 1) := by decide +kernel
theorem dX8_notes_12 : decode cX8_notes 12 = .ok (.getfield 9, 3) := by decide +kernel
theorem dX8_notes_15 : decode cX8_notes 15 = .ok (.iconst 3, 1) := by decide +kernel
theorem dX8_notes_16 : decode cX8_notes 16 = .ok (.iload_n 3, 1) := by decide +kernel
theorem dX8_notes_17 : decode cX8_notes 17 = .ok (.iadd, 1) := by decide +kernel
theorem dX8_notes_18 : decode cX8_notes 18 = .ok (.iaload, 1) := by decide +kernel
theorem dX8_notes_19 : decode cX8_notes 19 = .ok (.iastore, 1) := by decide +kernel
theorem dX8_notes_20 : decode cX8_notes 20 = .ok (.iinc 3 1, 3) := by decide +kernel
theorem dX8_notes_23 : decode cX8_notes 23 = .ok (.goto (-21), 3) := by decide +kernel
theorem dX8_notes_26 : decode cX8_notes 26 = .ok (.iconst 0, 1) := by decide +kernel
theorem dX8_notes_27 : decode cX8_notes 27 = .ok (.istore_n 3, 1) := by decide +kernel
theorem dX8_notes_28 : decode cX8_notes 28 = .ok (.iload_n 3, 1) := by decide +kernel
theorem dX8_notes_29 : decode cX8_notes 29 = .ok (.bipush 10, 2) := by decide +kernel
theorem dX8_notes_31 : decode cX8_notes 31 = .ok (.if_icmp .ge 30, 3) := by decide +kernel
theorem dX8_notes_34 : decode cX8_notes 34 = .ok (.aload_n 1, 1) := by decide +kernel
theorem dX8_notes_35 : decode cX8_notes 35 = .ok (.iload_n 2, 1) := by decide +kernel
theorem dX8_notes_36 : decode cX8_notes 36 = .ok (.iconst 5, 1) := by decide +kernel
theorem dX8_notes_37 : decode cX8_notes 37 = .ok (.iadd, 1) := by decide +kernel
theorem dX8_notes_38 : decode cX8_notes 38 = .ok (.iload_n 3, 1) := by decide +kernel
theorem dX8_notes_39 : decode cX8_notes 39 = .ok (.iadd, 1) := by decide +kernel
theorem dX8_notes_40 : decode cX8_notes 40 = .ok (.aload_n 0, 1) := by decide +kernel
theorem dX8_notes_41 : decode cX8_notes 41 = .ok (.getfield 9, 3) := by decide +kernel
theorem dX8_notes_44 : decode cX8_notes 44 = .ok (.bipush 8, 2) := by decide +kernel
theorem dX8_notes_46 : decode cX8_notes 46 = .ok (.bipush 6, 2) := by decide +kernel
theorem dX8_notes_48 : decode cX8_notes 48 = .ok (.iload_n 3, 1) := by decide +kernel
theorem dX8_notes_49 : decode cX8_notes 49 = .ok (.imul, 1) := by decide +kernel
theorem dX8_notes_50 : decode cX8_notes 50 = .ok (.iadd, 1) := by decide +kernel
theorem dX8_notes_51 : decode cX8_notes 51 = .ok (.iconst 5, 1) := by decide +kernel
theorem dX8_notes_52 : decode cX8_notes 52 = .ok (.iadd, 1) := by decide +kernel
theorem dX8_notes_53 : decode cX8_notes 53 = .ok (.iaload, 1) := by decide +kernel
theorem dX8_notes_54 : decode cX8_notes 54 = .ok (.iastore, 1) := by decide +kernel
theorem dX8_notes_55 : decode cX8_notes 55 = .ok (.iinc 3 1, 3) := by decide +kernel
theorem dX8_notes_58 : decode cX8_notes 58 = .ok (.goto (-30), 3) := by decide +kernel
theorem dX8_notes_61 : decode cX8_notes 61 = .ok (.return_, 1) := by decide +kernel
theorem dX8_putsBack_0 : decode cX8_putsBack 0 = .ok (.iconst 0, 1) := by decide +kernel
theorem dX8_putsBack_1 : decode cX8_putsBack 1 = .ok (.istore_n 3, 1) := by decide +kernel
theorem dX8_putsBack_2 : decode cX8_putsBack 2 = .ok (.iload_n 3, 1) := by decide +kernel
theorem dX8_putsBack_3 : decode cX8_putsBack 3 = .ok (.iconst 5, 1) := by decide +kernel
theorem dX8_putsBack_4 : decode cX8_putsBack 4 = .ok (.if_icmp .ge 22, 3) := by decide +kernel
theorem dX8_putsBack_7 : decode cX8_putsBack 7 = .ok (.aload_n 0, 1) := by decide +kernel
theorem dX8_putsBack_8 : decode cX8_putsBack 8 = .ok (.getfield 9, 3) := by decide +kernel
theorem dX8_putsBack_11 : decode cX8_putsBack 11 = .ok (.iconst 3, 1) := by decide +kernel
theorem dX8_putsBack_12 : decode cX8_putsBack 12 = .ok (.iload_n 3, 1) := by decide +kernel
theorem dX8_putsBack_13 : decode cX8_putsBack 13 = .ok (.iadd, 1) := by decide +kernel
theorem dX8_putsBack_14 : decode cX8_putsBack 14 = .ok (.aload_n 1, 1) := by decide +kernel
theorem dX8_putsBack_15 : decode cX8_putsBack 15 = .ok (.iload_n 2, 1) := by decide +kernel
theorem dX8_putsBack_16 : decode cX8_putsBack 16 = .ok (.iload_n 3, 1) := by decide +kernel
theorem dX8_putsBack_17 : decode cX8_putsBack 17 = .ok (.iadd, 1) := by decide +kernel
theorem dX8_putsBack_18 : decode cX8_putsBack 18 = .ok (.iaload, 1) := by decide +kernel
theorem dX8_putsBack_19 : decode cX8_putsBack 19 = .ok (.iastore, 1) := by decide +kernel
theorem dX8_putsBack_20 : decode cX8_putsBack 20 = .ok (.iinc 3 1, 3) := by decide +kernel
theorem dX8_putsBack_23 : decode cX8_putsBack 23 = .ok (.goto (-21), 3) := by decide +kernel
theorem dX8_putsBack_26 : decode cX8_putsBack 26 = .ok (.iconst 0, 1) := by decide +kernel
theorem dX8_putsBack_27 : decode cX8_putsBack 27 = .ok (.istore_n 3, 1) := by decide +kernel
theorem dX8_putsBack_28 : decode cX8_putsBack 28 = .ok (.iload_n 3, 1) := by decide +kernel
theorem dX8_putsBack_29 : decode cX8_putsBack 29 = .ok (.bipush 10, 2) := by decide +kernel
theorem dX8_putsBack_31 : decode cX8_putsBack 31 = .ok (.if_icmp .ge 30, 3) := by decide +kernel
theorem dX8_putsBack_34 : decode cX8_putsBack 34 = .ok (.aload_n 0, 1) := by decide +kernel
theorem dX8_putsBack_35 : decode cX8_putsBack 35 = .ok (.getfield 9, 3) := by decide +kernel
theorem dX8_putsBack_38 : decode cX8_putsBack 38 = .ok (.bipush 8, 2) := by decide +kernel
theorem dX8_putsBack_40 : decode cX8_putsBack 40 = .ok (.bipush 6, 2) := by decide +kernel
theorem dX8_putsBack_42 : decode cX8_putsBack 42 = .ok (.iload_n 3, 1) := by decide +kernel
theorem dX8_putsBack_43 : decode cX8_putsBack 43 = .ok (.imul, 1) := by decide +kernel
theorem dX8_putsBack_44 : decode cX8_putsBack 44 = .ok (.iadd, 1) := by decide +kernel
theorem dX8_putsBack_45 : decode cX8_putsBack 45 = .ok (.iconst 5, 1) := by decide +kernel
theorem dX8_putsBack_46 : decode cX8_putsBack 46 = .ok (.iadd, 1) := by decide +kernel
theorem dX8_putsBack_47 : decode cX8_putsBack 47 = .ok (.aload_n 1, 1) := by decide +kernel
theorem dX8_putsBack_48 : decode cX8_putsBack 48 = .ok (.iload_n 2, 1) := by decide +kernel
theorem dX8_putsBack_49 : decode cX8_putsBack 49 = .ok (.iconst 5, 1) := by decide +kernel
theorem dX8_putsBack_50 : decode cX8_putsBack 50 = .ok (.iadd, 1) := by decide +kernel
theorem dX8_putsBack_51 : decode cX8_putsBack 51 = .ok (.iload_n 3, 1) := by decide +kernel
theorem dX8_putsBack_52 : decode cX8_putsBack 52 = .ok (.iadd, 1) := by decide +kernel
theorem dX8_putsBack_53 : decode cX8_putsBack 53 = .ok (.iaload, 1) := by decide +kernel
theorem dX8_putsBack_54 : decode cX8_putsBack 54 = .ok (.iastore, 1) := by decide +kernel
theorem dX8_putsBack_55 : decode cX8_putsBack 55 = .ok (.iinc 3 1, 3) := by decide +kernel
theorem dX8_putsBack_58 : decode cX8_putsBack 58 = .ok (.goto (-30), 3) := by decide +kernel
theorem dX8_putsBack_61 : decode cX8_putsBack 61 = .ok (.return_, 1) := by decide +kernel
theorem dX8_ask_0 : decode cX8_ask 0 = .ok (.iload_n 1, 1) := by decide +kernel
theorem dX8_ask_1 : decode cX8_ask 1 = .ok (.invokestatic 177, 3) := by decide +kernel
theorem dX8_ask_4 : decode cX8_ask 4 = .ok (.ifCond .eq 10, 3) := by decide +kernel
theorem dX8_ask_7 : decode cX8_ask 7 = .ok (.iload_n 2, 1) := by decide +kernel
theorem dX8_ask_8 : decode cX8_ask 8 = .ok (.invokestatic 180, 3) := by decide +kernel
theorem dX8_ask_11 : decode cX8_ask 11 = .ok (.ifCond .ne 5, 3) := by decide +kernel
theorem dX8_ask_14 : decode cX8_ask 14 = .ok (.iconst (-1), 1) := by decide +kernel
theorem dX8_ask_15 : decode cX8_ask 15 = .ok (.ireturn, 1) := by decide +kernel
theorem dX8_ask_16 : decode cX8_ask 16 = .ok (.aload_n 0, 1) := by decide +kernel
theorem dX8_ask_17 : decode cX8_ask 17 = .ok (.getfield 9, 3) := by decide +kernel
theorem dX8_ask_20 : decode cX8_ask 20 = .ok (.iconst 2, 1) := by decide +kernel
theorem dX8_ask_21 : decode cX8_ask 21 = .ok (.iaload, 1) := by decide +kernel
theorem dX8_ask_22 : decode cX8_ask 22 = .ok (.bipush 24, 2) := by decide +kernel
theorem dX8_ask_24 : decode cX8_ask 24 = .ok (.if_icmp .ne 6, 3) := by decide +kernel
theorem dX8_ask_27 : decode cX8_ask 27 = .ok (.bipush (-2), 2) := by decide +kernel
theorem dX8_ask_29 : decode cX8_ask 29 = .ok (.ireturn, 1) := by decide +kernel
theorem dX8_ask_30 : decode cX8_ask 30 = .ok (.aload_n 0, 1) := by decide +kernel
theorem dX8_ask_31 : decode cX8_ask 31 = .ok (.getfield 9, 3) := by decide +kernel
theorem dX8_ask_34 : decode cX8_ask 34 = .ok (.iconst 1, 1) := by decide +kernel
theorem dX8_ask_35 : decode cX8_ask 35 = .ok (.iaload, 1) := by decide +kernel
theorem dX8_ask_36 : decode cX8_ask 36 = .ok (.ifCond .ne 6, 3) := by decide +kernel
theorem dX8_ask_39 : decode cX8_ask 39 = .ok (.bipush (-3), 2) := by decide +kernel
theorem dX8_ask_41 : decode cX8_ask 41 = .ok (.ireturn, 1) := by decide +kernel
theorem dX8_ask_42 : decode cX8_ask 42 = .ok (.bipush 103, 2) := by decide +kernel
theorem dX8_ask_44 : decode cX8_ask 44 = .ok (.bipush 18, 2) := by decide +kernel
theorem dX8_ask_46 : decode cX8_ask 46 = .ok (.aload_n 0, 1) := by decide +kernel
theorem dX8_ask_47 : decode cX8_ask 47 = .ok (.getfield 9, 3) := by decide +kernel
theorem dX8_ask_50 : decode cX8_ask 50 = .ok (.iconst 2, 1) := by decide +kernel
theorem dX8_ask_51 : decode cX8_ask 51 = .ok (.iaload, 1) := by decide +kernel
theorem dX8_ask_52 : decode cX8_ask 52 = .ok (.imul, 1) := by decide +kernel
theorem dX8_ask_53 : decode cX8_ask 53 = .ok (.iadd, 1) := by decide +kernel
theorem dX8_ask_54 : decode cX8_ask 54 = .ok (.istore 4, 2) := by decide +kernel
theorem dX8_ask_56 : decode cX8_ask 56 = .ok (.aload_n 0, 1) := by decide +kernel
theorem dX8_ask_57 : decode cX8_ask 57 = .ok (.getfield 9, 3) := by decide +kernel
theorem dX8_ask_60 : decode cX8_ask 60 = .ok (.iload 4, 2) := by decide +kernel
theorem dX8_ask_62 : decode cX8_ask 62 = .ok (.iload_n 1, 1) := by decide +kernel
theorem dX8_ask_63 : decode cX8_ask 63 = .ok (.iastore, 1) := by decide +kernel
theorem dX8_ask_64 : decode cX8_ask 64 = .ok (.aload_n 0, 1) := by decide +kernel
theorem dX8_ask_65 : decode cX8_ask 65 = .ok (.getfield 9, 3) := by decide +kernel
theorem dX8_ask_68 : decode cX8_ask 68 = .ok (.iload 4, 2) := by decide +kernel
theorem dX8_ask_70 : decode cX8_ask 70 = .ok (.iconst 1, 1) := by decide +kernel
theorem dX8_ask_71 : decode cX8_ask 71 = .ok (.iadd, 1) := by decide +kernel
theorem dX8_ask_72 : decode cX8_ask 72 = .ok (.iload_n 2, 1) := by decide +kernel
theorem dX8_ask_73 : decode cX8_ask 73 = .ok (.iastore, 1) := by decide +kernel
theorem dX8_ask_74 : decode cX8_ask 74 = .ok (.aload_n 0, 1) := by decide +kernel
theorem dX8_ask_75 : decode cX8_ask 75 = .ok (.getfield 9, 3) := by decide +kernel
theorem dX8_ask_78 : decode cX8_ask 78 = .ok (.iload 4, 2) := by decide +kernel
theorem dX8_ask_80 : decode cX8_ask 80 = .ok (.iconst 2, 1) := by decide +kernel
theorem dX8_ask_81 : decode cX8_ask 81 = .ok (.iadd, 1) := by decide +kernel
theorem dX8_ask_82 : decode cX8_ask 82 = .ok (.iload_n 3, 1) := by decide +kernel
theorem dX8_ask_83 : decode cX8_ask 83 = .ok (.ifCond .eq 7, 3) := by decide +kernel
theorem dX8_ask_86 : decode cX8_ask 86 = .ok (.iconst 1, 1) := by decide +kernel
theorem dX8_ask_87 : decode cX8_ask 87 = .ok (.goto 4, 3) := by decide +kernel
theorem dX8_ask_90 : decode cX8_ask 90 = .ok (.iconst 0, 1) := by decide +kernel
theorem dX8_ask_91 : decode cX8_ask 91 = .ok (.iastore, 1) := by decide +kernel
theorem dX8_ask_92 : decode cX8_ask 92 = .ok (.aload_n 0, 1) := by decide +kernel
theorem dX8_ask_93 : decode cX8_ask 93 = .ok (.aload_n 0, 1) := by decide +kernel
theorem dX8_ask_94 : decode cX8_ask 94 = .ok (.getfield 9, 3) := by decide +kernel
theorem dX8_ask_97 : decode cX8_ask 97 = .ok (.iload 4, 2) := by decide +kernel
theorem dX8_ask_99 : decode cX8_ask 99 = .ok (.iconst 3, 1) := by decide +kernel
theorem dX8_ask_100 : decode cX8_ask 100 = .ok (.iadd, 1) := by decide +kernel
theorem dX8_ask_101 : decode cX8_ask 101 = .ok (.invokevirtual 204, 3) := by decide +kernel
theorem dX8_ask_104 : decode cX8_ask 104 = .ok (.aload_n 0, 1) := by decide +kernel
theorem dX8_ask_105 : decode cX8_ask 105 = .ok (.getfield 9, 3) := by decide +kernel
theorem dX8_ask_108 : decode cX8_ask 108 = .ok (.iconst 2, 1) := by decide +kernel
theorem dX8_ask_109 : decode cX8_ask 109 = .ok (.dup2, 1) := by decide +kernel
theorem dX8_ask_110 : decode cX8_ask 110 = .ok (.iaload, 1) := by decide +kernel
theorem dX8_ask_111 : decode cX8_ask 111 = .ok (.iconst 1, 1) := by decide +kernel
theorem dX8_ask_112 : decode cX8_ask 112 = .ok (.iadd, 1) := by decide +kernel
theorem dX8_ask_113 : decode cX8_ask 113 = .ok (.iastore, 1) := by decide +kernel
theorem dX8_ask_114 : decode cX8_ask 114 = .ok (.aload_n 0, 1) := by decide +kernel
theorem dX8_ask_115 : decode cX8_ask 115 = .ok (.getfield 9, 3) := by decide +kernel
theorem dX8_ask_118 : decode cX8_ask 118 = .ok (.iconst 2, 1) := by decide +kernel
theorem dX8_ask_119 : decode cX8_ask 119 = .ok (.iaload, 1) := by decide +kernel
theorem dX8_ask_120 : decode cX8_ask 120 = .ok (.ireturn, 1) := by decide +kernel
theorem dX8_forget_0 : decode cX8_forget 0 = .ok (.aload_n 0, 1) := by decide +kernel
theorem dX8_forget_1 : decode cX8_forget 1 = .ok (.getfield 9, 3) := by decide +kernel
theorem dX8_forget_4 : decode cX8_forget 4 = .ok (.iconst 2, 1) := by decide +kernel
theorem dX8_forget_5 : decode cX8_forget 5 = .ok (.iaload, 1) := by decide +kernel
theorem dX8_forget_6 : decode cX8_forget 6 = .ok (.istore_n 1, 1) := by decide +kernel
theorem dX8_forget_7 : decode cX8_forget 7 = .ok (.aload_n 0, 1) := by decide +kernel
theorem dX8_forget_8 : decode cX8_forget 8 = .ok (.getfield 9, 3) := by decide +kernel
theorem dX8_forget_11 : decode cX8_forget 11 = .ok (.iconst 2, 1) := by decide +kernel
theorem dX8_forget_12 : decode cX8_forget 12 = .ok (.iconst 0, 1) := by decide +kernel
theorem dX8_forget_13 : decode cX8_forget 13 = .ok (.iastore, 1) := by decide +kernel
theorem dX8_forget_14 : decode cX8_forget 14 = .ok (.iload_n 1, 1) := by decide +kernel
theorem dX8_forget_15 : decode cX8_forget 15 = .ok (.ireturn, 1) := by decide +kernel
theorem dX8_findBuzzed_0 : decode cX8_findBuzzed 0 = .ok (.aload_n 0, 1) := by decide +kernel
theorem dX8_findBuzzed_1 : decode cX8_findBuzzed 1 = .ok (.aload_n 0, 1) := by decide +kernel
theorem dX8_findBuzzed_2 : decode cX8_findBuzzed 2 = .ok (.getfield 19, 3) := by decide +kernel
theorem dX8_findBuzzed_5 : decode cX8_findBuzzed 5 = .ok (.iconst 0, 1) := by decide +kernel
theorem dX8_findBuzzed_6 : decode cX8_findBuzzed 6 = .ok (.invokevirtual 204, 3) := by decide +kernel
theorem dX8_findBuzzed_9 : decode cX8_findBuzzed 9 = .ok (.iconst 0, 1) := by decide +kernel
theorem dX8_findBuzzed_10 : decode cX8_findBuzzed 10 = .ok (.istore_n 1, 1) := by decide +kernel
theorem dX8_findBuzzed_11 : decode cX8_findBuzzed 11 = .ok (.iload_n 1, 1) := by decide +kernel
theorem dX8_findBuzzed_12 : decode cX8_findBuzzed 12 = .ok (.aload_n 0, 1) := by decide +kernel
theorem dX8_findBuzzed_13 : decode cX8_findBuzzed 13 = .ok (.getfield 9, 3) := by decide +kernel
theorem dX8_findBuzzed_16 : decode cX8_findBuzzed 16 = .ok (.iconst 2, 1) := by decide +kernel
theorem dX8_findBuzzed_17 : decode cX8_findBuzzed 17 = .ok (.iaload, 1) := by decide +kernel
theorem dX8_findBuzzed_18 : decode cX8_findBuzzed 18 = .ok (.if_icmp .ge 52, 3) := by decide +kernel
theorem dX8_findBuzzed_21 : decode cX8_findBuzzed 21 = .ok (.bipush 103, 2) := by decide +kernel
theorem dX8_findBuzzed_23 : decode cX8_findBuzzed 23 = .ok (.bipush 18, 2) := by decide +kernel
theorem dX8_findBuzzed_25 : decode cX8_findBuzzed 25 = .ok (.iload_n 1, 1) := by decide +kernel
theorem dX8_findBuzzed_26 : decode cX8_findBuzzed 26 = .ok (.imul, 1) := by decide +kernel
theorem dX8_findBuzzed_27 : decode cX8_findBuzzed 27 = .ok (.iadd, 1) := by decide +kernel
theorem dX8_findBuzzed_28 : decode cX8_findBuzzed 28 = .ok (.istore_n 2, 1) := by decide +kernel
theorem dX8_findBuzzed_29 : decode cX8_findBuzzed 29 = .ok (.aload_n 0, 1) := by decide +kernel
theorem dX8_findBuzzed_30 : decode cX8_findBuzzed 30 = .ok (.aload_n 0, 1) := by decide +kernel
theorem dX8_findBuzzed_31 : decode cX8_findBuzzed 31 = .ok (.getfield 9, 3) := by decide +kernel
theorem dX8_findBuzzed_34 : decode cX8_findBuzzed 34 = .ok (.iload_n 2, 1) := by decide +kernel
theorem dX8_findBuzzed_35 : decode cX8_findBuzzed 35 = .ok (.iconst 3, 1) := by decide +kernel
theorem dX8_findBuzzed_36 : decode cX8_findBuzzed 36 = .ok (.iadd, 1) := by decide +kernel
theorem dX8_findBuzzed_37 : decode cX8_findBuzzed 37 = .ok (.invokevirtual 208, 3) := by decide +kernel
theorem dX8_findBuzzed_40 : decode cX8_findBuzzed 40 = .ok (.aload_n 0, 1) := by decide +kernel
theorem dX8_findBuzzed_41 : decode cX8_findBuzzed 41 = .ok (.getfield 43, 3) := by decide +kernel
theorem dX8_findBuzzed_44 : decode cX8_findBuzzed 44 = .ok (.iload_n 1, 1) := by decide +kernel
theorem dX8_findBuzzed_45 : decode cX8_findBuzzed 45 = .ok (.aload_n 0, 1) := by decide +kernel
theorem dX8_findBuzzed_46 : decode cX8_findBuzzed 46 = .ok (.aload_n 0, 1) := by decide +kernel
theorem dX8_findBuzzed_47 : decode cX8_findBuzzed 47 = .ok (.getfield 9, 3) := by decide +kernel
theorem dX8_findBuzzed_50 : decode cX8_findBuzzed 50 = .ok (.iload_n 2, 1) := by decide +kernel
theorem dX8_findBuzzed_51 : decode cX8_findBuzzed 51 = .ok (.iaload, 1) := by decide +kernel
theorem dX8_findBuzzed_52 : decode cX8_findBuzzed 52 = .ok (.aload_n 0, 1) := by decide +kernel
theorem dX8_findBuzzed_53 : decode cX8_findBuzzed 53 = .ok (.getfield 9, 3) := by decide +kernel
theorem dX8_findBuzzed_56 : decode cX8_findBuzzed 56 = .ok (.iload_n 2, 1) := by decide +kernel
theorem dX8_findBuzzed_57 : decode cX8_findBuzzed 57 = .ok (.iconst 1, 1) := by decide +kernel
theorem dX8_findBuzzed_58 : decode cX8_findBuzzed 58 = .ok (.iadd, 1) := by decide +kernel
theorem dX8_findBuzzed_59 : decode cX8_findBuzzed 59 = .ok (.iaload, 1) := by decide +kernel
theorem dX8_findBuzzed_60 : decode cX8_findBuzzed 60 = .ok (.invokevirtual 201, 3) := by decide +kernel
theorem dX8_findBuzzed_63 : decode cX8_findBuzzed 63 = .ok (.iastore, 1) := by decide +kernel
theorem dX8_findBuzzed_64 : decode cX8_findBuzzed 64 = .ok (.iinc 1 1, 3) := by decide +kernel
theorem dX8_findBuzzed_67 : decode cX8_findBuzzed 67 = .ok (.goto (-56), 3) := by decide +kernel
theorem dX8_findBuzzed_70 : decode cX8_findBuzzed 70 = .ok (.aload_n 0, 1) := by decide +kernel
theorem dX8_findBuzzed_71 : decode cX8_findBuzzed 71 = .ok (.aload_n 0, 1) := by decide +kernel
theorem dX8_findBuzzed_72 : decode cX8_findBuzzed 72 = .ok (.getfield 19, 3) := by decide +kernel
theorem dX8_findBuzzed_75 : decode cX8_findBuzzed 75 = .ok (.iconst 0, 1) := by decide +kernel
theorem dX8_findBuzzed_76 : decode cX8_findBuzzed 76 = .ok (.invokevirtual 208, 3) := by decide +kernel
theorem dX8_findBuzzed_79 : decode cX8_findBuzzed 79 = .ok (.return_, 1) := by decide +kernel
theorem dX8_isHeard_0 : decode cX8_isHeard 0 = .ok (.aload_n 0, 1) := by decide +kernel
theorem dX8_isHeard_1 : decode cX8_isHeard 1 = .ok (.getfield 9, 3) := by decide +kernel
theorem dX8_isHeard_4 : decode cX8_isHeard 4 = .ok (.bipush 103, 2) := by decide +kernel
theorem dX8_isHeard_6 : decode cX8_isHeard 6 = .ok (.bipush 18, 2) := by decide +kernel
theorem dX8_isHeard_8 : decode cX8_isHeard 8 = .ok (.iload_n 1, 1) := by decide +kernel
theorem dX8_isHeard_9 : decode cX8_isHeard 9 = .ok (.imul, 1) := by decide +kernel
theorem dX8_isHeard_10 : decode cX8_isHeard 10 = .ok (.iadd, 1) := by decide +kernel
theorem dX8_isHeard_11 : decode cX8_isHeard 11 = .ok (.iconst 2, 1) := by decide +kernel
theorem dX8_isHeard_12 : decode cX8_isHeard 12 = .ok (.iadd, 1) := by decide +kernel
theorem dX8_isHeard_13 : decode cX8_isHeard 13 = .ok (.iaload, 1) := by decide +kernel
theorem dX8_isHeard_14 : decode cX8_isHeard 14 = .ok (.iconst 1, 1) := by decide +kernel
theorem dX8_isHeard_15 : decode cX8_isHeard 15 = .ok (.if_icmp .ne 7, 3) := by decide +kernel
theorem dX8_isHeard_18 : decode cX8_isHeard 18 = .ok (.iconst 1, 1) := by decide +kernel
theorem dX8_isHeard_19 : decode cX8_isHeard 19 = .ok (.goto 4, 3) := by decide +kernel
theorem dX8_isHeard_22 : decode cX8_isHeard 22 = .ok (.iconst 0, 1) := by decide +kernel
theorem dX8_isHeard_23 : decode cX8_isHeard 23 = .ok (.ireturn, 1) := by decide +kernel
theorem dX8_fitsSet_0 : decode cX8_fitsSet 0 = .ok (.iconst 0, 1) := by decide +kernel
theorem dX8_fitsSet_1 : decode cX8_fitsSet 1 = .ok (.istore_n 2, 1) := by decide +kernel
theorem dX8_fitsSet_2 : decode cX8_fitsSet 2 = .ok (.iload_n 2, 1) := by decide +kernel
theorem dX8_fitsSet_3 : decode cX8_fitsSet 3 = .ok (.aload_n 0, 1) := by decide +kernel
theorem dX8_fitsSet_4 : decode cX8_fitsSet 4 = .ok (.getfield 9, 3) := by decide +kernel
theorem dX8_fitsSet_7 : decode cX8_fitsSet 7 = .ok (.iconst 2, 1) := by decide +kernel
theorem dX8_fitsSet_8 : decode cX8_fitsSet 8 = .ok (.iaload, 1) := by decide +kernel
theorem dX8_fitsSet_9 : decode cX8_fitsSet 9 = .ok (.if_icmp .ge 35, 3) := by decide +kernel
theorem dX8_fitsSet_12 : decode cX8_fitsSet 12 = .ok (.aload_n 0, 1) := by decide +kernel
theorem dX8_fitsSet_13 : decode cX8_fitsSet 13 = .ok (.getfield 43, 3) := by decide +kernel
theorem dX8_fitsSet_16 : decode cX8_fitsSet 16 = .ok (.iload_n 2, 1) := by decide +kernel
theorem dX8_fitsSet_17 : decode cX8_fitsSet 17 = .ok (.iaload, 1) := by decide +kernel
theorem dX8_fitsSet_18 : decode cX8_fitsSet 18 = .ok (.iload_n 1, 1) := by decide +kernel
theorem dX8_fitsSet_19 : decode cX8_fitsSet 19 = .ok (.iand, 1) := by decide +kernel
theorem dX8_fitsSet_20 : decode cX8_fitsSet 20 = .ok (.ifCond .eq 7, 3) := by decide +kernel
theorem dX8_fitsSet_23 : decode cX8_fitsSet 23 = .ok (.iconst 1, 1) := by decide +kernel
theorem dX8_fitsSet_24 : decode cX8_fitsSet 24 = .ok (.goto 4, 3) := by decide +kernel
theorem dX8_fitsSet_27 : decode cX8_fitsSet 27 = .ok (.iconst 0, 1) := by decide +kernel
theorem dX8_fitsSet_28 : decode cX8_fitsSet 28 = .ok (.aload_n 0, 1) := by decide +kernel
theorem dX8_fitsSet_29 : decode cX8_fitsSet 29 = .ok (.iload_n 2, 1) := by decide +kernel
theorem dX8_fitsSet_30 : decode cX8_fitsSet 30 = .ok (.invokevirtual 211, 3) := by decide +kernel
theorem dX8_fitsSet_33 : decode cX8_fitsSet 33 = .ok (.if_icmp .eq 5, 3) := by decide +kernel
theorem dX8_fitsSet_36 : decode cX8_fitsSet 36 = .ok (.iconst 0, 1) := by decide +kernel
theorem dX8_fitsSet_37 : decode cX8_fitsSet 37 = .ok (.ireturn, 1) := by decide +kernel
theorem dX8_fitsSet_38 : decode cX8_fitsSet 38 = .ok (.iinc 2 1, 3) := by decide +kernel
theorem dX8_fitsSet_41 : decode cX8_fitsSet 41 = .ok (.goto (-39), 3) := by decide +kernel
theorem dX8_fitsSet_44 : decode cX8_fitsSet 44 = .ok (.iconst 1, 1) := by decide +kernel
theorem dX8_fitsSet_45 : decode cX8_fitsSet 45 = .ok (.ireturn, 1) := by decide +kernel
theorem dX8_fitting_0 : decode cX8_fitting 0 = .ok (.aload_n 0, 1) := by decide +kernel
theorem dX8_fitting_1 : decode cX8_fitting 1 = .ok (.invokevirtual 214, 3) := by decide +kernel
theorem dX8_fitting_4 : decode cX8_fitting 4 = .ok (.iconst 0, 1) := by decide +kernel
theorem dX8_fitting_5 : decode cX8_fitting 5 = .ok (.istore_n 1, 1) := by decide +kernel
theorem dX8_fitting_6 : decode cX8_fitting 6 = .ok (.iconst 0, 1) := by decide +kernel
theorem dX8_fitting_7 : decode cX8_fitting 7 = .ok (.istore_n 2, 1) := by decide +kernel
theorem dX8_fitting_8 : decode cX8_fitting 8 = .ok (.iload_n 2, 1) := by decide +kernel
theorem dX8_fitting_9 : decode cX8_fitting 9 = .ok (.aload_n 0, 1) := by decide +kernel
theorem dX8_fitting_10 : decode cX8_fitting 10 = .ok (.getfield 9, 3) := by decide +kernel
theorem dX8_fitting_13 : decode cX8_fitting 13 = .ok (.iconst 1, 1) := by decide +kernel
theorem dX8_fitting_14 : decode cX8_fitting 14 = .ok (.iaload, 1) := by decide +kernel
theorem dX8_fitting_15 : decode cX8_fitting 15 = .ok (.if_icmp .ge 29, 3) := by decide +kernel
theorem dX8_fitting_18 : decode cX8_fitting 18 = .ok (.iload_n 1, 1) := by decide +kernel
theorem dX8_fitting_19 : decode cX8_fitting 19 = .ok (.aload_n 0, 1) := by decide +kernel
theorem dX8_fitting_20 : decode cX8_fitting 20 = .ok (.iconst 1, 1) := by decide +kernel
theorem dX8_fitting_21 : decode cX8_fitting 21 = .ok (.iload_n 2, 1) := by decide +kernel
theorem dX8_fitting_22 : decode cX8_fitting 22 = .ok (.ishl, 1) := by decide +kernel
theorem dX8_fitting_23 : decode cX8_fitting 23 = .ok (.invokevirtual 217, 3) := by decide +kernel
theorem dX8_fitting_26 : decode cX8_fitting 26 = .ok (.ifCond .eq 9, 3) := by decide +kernel
theorem dX8_fitting_29 : decode cX8_fitting 29 = .ok (.iconst 1, 1) := by decide +kernel
theorem dX8_fitting_30 : decode cX8_fitting 30 = .ok (.iload_n 2, 1) := by decide +kernel
theorem dX8_fitting_31 : decode cX8_fitting 31 = .ok (.ishl, 1) := by decide +kernel
theorem dX8_fitting_32 : decode cX8_fitting 32 = .ok (.goto 4, 3) := by decide +kernel
theorem dX8_fitting_35 : decode cX8_fitting 35 = .ok (.iconst 0, 1) := by decide +kernel
theorem dX8_fitting_36 : decode cX8_fitting 36 = .ok (.ior, 1) := by decide +kernel
theorem dX8_fitting_37 : decode cX8_fitting 37 = .ok (.istore_n 1, 1) := by decide +kernel
theorem dX8_fitting_38 : decode cX8_fitting 38 = .ok (.iinc 2 1, 3) := by decide +kernel
theorem dX8_fitting_41 : decode cX8_fitting 41 = .ok (.goto (-33), 3) := by decide +kernel
theorem dX8_fitting_44 : decode cX8_fitting 44 = .ok (.iload_n 1, 1) := by decide +kernel
theorem dX8_fitting_45 : decode cX8_fitting 45 = .ok (.ireturn, 1) := by decide +kernel
theorem dX8_fits_0 : decode cX8_fits 0 = .ok (.aload_n 0, 1) := by decide +kernel
theorem dX8_fits_1 : decode cX8_fits 1 = .ok (.getfield 9, 3) := by decide +kernel
theorem dX8_fits_4 : decode cX8_fits 4 = .ok (.iconst 1, 1) := by decide +kernel
theorem dX8_fits_5 : decode cX8_fits 5 = .ok (.iaload, 1) := by decide +kernel
theorem dX8_fits_6 : decode cX8_fits 6 = .ok (.ifCond .ne 8, 3) := by decide +kernel
theorem dX8_fits_9 : decode cX8_fits 9 = .ok (.bipush (-3), 2) := by decide +kernel
theorem dX8_fits_11 : decode cX8_fits 11 = .ok (.goto 7, 3) := by decide +kernel
theorem dX8_fits_14 : decode cX8_fits 14 = .ok (.aload_n 0, 1) := by decide +kernel
theorem dX8_fits_15 : decode cX8_fits 15 = .ok (.invokevirtual 220, 3) := by decide +kernel
theorem dX8_fits_18 : decode cX8_fits 18 = .ok (.ireturn, 1) := by decide +kernel
theorem dX8_both_0 : decode cX8_both 0 = .ok (.aload_n 0, 1) := by decide +kernel
theorem dX8_both_1 : decode cX8_both 1 = .ok (.iload_n 1, 1) := by decide +kernel
theorem dX8_both_2 : decode cX8_both 2 = .ok (.invokevirtual 143, 3) := by decide +kernel
theorem dX8_both_5 : decode cX8_both 5 = .ok (.ifCond .eq 16, 3) := by decide +kernel
theorem dX8_both_8 : decode cX8_both 8 = .ok (.aload_n 0, 1) := by decide +kernel
theorem dX8_both_9 : decode cX8_both 9 = .ok (.iload_n 2, 1) := by decide +kernel
theorem dX8_both_10 : decode cX8_both 10 = .ok (.invokevirtual 143, 3) := by decide +kernel
theorem dX8_both_13 : decode cX8_both 13 = .ok (.ifCond .eq 8, 3) := by decide +kernel
theorem dX8_both_16 : decode cX8_both 16 = .ok (.iload_n 1, 1) := by decide +kernel
theorem dX8_both_17 : decode cX8_both 17 = .ok (.iload_n 2, 1) := by decide +kernel
theorem dX8_both_18 : decode cX8_both 18 = .ok (.if_icmp .ne 5, 3) := by decide +kernel
theorem dX8_both_21 : decode cX8_both 21 = .ok (.iconst (-1), 1) := by decide +kernel
theorem dX8_both_22 : decode cX8_both 22 = .ok (.ireturn, 1) := by decide +kernel
theorem dX8_both_23 : decode cX8_both 23 = .ok (.aload_n 0, 1) := by decide +kernel
theorem dX8_both_24 : decode cX8_both 24 = .ok (.invokevirtual 214, 3) := by decide +kernel
theorem dX8_both_27 : decode cX8_both 27 = .ok (.aload_n 0, 1) := by decide +kernel
theorem dX8_both_28 : decode cX8_both 28 = .ok (.iconst 1, 1) := by decide +kernel
theorem dX8_both_29 : decode cX8_both 29 = .ok (.iload_n 1, 1) := by decide +kernel
theorem dX8_both_30 : decode cX8_both 30 = .ok (.ishl, 1) := by decide +kernel
theorem dX8_both_31 : decode cX8_both 31 = .ok (.iconst 1, 1) := by decide +kernel
theorem dX8_both_32 : decode cX8_both 32 = .ok (.iload_n 2, 1) := by decide +kernel
theorem dX8_both_33 : decode cX8_both 33 = .ok (.ishl, 1) := by decide +kernel
theorem dX8_both_34 : decode cX8_both 34 = .ok (.ior, 1) := by decide +kernel
theorem dX8_both_35 : decode cX8_both 35 = .ok (.invokevirtual 217, 3) := by decide +kernel
theorem dX8_both_38 : decode cX8_both 38 = .ok (.ifCond .eq 7, 3) := by decide +kernel
theorem dX8_both_41 : decode cX8_both 41 = .ok (.iconst 1, 1) := by decide +kernel
theorem dX8_both_42 : decode cX8_both 42 = .ok (.goto 4, 3) := by decide +kernel
theorem dX8_both_45 : decode cX8_both 45 = .ok (.iconst 0, 1) := by decide +kernel
theorem dX8_both_46 : decode cX8_both 46 = .ok (.ireturn, 1) := by decide +kernel
theorem dX8_common_0 : decode cX8_common 0 = .ok (.iload_n 1, 1) := by decide +kernel
theorem dX8_common_1 : decode cX8_common 1 = .ok (.ifCond .ne 7, 3) := by decide +kernel
theorem dX8_common_4 : decode cX8_common 4 = .ok (.iload_n 0, 1) := by decide +kernel
theorem dX8_common_5 : decode cX8_common 5 = .ok (.goto 10, 3) := by decide +kernel
theorem dX8_common_8 : decode cX8_common 8 = .ok (.iload_n 1, 1) := by decide +kernel
theorem dX8_common_9 : decode cX8_common 9 = .ok (.iload_n 0, 1) := by decide +kernel
theorem dX8_common_10 : decode cX8_common 10 = .ok (.iload_n 1, 1) := by decide +kernel
theorem dX8_common_11 : decode cX8_common 11 = .ok (.irem, 1) := by decide +kernel
theorem dX8_common_12 : decode cX8_common 12 = .ok (.invokestatic 223, 3) := by decide +kernel
theorem dX8_common_15 : decode cX8_common 15 = .ok (.ireturn, 1) := by decide +kernel
theorem dX8_odds_0 : decode cX8_odds 0 = .ok (.aload_n 0, 1) := by decide +kernel
theorem dX8_odds_1 : decode cX8_odds 1 = .ok (.iload_n 1, 1) := by decide +kernel
theorem dX8_odds_2 : decode cX8_odds 2 = .ok (.invokevirtual 143, 3) := by decide +kernel
theorem dX8_odds_5 : decode cX8_odds 5 = .ok (.ifCond .eq 13, 3) := by decide +kernel
theorem dX8_odds_8 : decode cX8_odds 8 = .ok (.iload_n 3, 1) := by decide +kernel
theorem dX8_odds_9 : decode cX8_odds 9 = .ok (.i2l, 1) := by decide +kernel
theorem dX8_odds_10 : decode cX8_odds 10 = .ok (.lconst 0, 1) := by decide +kernel
theorem dX8_odds_11 : decode cX8_odds 11 = .ok (.lconst 1, 1) := by decide +kernel
theorem dX8_odds_12 : decode cX8_odds 12 = .ok (.invokestatic 53, 3) := by decide +kernel
theorem dX8_odds_15 : decode cX8_odds 15 = .ok (.ifCond .ne 5, 3) := by decide +kernel
theorem dX8_odds_18 : decode cX8_odds 18 = .ok (.iconst (-1), 1) := by decide +kernel
theorem dX8_odds_19 : decode cX8_odds 19 = .ok (.ireturn, 1) := by decide +kernel
theorem dX8_odds_20 : decode cX8_odds 20 = .ok (.aload_n 0, 1) := by decide +kernel
theorem dX8_odds_21 : decode cX8_odds 21 = .ok (.invokevirtual 214, 3) := by decide +kernel
theorem dX8_odds_24 : decode cX8_odds 24 = .ok (.iconst 0, 1) := by decide +kernel
theorem dX8_odds_25 : decode cX8_odds 25 = .ok (.istore 4, 2) := by decide +kernel
theorem dX8_odds_27 : decode cX8_odds 27 = .ok (.iconst 0, 1) := by decide +kernel
theorem dX8_odds_28 : decode cX8_odds 28 = .ok (.istore 5, 2) := by decide +kernel
theorem dX8_odds_30 : decode cX8_odds 30 = .ok (.iconst 0, 1) := by decide +kernel
theorem dX8_odds_31 : decode cX8_odds 31 = .ok (.istore 6, 2) := by decide +kernel
theorem dX8_odds_33 : decode cX8_odds 33 = .ok (.iload 6, 2) := by decide +kernel
theorem dX8_odds_35 : decode cX8_odds 35 = .ok (.aload_n 0, 1) := by decide +kernel
theorem dX8_odds_36 : decode cX8_odds 36 = .ok (.getfield 9, 3) := by decide +kernel
theorem dX8_odds_39 : decode cX8_odds 39 = .ok (.iconst 1, 1) := by decide +kernel
theorem dX8_odds_40 : decode cX8_odds 40 = .ok (.iaload, 1) := by decide +kernel
theorem dX8_odds_41 : decode cX8_odds 41 = .ok (.if_icmp .ge 126, 3) := by decide +kernel
theorem dX8_odds_44 : decode cX8_odds 44 = .ok (.iload 6, 2) := by decide +kernel
theorem dX8_odds_46 : decode cX8_odds 46 = .ok (.istore 7, 2) := by decide +kernel
theorem dX8_odds_48 : decode cX8_odds 48 = .ok (.iload 7, 2) := by decide +kernel
theorem dX8_odds_50 : decode cX8_odds 50 = .ok (.aload_n 0, 1) := by decide +kernel
theorem dX8_odds_51 : decode cX8_odds 51 = .ok (.getfield 9, 3) := by decide +kernel
theorem dX8_odds_54 : decode cX8_odds 54 = .ok (.iconst 1, 1) := by decide +kernel
theorem dX8_odds_55 : decode cX8_odds 55 = .ok (.iaload, 1) := by decide +kernel
theorem dX8_odds_56 : decode cX8_odds 56 = .ok (.if_icmp .ge 105, 3) := by decide +kernel
theorem dX8_odds_59 : decode cX8_odds 59 = .ok (.iload_n 2, 1) := by decide +kernel
theorem dX8_odds_60 : decode cX8_odds 60 = .ok (.iload 6, 2) := by decide +kernel
theorem dX8_odds_62 : decode cX8_odds 62 = .ok (.iload 7, 2) := by decide +kernel
theorem dX8_odds_64 : decode cX8_odds 64 = .ok (.if_icmp .ne 7, 3) := by decide +kernel
theorem dX8_odds_67 : decode cX8_odds 67 = .ok (.iconst 1, 1) := by decide +kernel
theorem dX8_odds_68 : decode cX8_odds 68 = .ok (.goto 4, 3) := by decide +kernel
theorem dX8_odds_71 : decode cX8_odds 71 = .ok (.iconst 0, 1) := by decide +kernel
theorem dX8_odds_72 : decode cX8_odds 72 = .ok (.if_icmp .eq 83, 3) := by decide +kernel
theorem dX8_odds_75 : decode cX8_odds 75 = .ok (.aload_n 0, 1) := by decide +kernel
theorem dX8_odds_76 : decode cX8_odds 76 = .ok (.iconst 1, 1) := by decide +kernel
theorem dX8_odds_77 : decode cX8_odds 77 = .ok (.iload 6, 2) := by decide +kernel
theorem dX8_odds_79 : decode cX8_odds 79 = .ok (.ishl, 1) := by decide +kernel
theorem dX8_odds_80 : decode cX8_odds 80 = .ok (.iconst 1, 1) := by decide +kernel
theorem dX8_odds_81 : decode cX8_odds 81 = .ok (.iload 7, 2) := by decide +kernel
theorem dX8_odds_83 : decode cX8_odds 83 = .ok (.ishl, 1) := by decide +kernel
theorem dX8_odds_84 : decode cX8_odds 84 = .ok (.ior, 1) := by decide +kernel
theorem dX8_odds_85 : decode cX8_odds 85 = .ok (.invokevirtual 217, 3) := by decide +kernel
theorem dX8_odds_88 : decode cX8_odds 88 = .ok (.ifCond .ne 6, 3) := by decide +kernel
theorem dX8_odds_91 : decode cX8_odds 91 = .ok (.goto 64, 3) := by decide +kernel
theorem dX8_odds_94 : decode cX8_odds 94 = .ok (.iload_n 2, 1) := by decide +kernel
theorem dX8_odds_95 : decode cX8_odds 95 = .ok (.ifCond .eq 21, 3) := by decide +kernel
theorem dX8_odds_98 : decode cX8_odds 98 = .ok (.aload_n 0, 1) := by decide +kernel
theorem dX8_odds_99 : decode cX8_odds 99 = .ok (.iload 6, 2) := by decide +kernel
theorem dX8_odds_101 : decode cX8_odds 101 = .ok (.iconst 4, 1) := by decide +kernel
theorem dX8_odds_102 : decode cX8_odds 102 = .ok (.invokevirtual 140, 3) := by decide +kernel
theorem dX8_odds_105 : decode cX8_odds 105 = .ok (.aload_n 0, 1) := by decide +kernel
theorem dX8_odds_106 : decode cX8_odds 106 = .ok (.iload 7, 2) := by decide +kernel
theorem dX8_odds_108 : decode cX8_odds 108 = .ok (.iconst 4, 1) := by decide +kernel
theorem dX8_odds_109 : decode cX8_odds 109 = .ok (.invokevirtual 140, 3) := by decide +kernel
theorem dX8_odds_112 : decode cX8_odds 112 = .ok (.imul, 1) := by decide +kernel
theorem dX8_odds_113 : decode cX8_odds 113 = .ok (.goto 10, 3) := by decide +kernel
theorem dX8_odds_116 : decode cX8_odds 116 = .ok (.aload_n 0, 1) := by decide +kernel
theorem dX8_odds_117 : decode cX8_odds 117 = .ok (.iload 6, 2) := by decide +kernel
theorem dX8_odds_119 : decode cX8_odds 119 = .ok (.iconst 4, 1) := by decide +kernel
theorem dX8_odds_120 : decode cX8_odds 120 = .ok (.invokevirtual 140, 3) := by decide +kernel
theorem dX8_odds_123 : decode cX8_odds 123 = .ok (.istore 8, 2) := by decide +kernel
theorem dX8_odds_125 : decode cX8_odds 125 = .ok (.iload 5, 2) := by decide +kernel
theorem dX8_odds_127 : decode cX8_odds 127 = .ok (.iload 8, 2) := by decide +kernel
theorem dX8_odds_129 : decode cX8_odds 129 = .ok (.iadd, 1) := by decide +kernel
theorem dX8_odds_130 : decode cX8_odds 130 = .ok (.istore 5, 2) := by decide +kernel
theorem dX8_odds_132 : decode cX8_odds 132 = .ok (.iload 4, 2) := by decide +kernel
theorem dX8_odds_134 : decode cX8_odds 134 = .ok (.iload 6, 2) := by decide +kernel
theorem dX8_odds_136 : decode cX8_odds 136 = .ok (.iload_n 1, 1) := by decide +kernel
theorem dX8_odds_137 : decode cX8_odds 137 = .ok (.if_icmp .eq 9, 3) := by decide +kernel
theorem dX8_odds_140 : decode cX8_odds 140 = .ok (.iload 7, 2) := by decide +kernel
theorem dX8_odds_142 : decode cX8_odds 142 = .ok (.iload_n 1, 1) := by decide +kernel
theorem dX8_odds_143 : decode cX8_odds 143 = .ok (.if_icmp .ne 8, 3) := by decide +kernel
theorem dX8_odds_146 : decode cX8_odds 146 = .ok (.iload 8, 2) := by decide +kernel
theorem dX8_odds_148 : decode cX8_odds 148 = .ok (.goto 4, 3) := by decide +kernel
theorem dX8_odds_151 : decode cX8_odds 151 = .ok (.iconst 0, 1) := by decide +kernel
theorem dX8_odds_152 : decode cX8_odds 152 = .ok (.iadd, 1) := by decide +kernel
theorem dX8_odds_153 : decode cX8_odds 153 = .ok (.istore 4, 2) := by decide +kernel
theorem dX8_odds_155 : decode cX8_odds 155 = .ok (.iinc 7 1, 3) := by decide +kernel
theorem dX8_odds_158 : decode cX8_odds 158 = .ok (.goto (-110), 3) := by decide +kernel
theorem dX8_odds_161 : decode cX8_odds 161 = .ok (.iinc 6 1, 3) := by decide +kernel
theorem dX8_odds_164 : decode cX8_odds 164 = .ok (.goto (-131), 3) := by decide +kernel
theorem dX8_odds_167 : decode cX8_odds 167 = .ok (.iload 5, 2) := by decide +kernel
theorem dX8_odds_169 : decode cX8_odds 169 = .ok (.ifCond .ne 6, 3) := by decide +kernel
theorem dX8_odds_172 : decode cX8_odds 172 = .ok (.bipush (-4), 2) := by decide +kernel
theorem dX8_odds_174 : decode cX8_odds 174 = .ok (.ireturn, 1) := by decide +kernel
theorem dX8_odds_175 : decode cX8_odds 175 = .ok (.iload 5, 2) := by decide +kernel
theorem dX8_odds_177 : decode cX8_odds 177 = .ok (.iload 4, 2) := by decide +kernel
theorem dX8_odds_179 : decode cX8_odds 179 = .ok (.invokestatic 223, 3) := by decide +kernel
theorem dX8_odds_182 : decode cX8_odds 182 = .ok (.istore 6, 2) := by decide +kernel
theorem dX8_odds_184 : decode cX8_odds 184 = .ok (.iload_n 3, 1) := by decide +kernel
theorem dX8_odds_185 : decode cX8_odds 185 = .ok (.ifCond .ne 11, 3) := by decide +kernel
theorem dX8_odds_188 : decode cX8_odds 188 = .ok (.iload 4, 2) := by decide +kernel
theorem dX8_odds_190 : decode cX8_odds 190 = .ok (.iload 6, 2) := by decide +kernel
theorem dX8_odds_192 : decode cX8_odds 192 = .ok (.idiv, 1) := by decide +kernel
theorem dX8_odds_193 : decode cX8_odds 193 = .ok (.goto 8, 3) := by decide +kernel
theorem dX8_odds_196 : decode cX8_odds 196 = .ok (.iload 5, 2) := by decide +kernel
theorem dX8_odds_198 : decode cX8_odds 198 = .ok (.iload 6, 2) := by decide +kernel
theorem dX8_odds_200 : decode cX8_odds 200 = .ok (.idiv, 1) := by decide +kernel
theorem dX8_odds_201 : decode cX8_odds 201 = .ok (.ireturn, 1) := by decide +kernel
theorem dX8_which_0 : decode cX8_which 0 = .ok (.aload_n 0, 1) := by decide +kernel
theorem dX8_which_1 : decode cX8_which 1 = .ok (.invokevirtual 220, 3) := by decide +kernel
theorem dX8_which_4 : decode cX8_which 4 = .ok (.istore_n 1, 1) := by decide +kernel
theorem dX8_which_5 : decode cX8_which 5 = .ok (.bipush (-4), 2) := by decide +kernel
theorem dX8_which_7 : decode cX8_which 7 = .ok (.istore_n 2, 1) := by decide +kernel
theorem dX8_which_8 : decode cX8_which 8 = .ok (.iconst 0, 1) := by decide +kernel
theorem dX8_which_9 : decode cX8_which 9 = .ok (.istore_n 3, 1) := by decide +kernel
theorem dX8_which_10 : decode cX8_which 10 = .ok (.iload_n 3, 1) := by decide +kernel
theorem dX8_which_11 : decode cX8_which 11 = .ok (.aload_n 0, 1) := by decide +kernel
theorem dX8_which_12 : decode cX8_which 12 = .ok (.getfield 9, 3) := by decide +kernel
theorem dX8_which_15 : decode cX8_which 15 = .ok (.iconst 1, 1) := by decide +kernel
theorem dX8_which_16 : decode cX8_which 16 = .ok (.iaload, 1) := by decide +kernel
theorem dX8_which_17 : decode cX8_which 17 = .ok (.if_icmp .ge 39, 3) := by decide +kernel
theorem dX8_which_20 : decode cX8_which 20 = .ok (.iload_n 1, 1) := by decide +kernel
theorem dX8_which_21 : decode cX8_which 21 = .ok (.iload_n 3, 1) := by decide +kernel
theorem dX8_which_22 : decode cX8_which 22 = .ok (.ishr, 1) := by decide +kernel
theorem dX8_which_23 : decode cX8_which 23 = .ok (.iconst 1, 1) := by decide +kernel
theorem dX8_which_24 : decode cX8_which 24 = .ok (.iand, 1) := by decide +kernel
theorem dX8_which_25 : decode cX8_which 25 = .ok (.iconst 1, 1) := by decide +kernel
theorem dX8_which_26 : decode cX8_which 26 = .ok (.if_icmp .ne 24, 3) := by decide +kernel
theorem dX8_which_29 : decode cX8_which 29 = .ok (.iload_n 2, 1) := by decide +kernel
theorem dX8_which_30 : decode cX8_which 30 = .ok (.ifCond .lt 18, 3) := by decide +kernel
theorem dX8_which_33 : decode cX8_which 33 = .ok (.aload_n 0, 1) := by decide +kernel
theorem dX8_which_34 : decode cX8_which 34 = .ok (.iload_n 3, 1) := by decide +kernel
theorem dX8_which_35 : decode cX8_which 35 = .ok (.iconst 4, 1) := by decide +kernel
theorem dX8_which_36 : decode cX8_which 36 = .ok (.invokevirtual 140, 3) := by decide +kernel
theorem dX8_which_39 : decode cX8_which 39 = .ok (.aload_n 0, 1) := by decide +kernel
theorem dX8_which_40 : decode cX8_which 40 = .ok (.iload_n 2, 1) := by decide +kernel
theorem dX8_which_41 : decode cX8_which 41 = .ok (.iconst 4, 1) := by decide +kernel
theorem dX8_which_42 : decode cX8_which 42 = .ok (.invokevirtual 140, 3) := by decide +kernel
theorem dX8_which_45 : decode cX8_which 45 = .ok (.if_icmp .le 5, 3) := by decide +kernel
theorem dX8_which_48 : decode cX8_which 48 = .ok (.iload_n 3, 1) := by decide +kernel
theorem dX8_which_49 : decode cX8_which 49 = .ok (.istore_n 2, 1) := by decide +kernel
theorem dX8_which_50 : decode cX8_which 50 = .ok (.iinc 3 1, 3) := by decide +kernel
theorem dX8_which_53 : decode cX8_which 53 = .ok (.goto (-43), 3) := by decide +kernel
theorem dX8_which_56 : decode cX8_which 56 = .ok (.iload_n 2, 1) := by decide +kernel
theorem dX8_which_57 : decode cX8_which 57 = .ok (.ireturn, 1) := by decide +kernel
theorem dX8_chancesOf_0 : decode cX8_chancesOf 0 = .ok (.iconst 0, 1) := by decide +kernel
theorem dX8_chancesOf_1 : decode cX8_chancesOf 1 = .ok (.istore_n 2, 1) := by decide +kernel
theorem dX8_chancesOf_2 : decode cX8_chancesOf 2 = .ok (.iconst 0, 1) := by decide +kernel
theorem dX8_chancesOf_3 : decode cX8_chancesOf 3 = .ok (.istore_n 3, 1) := by decide +kernel
theorem dX8_chancesOf_4 : decode cX8_chancesOf 4 = .ok (.iload_n 3, 1) := by decide +kernel
theorem dX8_chancesOf_5 : decode cX8_chancesOf 5 = .ok (.aload_n 0, 1) := by decide +kernel
theorem dX8_chancesOf_6 : decode cX8_chancesOf 6 = .ok (.getfield 9, 3) := by decide +kernel
theorem dX8_chancesOf_9 : decode cX8_chancesOf 9 = .ok (.iconst 1, 1) := by decide +kernel
theorem dX8_chancesOf_10 : decode cX8_chancesOf 10 = .ok (.iaload, 1) := by decide +kernel
theorem dX8_chancesOf_11 : decode cX8_chancesOf 11 = .ok (.if_icmp .ge 31, 3) := by decide +kernel
theorem dX8_chancesOf_14 : decode cX8_chancesOf 14 = .ok (.iload_n 2, 1) := by decide +kernel
theorem dX8_chancesOf_15 : decode cX8_chancesOf 15 = .ok (.iload_n 1, 1) := by decide +kernel
theorem dX8_chancesOf_16 : decode cX8_chancesOf 16 = .ok (.iload_n 3, 1) := by decide +kernel
theorem dX8_chancesOf_17 : decode cX8_chancesOf 17 = .ok (.ishr, 1) := by decide +kernel
theorem dX8_chancesOf_18 : decode cX8_chancesOf 18 = .ok (.iconst 1, 1) := by decide +kernel
theorem dX8_chancesOf_19 : decode cX8_chancesOf 19 = .ok (.iand, 1) := by decide +kernel
theorem dX8_chancesOf_20 : decode cX8_chancesOf 20 = .ok (.iconst 1, 1) := by decide +kernel
theorem dX8_chancesOf_21 : decode cX8_chancesOf 21 = .ok (.if_icmp .ne 12, 3) := by decide +kernel
theorem dX8_chancesOf_24 : decode cX8_chancesOf 24 = .ok (.aload_n 0, 1) := by decide +kernel
theorem dX8_chancesOf_25 : decode cX8_chancesOf 25 = .ok (.iload_n 3, 1) := by decide +kernel
theorem dX8_chancesOf_26 : decode cX8_chancesOf 26 = .ok (.iconst 4, 1) := by decide +kernel
theorem dX8_chancesOf_27 : decode cX8_chancesOf 27 = .ok (.invokevirtual 140, 3) := by decide +kernel
theorem dX8_chancesOf_30 : decode cX8_chancesOf 30 = .ok (.goto 4, 3) := by decide +kernel
theorem dX8_chancesOf_33 : decode cX8_chancesOf 33 = .ok (.iconst 0, 1) := by decide +kernel
theorem dX8_chancesOf_34 : decode cX8_chancesOf 34 = .ok (.iadd, 1) := by decide +kernel
theorem dX8_chancesOf_35 : decode cX8_chancesOf 35 = .ok (.istore_n 2, 1) := by decide +kernel
theorem dX8_chancesOf_36 : decode cX8_chancesOf 36 = .ok (.iinc 3 1, 3) := by decide +kernel
theorem dX8_chancesOf_39 : decode cX8_chancesOf 39 = .ok (.goto (-35), 3) := by decide +kernel
theorem dX8_chancesOf_42 : decode cX8_chancesOf 42 = .ok (.iload_n 2, 1) := by decide +kernel
theorem dX8_chancesOf_43 : decode cX8_chancesOf 43 = .ok (.ireturn, 1) := by decide +kernel
theorem dX8_next_0 : decode cX8_next 0 = .ok (.iload_n 1, 1) := by decide +kernel
theorem dX8_next_1 : decode cX8_next 1 = .ok (.invokestatic 180, 3) := by decide +kernel
theorem dX8_next_4 : decode cX8_next 4 = .ok (.ifCond .ne 5, 3) := by decide +kernel
theorem dX8_next_7 : decode cX8_next 7 = .ok (.iconst (-1), 1) := by decide +kernel
theorem dX8_next_8 : decode cX8_next 8 = .ok (.ireturn, 1) := by decide +kernel
theorem dX8_next_9 : decode cX8_next 9 = .ok (.aload_n 0, 1) := by decide +kernel
theorem dX8_next_10 : decode cX8_next 10 = .ok (.invokevirtual 220, 3) := by decide +kernel
theorem dX8_next_13 : decode cX8_next 13 = .ok (.istore_n 2, 1) := by decide +kernel
theorem dX8_next_14 : decode cX8_next 14 = .ok (.iload_n 2, 1) := by decide +kernel
theorem dX8_next_15 : decode cX8_next 15 = .ok (.ifCond .ne 6, 3) := by decide +kernel
theorem dX8_next_18 : decode cX8_next 18 = .ok (.bipush (-4), 2) := by decide +kernel
theorem dX8_next_20 : decode cX8_next 20 = .ok (.ireturn, 1) := by decide +kernel
theorem dX8_next_21 : decode cX8_next 21 = .ok (.aload_n 0, 1) := by decide +kernel
theorem dX8_next_22 : decode cX8_next 22 = .ok (.iload_n 2, 1) := by decide +kernel
theorem dX8_next_23 : decode cX8_next 23 = .ok (.invokevirtual 226, 3) := by decide +kernel
theorem dX8_next_26 : decode cX8_next 26 = .ok (.istore_n 3, 1) := by decide +kernel
theorem dX8_next_27 : decode cX8_next 27 = .ok (.bipush (-4), 2) := by decide +kernel
theorem dX8_next_29 : decode cX8_next 29 = .ok (.istore 4, 2) := by decide +kernel
theorem dX8_next_31 : decode cX8_next 31 = .ok (.iconst 0, 1) := by decide +kernel
theorem dX8_next_32 : decode cX8_next 32 = .ok (.istore 5, 2) := by decide +kernel
theorem dX8_next_34 : decode cX8_next 34 = .ok (.bipush 10, 2) := by decide +kernel
theorem dX8_next_36 : decode cX8_next 36 = .ok (.istore 6, 2) := by decide +kernel
theorem dX8_next_38 : decode cX8_next 38 = .ok (.iload 6, 2) := by decide +kernel
theorem dX8_next_40 : decode cX8_next 40 = .ok (.sipush 600, 3) := by decide +kernel
theorem dX8_next_43 : decode cX8_next 43 = .ok (.if_icmp .gt 54, 3) := by decide +kernel
theorem dX8_next_46 : decode cX8_next 46 = .ok (.iconst 2, 1) := by decide +kernel
theorem dX8_next_47 : decode cX8_next 47 = .ok (.aload_n 0, 1) := by decide +kernel
theorem dX8_next_48 : decode cX8_next 48 = .ok (.iload_n 2, 1) := by decide +kernel
theorem dX8_next_49 : decode cX8_next 49 = .ok (.aload_n 0, 1) := by decide +kernel
theorem dX8_next_50 : decode cX8_next 50 = .ok (.iload 6, 2) := by decide +kernel
theorem dX8_next_52 : decode cX8_next 52 = .ok (.iload_n 1, 1) := by decide +kernel
theorem dX8_next_53 : decode cX8_next 53 = .ok (.invokevirtual 201, 3) := by decide +kernel
theorem dX8_next_56 : decode cX8_next 56 = .ok (.iand, 1) := by decide +kernel
theorem dX8_next_57 : decode cX8_next 57 = .ok (.invokevirtual 226, 3) := by decide +kernel
theorem dX8_next_60 : decode cX8_next 60 = .ok (.imul, 1) := by decide +kernel
theorem dX8_next_61 : decode cX8_next 61 = .ok (.iload_n 3, 1) := by decide +kernel
theorem dX8_next_62 : decode cX8_next 62 = .ok (.isub, 1) := by decide +kernel
theorem dX8_next_63 : decode cX8_next 63 = .ok (.invokestatic 167, 3) := by decide +kernel
theorem dX8_next_66 : decode cX8_next 66 = .ok (.istore 7, 2) := by decide +kernel
theorem dX8_next_68 : decode cX8_next 68 = .ok (.iload 4, 2) := by decide +kernel
theorem dX8_next_70 : decode cX8_next 70 = .ok (.ifCond .lt 13, 3) := by decide +kernel
theorem dX8_next_73 : decode cX8_next 73 = .ok (.iload 7, 2) := by decide +kernel
theorem dX8_next_75 : decode cX8_next 75 = .ok (.iload 5, 2) := by decide +kernel
theorem dX8_next_77 : decode cX8_next 77 = .ok (.if_icmp .lt 6, 3) := by decide +kernel
theorem dX8_next_80 : decode cX8_next 80 = .ok (.goto 11, 3) := by decide +kernel
theorem dX8_next_83 : decode cX8_next 83 = .ok (.iload 6, 2) := by decide +kernel
theorem dX8_next_85 : decode cX8_next 85 = .ok (.istore 4, 2) := by decide +kernel
theorem dX8_next_87 : decode cX8_next 87 = .ok (.iload 7, 2) := by decide +kernel
theorem dX8_next_89 : decode cX8_next 89 = .ok (.istore 5, 2) := by decide +kernel
theorem dX8_next_91 : decode cX8_next 91 = .ok (.iinc 6 10, 3) := by decide +kernel
theorem dX8_next_94 : decode cX8_next 94 = .ok (.goto (-56), 3) := by decide +kernel
theorem dX8_next_97 : decode cX8_next 97 = .ok (.iload 4, 2) := by decide +kernel
theorem dX8_next_99 : decode cX8_next 99 = .ok (.ireturn, 1) := by decide +kernel
theorem dX8_wrongTones_0 : decode cX8_wrongTones 0 = .ok (.aload_n 0, 1) := by decide +kernel
theorem dX8_wrongTones_1 : decode cX8_wrongTones 1 = .ok (.iload_n 1, 1) := by decide +kernel
theorem dX8_wrongTones_2 : decode cX8_wrongTones 2 = .ok (.iconst (-1), 1) := by decide +kernel
theorem dX8_wrongTones_3 : decode cX8_wrongTones 3 = .ok (.invokevirtual 114, 3) := by decide +kernel
theorem dX8_wrongTones_6 : decode cX8_wrongTones 6 = .ok (.istore_n 3, 1) := by decide +kernel
theorem dX8_wrongTones_7 : decode cX8_wrongTones 7 = .ok (.iload_n 3, 1) := by decide +kernel
theorem dX8_wrongTones_8 : decode cX8_wrongTones 8 = .ok (.ifCond .eq 5, 3) := by decide +kernel
theorem dX8_wrongTones_11 : decode cX8_wrongTones 11 = .ok (.iload_n 3, 1) := by decide +kernel
theorem dX8_wrongTones_12 : decode cX8_wrongTones 12 = .ok (.ireturn, 1) := by decide +kernel
theorem dX8_wrongTones_13 : decode cX8_wrongTones 13 = .ok (.aload_n 0, 1) := by decide +kernel
theorem dX8_wrongTones_14 : decode cX8_wrongTones 14 = .ok (.getfield 28, 3) := by decide +kernel
theorem dX8_wrongTones_17 : decode cX8_wrongTones 17 = .ok (.iload_n 1, 1) := by decide +kernel
theorem dX8_wrongTones_18 : decode cX8_wrongTones 18 = .ok (.iaload, 1) := by decide +kernel
theorem dX8_wrongTones_19 : decode cX8_wrongTones 19 = .ok (.iload_n 2, 1) := by decide +kernel
theorem dX8_wrongTones_20 : decode cX8_wrongTones 20 = .ok (.if_icmp .le 6, 3) := by decide +kernel
theorem dX8_wrongTones_23 : decode cX8_wrongTones 23 = .ok (.bipush (-13), 2) := by decide +kernel
theorem dX8_wrongTones_25 : decode cX8_wrongTones 25 = .ok (.ireturn, 1) := by decide +kernel
theorem dX8_wrongTones_26 : decode cX8_wrongTones 26 = .ok (.iconst 0, 1) := by decide +kernel
theorem dX8_wrongTones_27 : decode cX8_wrongTones 27 = .ok (.istore 4, 2) := by decide +kernel
theorem dX8_wrongTones_29 : decode cX8_wrongTones 29 = .ok (.iload 4, 2) := by decide +kernel
theorem dX8_wrongTones_31 : decode cX8_wrongTones 31 = .ok (.aload_n 0, 1) := by decide +kernel
theorem dX8_wrongTones_32 : decode cX8_wrongTones 32 = .ok (.getfield 28, 3) := by decide +kernel
theorem dX8_wrongTones_35 : decode cX8_wrongTones 35 = .ok (.iload_n 1, 1) := by decide +kernel
theorem dX8_wrongTones_36 : decode cX8_wrongTones 36 = .ok (.iaload, 1) := by decide +kernel
theorem dX8_wrongTones_37 : decode cX8_wrongTones 37 = .ok (.if_icmp .ge 30, 3) := by decide +kernel
theorem dX8_wrongTones_40 : decode cX8_wrongTones 40 = .ok (.aload_n 0, 1) := by decide +kernel
theorem dX8_wrongTones_41 : decode cX8_wrongTones 41 = .ok (.getfield 31, 3) := by decide +kernel
theorem dX8_wrongTones_44 : decode cX8_wrongTones 44 = .ok (.bipush 100, 2) := by decide +kernel
theorem dX8_wrongTones_46 : decode cX8_wrongTones 46 = .ok (.iload_n 1, 1) := by decide +kernel
theorem dX8_wrongTones_47 : decode cX8_wrongTones 47 = .ok (.imul, 1) := by decide +kernel
theorem dX8_wrongTones_48 : decode cX8_wrongTones 48 = .ok (.iload 4, 2) := by decide +kernel
theorem dX8_wrongTones_50 : decode cX8_wrongTones 50 = .ok (.iadd, 1) := by decide +kernel
theorem dX8_wrongTones_51 : decode cX8_wrongTones 51 = .ok (.iaload, 1) := by decide +kernel
theorem dX8_wrongTones_52 : decode cX8_wrongTones 52 = .ok (.invokestatic 177, 3) := by decide +kernel
theorem dX8_wrongTones_55 : decode cX8_wrongTones 55 = .ok (.ifCond .ne 6, 3) := by decide +kernel
theorem dX8_wrongTones_58 : decode cX8_wrongTones 58 = .ok (.bipush (-13), 2) := by decide +kernel
theorem dX8_wrongTones_60 : decode cX8_wrongTones 60 = .ok (.ireturn, 1) := by decide +kernel
theorem dX8_wrongTones_61 : decode cX8_wrongTones 61 = .ok (.iinc 4 1, 3) := by decide +kernel
theorem dX8_wrongTones_64 : decode cX8_wrongTones 64 = .ok (.goto (-35), 3) := by decide +kernel
theorem dX8_wrongTones_67 : decode cX8_wrongTones 67 = .ok (.iconst 0, 1) := by decide +kernel
theorem dX8_wrongTones_68 : decode cX8_wrongTones 68 = .ok (.ireturn, 1) := by decide +kernel
theorem dX8_hears_0 : decode cX8_hears 0 = .ok (.iconst 0, 1) := by decide +kernel
theorem dX8_hears_1 : decode cX8_hears 1 = .ok (.istore_n 3, 1) := by decide +kernel
theorem dX8_hears_2 : decode cX8_hears 2 = .ok (.iload_n 3, 1) := by decide +kernel
theorem dX8_hears_3 : decode cX8_hears 3 = .ok (.aload_n 0, 1) := by decide +kernel
theorem dX8_hears_4 : decode cX8_hears 4 = .ok (.getfield 28, 3) := by decide +kernel
theorem dX8_hears_7 : decode cX8_hears 7 = .ok (.iload_n 1, 1) := by decide +kernel
theorem dX8_hears_8 : decode cX8_hears 8 = .ok (.iaload, 1) := by decide +kernel
theorem dX8_hears_9 : decode cX8_hears 9 = .ok (.if_icmp .ge 31, 3) := by decide +kernel
theorem dX8_hears_12 : decode cX8_hears 12 = .ok (.aload_n 0, 1) := by decide +kernel
theorem dX8_hears_13 : decode cX8_hears 13 = .ok (.getfield 46, 3) := by decide +kernel
theorem dX8_hears_16 : decode cX8_hears 16 = .ok (.iload_n 3, 1) := by decide +kernel
theorem dX8_hears_17 : decode cX8_hears 17 = .ok (.aload_n 0, 1) := by decide +kernel
theorem dX8_hears_18 : decode cX8_hears 18 = .ok (.aload_n 0, 1) := by decide +kernel
theorem dX8_hears_19 : decode cX8_hears 19 = .ok (.getfield 31, 3) := by decide +kernel
theorem dX8_hears_22 : decode cX8_hears 22 = .ok (.bipush 100, 2) := by decide +kernel
theorem dX8_hears_24 : decode cX8_hears 24 = .ok (.iload_n 1, 1) := by decide +kernel
theorem dX8_hears_25 : decode cX8_hears 25 = .ok (.imul, 1) := by decide +kernel
theorem dX8_hears_26 : decode cX8_hears 26 = .ok (.iload_n 3, 1) := by decide +kernel
theorem dX8_hears_27 : decode cX8_hears 27 = .ok (.iadd, 1) := by decide +kernel
theorem dX8_hears_28 : decode cX8_hears 28 = .ok (.iaload, 1) := by decide +kernel
theorem dX8_hears_29 : decode cX8_hears 29 = .ok (.iload_n 2, 1) := by decide +kernel
theorem dX8_hears_30 : decode cX8_hears 30 = .ok (.invokevirtual 201, 3) := by decide +kernel
theorem dX8_hears_33 : decode cX8_hears 33 = .ok (.iastore, 1) := by decide +kernel
theorem dX8_hears_34 : decode cX8_hears 34 = .ok (.iinc 3 1, 3) := by decide +kernel
theorem dX8_hears_37 : decode cX8_hears 37 = .ok (.goto (-35), 3) := by decide +kernel
theorem dX8_hears_40 : decode cX8_hears 40 = .ok (.return_, 1) := by decide +kernel
theorem dX8_bits_0 : decode cX8_bits 0 = .ok (.iconst 0, 1) := by decide +kernel
theorem dX8_bits_1 : decode cX8_bits 1 = .ok (.istore_n 1, 1) := by decide +kernel
theorem dX8_bits_2 : decode cX8_bits 2 = .ok (.iload_n 0, 1) := by decide +kernel
theorem dX8_bits_3 : decode cX8_bits 3 = .ok (.istore_n 2, 1) := by decide +kernel
theorem dX8_bits_4 : decode cX8_bits 4 = .ok (.iload_n 2, 1) := by decide +kernel
theorem dX8_bits_5 : decode cX8_bits 5 = .ok (.ifCond .eq 15, 3) := by decide +kernel
theorem dX8_bits_8 : decode cX8_bits 8 = .ok (.iinc 1 1, 3) := by decide +kernel
theorem dX8_bits_11 : decode cX8_bits 11 = .ok (.iload_n 2, 1) := by decide +kernel
theorem dX8_bits_12 : decode cX8_bits 12 = .ok (.iload_n 2, 1) := by decide +kernel
theorem dX8_bits_13 : decode cX8_bits 13 = .ok (.iconst 1, 1) := by decide +kernel
theorem dX8_bits_14 : decode cX8_bits 14 = .ok (.isub, 1) := by decide +kernel
theorem dX8_bits_15 : decode cX8_bits 15 = .ok (.iand, 1) := by decide +kernel
theorem dX8_bits_16 : decode cX8_bits 16 = .ok (.istore_n 2, 1) := by decide +kernel
theorem dX8_bits_17 : decode cX8_bits 17 = .ok (.goto (-13), 3) := by decide +kernel
theorem dX8_bits_20 : decode cX8_bits 20 = .ok (.iload_n 1, 1) := by decide +kernel
theorem dX8_bits_21 : decode cX8_bits 21 = .ok (.ireturn, 1) := by decide +kernel
theorem dX8_worstOf_0 : decode cX8_worstOf 0 = .ok (.iload_n 1, 1) := by decide +kernel
theorem dX8_worstOf_1 : decode cX8_worstOf 1 = .ok (.invokestatic 229, 3) := by decide +kernel
theorem dX8_worstOf_4 : decode cX8_worstOf 4 = .ok (.iconst 2, 1) := by decide +kernel
theorem dX8_worstOf_5 : decode cX8_worstOf 5 = .ok (.if_icmp .ge 5, 3) := by decide +kernel
theorem dX8_worstOf_8 : decode cX8_worstOf 8 = .ok (.iconst 0, 1) := by decide +kernel
theorem dX8_worstOf_9 : decode cX8_worstOf 9 = .ok (.ireturn, 1) := by decide +kernel
theorem dX8_worstOf_10 : decode cX8_worstOf 10 = .ok (.bipush (-4), 2) := by decide +kernel
theorem dX8_worstOf_12 : decode cX8_worstOf 12 = .ok (.istore_n 3, 1) := by decide +kernel
theorem dX8_worstOf_13 : decode cX8_worstOf 13 = .ok (.iconst 0, 1) := by decide +kernel
theorem dX8_worstOf_14 : decode cX8_worstOf 14 = .ok (.istore 4, 2) := by decide +kernel
theorem dX8_worstOf_16 : decode cX8_worstOf 16 = .ok (.iload 4, 2) := by decide +kernel
theorem dX8_worstOf_18 : decode cX8_worstOf 18 = .ok (.iload_n 2, 1) := by decide +kernel
theorem dX8_worstOf_19 : decode cX8_worstOf 19 = .ok (.if_icmp .ge 91, 3) := by decide +kernel
theorem dX8_worstOf_22 : decode cX8_worstOf 22 = .ok (.iload_n 1, 1) := by decide +kernel
theorem dX8_worstOf_23 : decode cX8_worstOf 23 = .ok (.aload_n 0, 1) := by decide +kernel
theorem dX8_worstOf_24 : decode cX8_worstOf 24 = .ok (.getfield 46, 3) := by decide +kernel
theorem dX8_worstOf_27 : decode cX8_worstOf 27 = .ok (.iload 4, 2) := by decide +kernel
theorem dX8_worstOf_29 : decode cX8_worstOf 29 = .ok (.iaload, 1) := by decide +kernel
theorem dX8_worstOf_30 : decode cX8_worstOf 30 = .ok (.iand, 1) := by decide +kernel
theorem dX8_worstOf_31 : decode cX8_worstOf 31 = .ok (.istore 5, 2) := by decide +kernel
theorem dX8_worstOf_33 : decode cX8_worstOf 33 = .ok (.iload 5, 2) := by decide +kernel
theorem dX8_worstOf_35 : decode cX8_worstOf 35 = .ok (.ifCond .eq 69, 3) := by decide +kernel
theorem dX8_worstOf_38 : decode cX8_worstOf 38 = .ok (.iload 5, 2) := by decide +kernel
theorem dX8_worstOf_40 : decode cX8_worstOf 40 = .ok (.iload_n 1, 1) := by decide +kernel
theorem dX8_worstOf_41 : decode cX8_worstOf 41 = .ok (.if_icmp .ne 6, 3) := by decide +kernel
theorem dX8_worstOf_44 : decode cX8_worstOf 44 = .ok (.goto 60, 3) := by decide +kernel
theorem dX8_worstOf_47 : decode cX8_worstOf 47 = .ok (.aload_n 0, 1) := by decide +kernel
theorem dX8_worstOf_48 : decode cX8_worstOf 48 = .ok (.iload 5, 2) := by decide +kernel
theorem dX8_worstOf_50 : decode cX8_worstOf 50 = .ok (.iload_n 2, 1) := by decide +kernel
theorem dX8_worstOf_51 : decode cX8_worstOf 51 = .ok (.invokevirtual 232, 3) := by decide +kernel
theorem dX8_worstOf_54 : decode cX8_worstOf 54 = .ok (.istore 6, 2) := by decide +kernel
theorem dX8_worstOf_56 : decode cX8_worstOf 56 = .ok (.aload_n 0, 1) := by decide +kernel
theorem dX8_worstOf_57 : decode cX8_worstOf 57 = .ok (.iload_n 1, 1) := by decide +kernel
theorem dX8_worstOf_58 : decode cX8_worstOf 58 = .ok (.iload 5, 2) := by decide +kernel
theorem dX8_worstOf_60 : decode cX8_worstOf 60 = .ok (.iconst (-1), 1) := by decide +kernel
theorem dX8_worstOf_61 : decode cX8_worstOf 61 = .ok (.ixor, 1) := by decide +kernel
theorem dX8_worstOf_62 : decode cX8_worstOf 62 = .ok (.iand, 1) := by decide +kernel
theorem dX8_worstOf_63 : decode cX8_worstOf 63 = .ok (.iload_n 2, 1) := by decide +kernel
theorem dX8_worstOf_64 : decode cX8_worstOf 64 = .ok (.invokevirtual 232, 3) := by decide +kernel
theorem dX8_worstOf_67 : decode cX8_worstOf 67 = .ok (.istore 7, 2) := by decide +kernel
theorem dX8_worstOf_69 : decode cX8_worstOf 69 = .ok (.iconst 1, 1) := by decide +kernel
theorem dX8_worstOf_70 : decode cX8_worstOf 70 = .ok (.iload 6, 2) := by decide +kernel
theorem dX8_worstOf_72 : decode cX8_worstOf 72 = .ok (.iload 7, 2) := by decide +kernel
theorem dX8_worstOf_74 : decode cX8_worstOf 74 = .ok (.if_icmp .le 8, 3) := by decide +kernel
theorem dX8_worstOf_77 : decode cX8_worstOf 77 = .ok (.iload 6, 2) := by decide +kernel
theorem dX8_worstOf_79 : decode cX8_worstOf 79 = .ok (.goto 5, 3) := by decide +kernel
theorem dX8_worstOf_82 : decode cX8_worstOf 82 = .ok (.iload 7, 2) := by decide +kernel
theorem dX8_worstOf_84 : decode cX8_worstOf 84 = .ok (.iadd, 1) := by decide +kernel
theorem dX8_worstOf_85 : decode cX8_worstOf 85 = .ok (.istore 8, 2) := by decide +kernel
theorem dX8_worstOf_87 : decode cX8_worstOf 87 = .ok (.iload_n 3, 1) := by decide +kernel
theorem dX8_worstOf_88 : decode cX8_worstOf 88 = .ok (.ifCond .lt 9, 3) := by decide +kernel
theorem dX8_worstOf_91 : decode cX8_worstOf 91 = .ok (.iload 8, 2) := by decide +kernel
theorem dX8_worstOf_93 : decode cX8_worstOf 93 = .ok (.iload_n 3, 1) := by decide +kernel
theorem dX8_worstOf_94 : decode cX8_worstOf 94 = .ok (.if_icmp .ge 8, 3) := by decide +kernel
theorem dX8_worstOf_97 : decode cX8_worstOf 97 = .ok (.iload 8, 2) := by decide +kernel
theorem dX8_worstOf_99 : decode cX8_worstOf 99 = .ok (.goto 4, 3) := by decide +kernel
theorem dX8_worstOf_102 : decode cX8_worstOf 102 = .ok (.iload_n 3, 1) := by decide +kernel
theorem dX8_worstOf_103 : decode cX8_worstOf 103 = .ok (.istore_n 3, 1) := by decide +kernel
theorem dX8_worstOf_104 : decode cX8_worstOf 104 = .ok (.iinc 4 1, 3) := by decide +kernel
theorem dX8_worstOf_107 : decode cX8_worstOf 107 = .ok (.goto (-91), 3) := by decide +kernel
theorem dX8_worstOf_110 : decode cX8_worstOf 110 = .ok (.iload_n 3, 1) := by decide +kernel
theorem dX8_worstOf_111 : decode cX8_worstOf 111 = .ok (.ifCond .ge 7, 3) := by decide +kernel
theorem dX8_worstOf_114 : decode cX8_worstOf 114 = .ok (.iconst 0, 1) := by decide +kernel
theorem dX8_worstOf_115 : decode cX8_worstOf 115 = .ok (.goto 4, 3) := by decide +kernel
theorem dX8_worstOf_118 : decode cX8_worstOf 118 = .ok (.iload_n 3, 1) := by decide +kernel
theorem dX8_worstOf_119 : decode cX8_worstOf 119 = .ok (.ireturn, 1) := by decide +kernel
theorem dX8_fewest_0 : decode cX8_fewest 0 = .ok (.iload_n 1, 1) := by decide +kernel
theorem dX8_fewest_1 : decode cX8_fewest 1 = .ok (.invokestatic 111, 3) := by decide +kernel
theorem dX8_fewest_4 : decode cX8_fewest 4 = .ok (.ifCond .eq 10, 3) := by decide +kernel
theorem dX8_fewest_7 : decode cX8_fewest 7 = .ok (.iload_n 2, 1) := by decide +kernel
theorem dX8_fewest_8 : decode cX8_fewest 8 = .ok (.invokestatic 180, 3) := by decide +kernel
theorem dX8_fewest_11 : decode cX8_fewest 11 = .ok (.ifCond .ne 5, 3) := by decide +kernel
theorem dX8_fewest_14 : decode cX8_fewest 14 = .ok (.iconst (-1), 1) := by decide +kernel
theorem dX8_fewest_15 : decode cX8_fewest 15 = .ok (.ireturn, 1) := by decide +kernel
theorem dX8_fewest_16 : decode cX8_fewest 16 = .ok (.aload_n 0, 1) := by decide +kernel
theorem dX8_fewest_17 : decode cX8_fewest 17 = .ok (.iload_n 1, 1) := by decide +kernel
theorem dX8_fewest_18 : decode cX8_fewest 18 = .ok (.bipush 6, 2) := by decide +kernel
theorem dX8_fewest_20 : decode cX8_fewest 20 = .ok (.invokevirtual 235, 3) := by decide +kernel
theorem dX8_fewest_23 : decode cX8_fewest 23 = .ok (.istore_n 3, 1) := by decide +kernel
theorem dX8_fewest_24 : decode cX8_fewest 24 = .ok (.iload_n 3, 1) := by decide +kernel
theorem dX8_fewest_25 : decode cX8_fewest 25 = .ok (.ifCond .eq 5, 3) := by decide +kernel
theorem dX8_fewest_28 : decode cX8_fewest 28 = .ok (.iload_n 3, 1) := by decide +kernel
theorem dX8_fewest_29 : decode cX8_fewest 29 = .ok (.ireturn, 1) := by decide +kernel
theorem dX8_fewest_30 : decode cX8_fewest 30 = .ok (.aload_n 0, 1) := by decide +kernel
theorem dX8_fewest_31 : decode cX8_fewest 31 = .ok (.invokevirtual 220, 3) := by decide +kernel
theorem dX8_fewest_34 : decode cX8_fewest 34 = .ok (.istore 4, 2) := by decide +kernel
theorem dX8_fewest_36 : decode cX8_fewest 36 = .ok (.iload 4, 2) := by decide +kernel
theorem dX8_fewest_38 : decode cX8_fewest 38 = .ok (.ifCond .ne 6, 3) := by decide +kernel
theorem dX8_fewest_41 : decode cX8_fewest 41 = .ok (.bipush (-4), 2) := by decide +kernel
theorem dX8_fewest_43 : decode cX8_fewest 43 = .ok (.ireturn, 1) := by decide +kernel
theorem dX8_fewest_44 : decode cX8_fewest 44 = .ok (.aload_n 0, 1) := by decide +kernel
theorem dX8_fewest_45 : decode cX8_fewest 45 = .ok (.iload_n 1, 1) := by decide +kernel
theorem dX8_fewest_46 : decode cX8_fewest 46 = .ok (.iload_n 2, 1) := by decide +kernel
theorem dX8_fewest_47 : decode cX8_fewest 47 = .ok (.invokevirtual 238, 3) := by decide +kernel
theorem dX8_fewest_50 : decode cX8_fewest 50 = .ok (.aload_n 0, 1) := by decide +kernel
theorem dX8_fewest_51 : decode cX8_fewest 51 = .ok (.iload 4, 2) := by decide +kernel
theorem dX8_fewest_53 : decode cX8_fewest 53 = .ok (.aload_n 0, 1) := by decide +kernel
theorem dX8_fewest_54 : decode cX8_fewest 54 = .ok (.getfield 28, 3) := by decide +kernel
theorem dX8_fewest_57 : decode cX8_fewest 57 = .ok (.iload_n 1, 1) := by decide +kernel
theorem dX8_fewest_58 : decode cX8_fewest 58 = .ok (.iaload, 1) := by decide +kernel
theorem dX8_fewest_59 : decode cX8_fewest 59 = .ok (.invokevirtual 232, 3) := by decide +kernel
theorem dX8_fewest_62 : decode cX8_fewest 62 = .ok (.ireturn, 1) := by decide +kernel
theorem dX8_shiftOf_0 : decode cX8_shiftOf 0 = .ok (.aload_n 0, 1) := by decide +kernel
theorem dX8_shiftOf_1 : decode cX8_shiftOf 1 = .ok (.iload_n 1, 1) := by decide +kernel
theorem dX8_shiftOf_2 : decode cX8_shiftOf 2 = .ok (.invokevirtual 133, 3) := by decide +kernel
theorem dX8_shiftOf_5 : decode cX8_shiftOf 5 = .ok (.aload_n 0, 1) := by decide +kernel
theorem dX8_shiftOf_6 : decode cX8_shiftOf 6 = .ok (.iload_n 1, 1) := by decide +kernel
theorem dX8_shiftOf_7 : decode cX8_shiftOf 7 = .ok (.aload_n 0, 1) := by decide +kernel
theorem dX8_shiftOf_8 : decode cX8_shiftOf 8 = .ok (.iload_n 1, 1) := by decide +kernel
theorem dX8_shiftOf_9 : decode cX8_shiftOf 9 = .ok (.iconst 5, 1) := by decide +kernel
theorem dX8_shiftOf_10 : decode cX8_shiftOf 10 = .ok (.invokevirtual 124, 3) := by decide +kernel
theorem dX8_shiftOf_13 : decode cX8_shiftOf 13 = .ok (.iload_n 2, 1) := by decide +kernel
theorem dX8_shiftOf_14 : decode cX8_shiftOf 14 = .ok (.iadd, 1) := by decide +kernel
theorem dX8_shiftOf_15 : decode cX8_shiftOf 15 = .ok (.invokevirtual 127, 3) := by decide +kernel
theorem dX8_shiftOf_18 : decode cX8_shiftOf 18 = .ok (.isub, 1) := by decide +kernel
theorem dX8_shiftOf_19 : decode cX8_shiftOf 19 = .ok (.ireturn, 1) := by decide +kernel
theorem dX8_shift_0 : decode cX8_shift 0 = .ok (.aload_n 0, 1) := by decide +kernel
theorem dX8_shift_1 : decode cX8_shift 1 = .ok (.iload_n 1, 1) := by decide +kernel
theorem dX8_shift_2 : decode cX8_shift 2 = .ok (.invokevirtual 130, 3) := by decide +kernel
theorem dX8_shift_5 : decode cX8_shift 5 = .ok (.ifCond .eq 15, 3) := by decide +kernel
theorem dX8_shift_8 : decode cX8_shift 8 = .ok (.iload_n 2, 1) := by decide +kernel
theorem dX8_shift_9 : decode cX8_shift 9 = .ok (.i2l, 1) := by decide +kernel
theorem dX8_shift_10 : decode cX8_shift 10 = .ok (.lconst 0, 1) := by decide +kernel
theorem dX8_shift_11 : decode cX8_shift 11 = .ok (.ldc2_w 151, 3) := by decide +kernel
theorem dX8_shift_14 : decode cX8_shift 14 = .ok (.invokestatic 53, 3) := by decide +kernel
theorem dX8_shift_17 : decode cX8_shift 17 = .ok (.ifCond .ne 7, 3) := by decide +kernel
theorem dX8_shift_20 : decode cX8_shift 20 = .ok (.iconst (-1), 1) := by decide +kernel
theorem dX8_shift_21 : decode cX8_shift 21 = .ok (.goto 27, 3) := by decide +kernel
theorem dX8_shift_24 : decode cX8_shift 24 = .ok (.aload_n 0, 1) := by decide +kernel
theorem dX8_shift_25 : decode cX8_shift 25 = .ok (.iload_n 1, 1) := by decide +kernel
theorem dX8_shift_26 : decode cX8_shift 26 = .ok (.iconst 5, 1) := by decide +kernel
theorem dX8_shift_27 : decode cX8_shift 27 = .ok (.invokevirtual 124, 3) := by decide +kernel
theorem dX8_shift_30 : decode cX8_shift 30 = .ok (.iload_n 2, 1) := by decide +kernel
theorem dX8_shift_31 : decode cX8_shift 31 = .ok (.iadd, 1) := by decide +kernel
theorem dX8_shift_32 : decode cX8_shift 32 = .ok (.bipush 20, 2) := by decide +kernel
theorem dX8_shift_34 : decode cX8_shift 34 = .ok (.if_icmp .le 8, 3) := by decide +kernel
theorem dX8_shift_37 : decode cX8_shift 37 = .ok (.bipush (-3), 2) := by decide +kernel
theorem dX8_shift_39 : decode cX8_shift 39 = .ok (.goto 9, 3) := by decide +kernel
theorem dX8_shift_42 : decode cX8_shift 42 = .ok (.aload_n 0, 1) := by decide +kernel
theorem dX8_shift_43 : decode cX8_shift 43 = .ok (.iload_n 1, 1) := by decide +kernel
theorem dX8_shift_44 : decode cX8_shift 44 = .ok (.iload_n 2, 1) := by decide +kernel
theorem dX8_shift_45 : decode cX8_shift 45 = .ok (.invokevirtual 242, 3) := by decide +kernel
theorem dX8_shift_48 : decode cX8_shift 48 = .ok (.ireturn, 1) := by decide +kernel
theorem dX8_lives_0 : decode cX8_lives 0 = .ok (.iload_n 1, 1) := by decide +kernel
theorem dX8_lives_1 : decode cX8_lives 1 = .ok (.i2l, 1) := by decide +kernel
theorem dX8_lives_2 : decode cX8_lives 2 = .ok (.lconst 0, 1) := by decide +kernel
theorem dX8_lives_3 : decode cX8_lives 3 = .ok (.ldc2_w 151, 3) := by decide +kernel
theorem dX8_lives_6 : decode cX8_lives 6 = .ok (.invokestatic 53, 3) := by decide +kernel
theorem dX8_lives_9 : decode cX8_lives 9 = .ok (.ifCond .eq 15, 3) := by decide +kernel
theorem dX8_lives_12 : decode cX8_lives 12 = .ok (.iload_n 3, 1) := by decide +kernel
theorem dX8_lives_13 : decode cX8_lives 13 = .ok (.i2l, 1) := by decide +kernel
theorem dX8_lives_14 : decode cX8_lives 14 = .ok (.lconst 0, 1) := by decide +kernel
theorem dX8_lives_15 : decode cX8_lives 15 = .ok (.ldc2_w 61, 3) := by decide +kernel
theorem dX8_lives_18 : decode cX8_lives 18 = .ok (.invokestatic 53, 3) := by decide +kernel
theorem dX8_lives_21 : decode cX8_lives 21 = .ok (.ifCond .ne 5, 3) := by decide +kernel
theorem dX8_lives_24 : decode cX8_lives 24 = .ok (.iconst (-1), 1) := by decide +kernel
theorem dX8_lives_25 : decode cX8_lives 25 = .ok (.ireturn, 1) := by decide +kernel
theorem dX8_lives_26 : decode cX8_lives 26 = .ok (.iconst 0, 1) := by decide +kernel
theorem dX8_lives_27 : decode cX8_lives 27 = .ok (.istore 4, 2) := by decide +kernel
theorem dX8_lives_29 : decode cX8_lives 29 = .ok (.iconst 0, 1) := by decide +kernel
theorem dX8_lives_30 : decode cX8_lives 30 = .ok (.istore 5, 2) := by decide +kernel
theorem dX8_lives_32 : decode cX8_lives 32 = .ok (.iload 5, 2) := by decide +kernel
theorem dX8_lives_34 : decode cX8_lives 34 = .ok (.aload_n 0, 1) := by decide +kernel
theorem dX8_lives_35 : decode cX8_lives 35 = .ok (.getfield 9, 3) := by decide +kernel
theorem dX8_lives_38 : decode cX8_lives 38 = .ok (.iconst 0, 1) := by decide +kernel
theorem dX8_lives_39 : decode cX8_lives 39 = .ok (.iaload, 1) := by decide +kernel
theorem dX8_lives_40 : decode cX8_lives 40 = .ok (.if_icmp .ge 69, 3) := by decide +kernel
theorem dX8_lives_43 : decode cX8_lives 43 = .ok (.aload_n 0, 1) := by decide +kernel
theorem dX8_lives_44 : decode cX8_lives 44 = .ok (.iload 5, 2) := by decide +kernel
theorem dX8_lives_46 : decode cX8_lives 46 = .ok (.iconst 5, 1) := by decide +kernel
theorem dX8_lives_47 : decode cX8_lives 47 = .ok (.invokevirtual 124, 3) := by decide +kernel
theorem dX8_lives_50 : decode cX8_lives 50 = .ok (.iload_n 1, 1) := by decide +kernel
theorem dX8_lives_51 : decode cX8_lives 51 = .ok (.iadd, 1) := by decide +kernel
theorem dX8_lives_52 : decode cX8_lives 52 = .ok (.bipush 20, 2) := by decide +kernel
theorem dX8_lives_54 : decode cX8_lives 54 = .ok (.if_icmp .le 6, 3) := by decide +kernel
theorem dX8_lives_57 : decode cX8_lives 57 = .ok (.goto 46, 3) := by decide +kernel
theorem dX8_lives_60 : decode cX8_lives 60 = .ok (.aload_n 0, 1) := by decide +kernel
theorem dX8_lives_61 : decode cX8_lives 61 = .ok (.iload 5, 2) := by decide +kernel
theorem dX8_lives_63 : decode cX8_lives 63 = .ok (.iload_n 1, 1) := by decide +kernel
theorem dX8_lives_64 : decode cX8_lives 64 = .ok (.invokevirtual 242, 3) := by decide +kernel
theorem dX8_lives_67 : decode cX8_lives 67 = .ok (.i2l, 1) := by decide +kernel
theorem dX8_lives_68 : decode cX8_lives 68 = .ok (.iload_n 2, 1) := by decide +kernel
theorem dX8_lives_69 : decode cX8_lives 69 = .ok (.i2l, 1) := by decide +kernel
theorem dX8_lives_70 : decode cX8_lives 70 = .ok (.lsub, 1) := by decide +kernel
theorem dX8_lives_71 : decode cX8_lives 71 = .ok (.lstore 6, 2) := by decide +kernel
theorem dX8_lives_73 : decode cX8_lives 73 = .ok (.iload 4, 2) := by decide +kernel
theorem dX8_lives_75 : decode cX8_lives 75 = .ok (.lload 6, 2) := by decide +kernel
theorem dX8_lives_77 : decode cX8_lives 77 = .ok (.iload_n 3, 1) := by decide +kernel
theorem dX8_lives_78 : decode cX8_lives 78 = .ok (.i2l, 1) := by decide +kernel
theorem dX8_lives_79 : decode cX8_lives 79 = .ok (.lcmp, 1) := by decide +kernel
theorem dX8_lives_80 : decode cX8_lives 80 = .ok (.ifCond .gt 19, 3) := by decide +kernel
theorem dX8_lives_83 : decode cX8_lives 83 = .ok (.lload 6, 2) := by decide +kernel
theorem dX8_lives_85 : decode cX8_lives 85 = .ok (.iload_n 3, 1) := by decide +kernel
theorem dX8_lives_86 : decode cX8_lives 86 = .ok (.ineg, 1) := by decide +kernel
theorem dX8_lives_87 : decode cX8_lives 87 = .ok (.i2l, 1) := by decide +kernel
theorem dX8_lives_88 : decode cX8_lives 88 = .ok (.lcmp, 1) := by decide +kernel
theorem dX8_lives_89 : decode cX8_lives 89 = .ok (.ifCond .lt 10, 3) := by decide +kernel
theorem dX8_lives_92 : decode cX8_lives 92 = .ok (.iconst 1, 1) := by decide +kernel
theorem dX8_lives_93 : decode cX8_lives 93 = .ok (.iload 5, 2) := by decide +kernel
theorem dX8_lives_95 : decode cX8_lives 95 = .ok (.ishl, 1) := by decide +kernel
theorem dX8_lives_96 : decode cX8_lives 96 = .ok (.goto 4, 3) := by decide +kernel
theorem dX8_lives_99 : decode cX8_lives 99 = .ok (.iconst 0, 1) := by decide +kernel
theorem dX8_lives_100 : decode cX8_lives 100 = .ok (.ior, 1) := by decide +kernel
theorem dX8_lives_101 : decode cX8_lives 101 = .ok (.istore 4, 2) := by decide +kernel
theorem dX8_lives_103 : decode cX8_lives 103 = .ok (.iinc 5 1, 3) := by decide +kernel
theorem dX8_lives_106 : decode cX8_lives 106 = .ok (.goto (-74), 3) := by decide +kernel
theorem dX8_lives_109 : decode cX8_lives 109 = .ok (.iload 4, 2) := by decide +kernel
theorem dX8_lives_111 : decode cX8_lives 111 = .ok (.ireturn, 1) := by decide +kernel
theorem dX8_seamOrCrack_0 : decode cX8_seamOrCrack 0 = .ok (.aload_n 0, 1) := by decide +kernel
theorem dX8_seamOrCrack_1 : decode cX8_seamOrCrack 1 = .ok (.iload_n 1, 1) := by decide +kernel
theorem dX8_seamOrCrack_2 : decode cX8_seamOrCrack 2 = .ok (.invokevirtual 143, 3) := by decide +kernel
theorem dX8_seamOrCrack_5 : decode cX8_seamOrCrack 5 = .ok (.ifCond .eq 38, 3) := by decide +kernel
theorem dX8_seamOrCrack_8 : decode cX8_seamOrCrack 8 = .ok (.aload_n 0, 1) := by decide +kernel
theorem dX8_seamOrCrack_9 : decode cX8_seamOrCrack 9 = .ok (.iload_n 2, 1) := by decide +kernel
theorem dX8_seamOrCrack_10 : decode cX8_seamOrCrack 10 = .ok (.invokevirtual 143, 3) := by decide +kernel
theorem dX8_seamOrCrack_13 : decode cX8_seamOrCrack 13 = .ok (.ifCond .eq 30, 3) := by decide +kernel
theorem dX8_seamOrCrack_16 : decode cX8_seamOrCrack 16 = .ok (.iload_n 1, 1) := by decide +kernel
theorem dX8_seamOrCrack_17 : decode cX8_seamOrCrack 17 = .ok (.iload_n 2, 1) := by decide +kernel
theorem dX8_seamOrCrack_18 : decode cX8_seamOrCrack 18 = .ok (.if_icmp .eq 25, 3) := by decide +kernel
theorem dX8_seamOrCrack_21 : decode cX8_seamOrCrack 21 = .ok (.aload_n 0, 1) := by decide +kernel
theorem dX8_seamOrCrack_22 : decode cX8_seamOrCrack 22 = .ok (.iload_n 1, 1) := by decide +kernel
theorem dX8_seamOrCrack_23 : decode cX8_seamOrCrack 23 = .ok (.iconst 1, 1) := by decide +kernel
theorem dX8_seamOrCrack_24 : decode cX8_seamOrCrack 24 = .ok (.invokevirtual 140, 3) := by decide +kernel
theorem dX8_seamOrCrack_27 : decode cX8_seamOrCrack 27 = .ok (.aload_n 0, 1) := by decide +kernel
theorem dX8_seamOrCrack_28 : decode cX8_seamOrCrack 28 = .ok (.iload_n 2, 1) := by decide +kernel
theorem dX8_seamOrCrack_29 : decode cX8_seamOrCrack 29 = .ok (.iconst 1, 1) := by decide +kernel
theorem dX8_seamOrCrack_30 : decode cX8_seamOrCrack 30 = .ok (.invokevirtual 140, 3) := by decide +kernel
theorem dX8_seamOrCrack_33 : decode cX8_seamOrCrack 33 = .ok (.if_icmp .ne 10, 3) := by decide +kernel
theorem dX8_seamOrCrack_36 : decode cX8_seamOrCrack 36 = .ok (.iload_n 3, 1) := by decide +kernel
theorem dX8_seamOrCrack_37 : decode cX8_seamOrCrack 37 = .ok (.invokestatic 177, 3) := by decide +kernel
theorem dX8_seamOrCrack_40 : decode cX8_seamOrCrack 40 = .ok (.ifCond .ne 5, 3) := by decide +kernel
theorem dX8_seamOrCrack_43 : decode cX8_seamOrCrack 43 = .ok (.iconst (-1), 1) := by decide +kernel
theorem dX8_seamOrCrack_44 : decode cX8_seamOrCrack 44 = .ok (.ireturn, 1) := by decide +kernel
theorem dX8_seamOrCrack_45 : decode cX8_seamOrCrack 45 = .ok (.iconst 1, 1) := by decide +kernel
theorem dX8_seamOrCrack_46 : decode cX8_seamOrCrack 46 = .ok (.istore 4, 2) := by decide +kernel
theorem dX8_seamOrCrack_48 : decode cX8_seamOrCrack 48 = .ok (.iload 4, 2) := by decide +kernel
theorem dX8_seamOrCrack_50 : decode cX8_seamOrCrack 50 = .ok (.bipush 99, 2) := by decide +kernel
theorem dX8_seamOrCrack_52 : decode cX8_seamOrCrack 52 = .ok (.if_icmp .gt 31, 3) := by decide +kernel
theorem dX8_seamOrCrack_55 : decode cX8_seamOrCrack 55 = .ok (.aload_n 0, 1) := by decide +kernel
theorem dX8_seamOrCrack_56 : decode cX8_seamOrCrack 56 = .ok (.iload_n 1, 1) := by decide +kernel
theorem dX8_seamOrCrack_57 : decode cX8_seamOrCrack 57 = .ok (.iload_n 3, 1) := by decide +kernel
theorem dX8_seamOrCrack_58 : decode cX8_seamOrCrack 58 = .ok (.iload 4, 2) := by decide +kernel
theorem dX8_seamOrCrack_60 : decode cX8_seamOrCrack 60 = .ok (.invokevirtual 197, 3) := by decide +kernel
theorem dX8_seamOrCrack_63 : decode cX8_seamOrCrack 63 = .ok (.aload_n 0, 1) := by decide +kernel
theorem dX8_seamOrCrack_64 : decode cX8_seamOrCrack 64 = .ok (.iload_n 2, 1) := by decide +kernel
theorem dX8_seamOrCrack_65 : decode cX8_seamOrCrack 65 = .ok (.iload_n 3, 1) := by decide +kernel
theorem dX8_seamOrCrack_66 : decode cX8_seamOrCrack 66 = .ok (.iload 4, 2) := by decide +kernel
theorem dX8_seamOrCrack_68 : decode cX8_seamOrCrack 68 = .ok (.invokevirtual 197, 3) := by decide +kernel
theorem dX8_seamOrCrack_71 : decode cX8_seamOrCrack 71 = .ok (.if_icmp .eq 6, 3) := by decide +kernel
theorem dX8_seamOrCrack_74 : decode cX8_seamOrCrack 74 = .ok (.iload 4, 2) := by decide +kernel
theorem dX8_seamOrCrack_76 : decode cX8_seamOrCrack 76 = .ok (.ireturn, 1) := by decide +kernel
theorem dX8_seamOrCrack_77 : decode cX8_seamOrCrack 77 = .ok (.iinc 4 1, 3) := by decide +kernel
theorem dX8_seamOrCrack_80 : decode cX8_seamOrCrack 80 = .ok (.goto (-32), 3) := by decide +kernel
theorem dX8_seamOrCrack_83 : decode cX8_seamOrCrack 83 = .ok (.bipush (-4), 2) := by decide +kernel
theorem dX8_seamOrCrack_85 : decode cX8_seamOrCrack 85 = .ok (.ireturn, 1) := by decide +kernel
theorem dX8_length_0 : decode cX8_length 0 = .ok (.aload_n 0, 1) := by decide +kernel
theorem dX8_length_1 : decode cX8_length 1 = .ok (.iload_n 1, 1) := by decide +kernel
theorem dX8_length_2 : decode cX8_length 2 = .ok (.invokevirtual 143, 3) := by decide +kernel
theorem dX8_length_5 : decode cX8_length 5 = .ok (.ifCond .eq 13, 3) := by decide +kernel
theorem dX8_length_8 : decode cX8_length 8 = .ok (.iload_n 2, 1) := by decide +kernel
theorem dX8_length_9 : decode cX8_length 9 = .ok (.i2l, 1) := by decide +kernel
theorem dX8_length_10 : decode cX8_length 10 = .ok (.lconst 0, 1) := by decide +kernel
theorem dX8_length_11 : decode cX8_length 11 = .ok (.lconst 1, 1) := by decide +kernel
theorem dX8_length_12 : decode cX8_length 12 = .ok (.invokestatic 53, 3) := by decide +kernel
theorem dX8_length_15 : decode cX8_length 15 = .ok (.ifCond .ne 5, 3) := by decide +kernel
theorem dX8_length_18 : decode cX8_length 18 = .ok (.iconst (-1), 1) := by decide +kernel
theorem dX8_length_19 : decode cX8_length 19 = .ok (.ireturn, 1) := by decide +kernel
theorem dX8_length_20 : decode cX8_length 20 = .ok (.aload_n 0, 1) := by decide +kernel
theorem dX8_length_21 : decode cX8_length 21 = .ok (.iload_n 1, 1) := by decide +kernel
theorem dX8_length_22 : decode cX8_length 22 = .ok (.iconst 2, 1) := by decide +kernel
theorem dX8_length_23 : decode cX8_length 23 = .ok (.invokevirtual 140, 3) := by decide +kernel
theorem dX8_length_26 : decode cX8_length 26 = .ok (.istore_n 3, 1) := by decide +kernel
theorem dX8_length_27 : decode cX8_length 27 = .ok (.bipush (-4), 2) := by decide +kernel
theorem dX8_length_29 : decode cX8_length 29 = .ok (.istore 4, 2) := by decide +kernel
theorem dX8_length_31 : decode cX8_length 31 = .ok (.iconst 1, 1) := by decide +kernel
theorem dX8_length_32 : decode cX8_length 32 = .ok (.istore 5, 2) := by decide +kernel
theorem dX8_length_34 : decode cX8_length 34 = .ok (.iload 5, 2) := by decide +kernel
theorem dX8_length_36 : decode cX8_length 36 = .ok (.sipush 999, 3) := by decide +kernel
theorem dX8_length_39 : decode cX8_length 39 = .ok (.if_icmp .gt 57, 3) := by decide +kernel
theorem dX8_length_42 : decode cX8_length 42 = .ok (.iload 4, 2) := by decide +kernel
theorem dX8_length_44 : decode cX8_length 44 = .ok (.ifCond .lt 8, 3) := by decide +kernel
theorem dX8_length_47 : decode cX8_length 47 = .ok (.iload_n 2, 1) := by decide +kernel
theorem dX8_length_48 : decode cX8_length 48 = .ok (.iconst 1, 1) := by decide +kernel
theorem dX8_length_49 : decode cX8_length 49 = .ok (.if_icmp .ne 47, 3) := by decide +kernel
theorem dX8_length_52 : decode cX8_length 52 = .ok (.aload_n 0, 1) := by decide +kernel
theorem dX8_length_53 : decode cX8_length 53 = .ok (.getfield 9, 3) := by decide +kernel
theorem dX8_length_56 : decode cX8_length 56 = .ok (.bipush 68, 2) := by decide +kernel
theorem dX8_length_58 : decode cX8_length 58 = .ok (.iconst 5, 1) := by decide +kernel
theorem dX8_length_59 : decode cX8_length 59 = .ok (.iload_n 1, 1) := by decide +kernel
theorem dX8_length_60 : decode cX8_length 60 = .ok (.imul, 1) := by decide +kernel
theorem dX8_length_61 : decode cX8_length 61 = .ok (.iadd, 1) := by decide +kernel
theorem dX8_length_62 : decode cX8_length 62 = .ok (.iconst 2, 1) := by decide +kernel
theorem dX8_length_63 : decode cX8_length 63 = .ok (.iadd, 1) := by decide +kernel
theorem dX8_length_64 : decode cX8_length 64 = .ok (.iload 5, 2) := by decide +kernel
theorem dX8_length_66 : decode cX8_length 66 = .ok (.iastore, 1) := by decide +kernel
theorem dX8_length_67 : decode cX8_length 67 = .ok (.aload_n 0, 1) := by decide +kernel
theorem dX8_length_68 : decode cX8_length 68 = .ok (.invokevirtual 214, 3) := by decide +kernel
theorem dX8_length_71 : decode cX8_length 71 = .ok (.aload_n 0, 1) := by decide +kernel
theorem dX8_length_72 : decode cX8_length 72 = .ok (.iconst 1, 1) := by decide +kernel
theorem dX8_length_73 : decode cX8_length 73 = .ok (.iload_n 1, 1) := by decide +kernel
theorem dX8_length_74 : decode cX8_length 74 = .ok (.ishl, 1) := by decide +kernel
theorem dX8_length_75 : decode cX8_length 75 = .ok (.invokevirtual 217, 3) := by decide +kernel
theorem dX8_length_78 : decode cX8_length 78 = .ok (.ifCond .eq 8, 3) := by decide +kernel
theorem dX8_length_81 : decode cX8_length 81 = .ok (.iload 5, 2) := by decide +kernel
theorem dX8_length_83 : decode cX8_length 83 = .ok (.goto 5, 3) := by decide +kernel
theorem dX8_length_86 : decode cX8_length 86 = .ok (.iload 4, 2) := by decide +kernel
theorem dX8_length_88 : decode cX8_length 88 = .ok (.istore 4, 2) := by decide +kernel
theorem dX8_length_90 : decode cX8_length 90 = .ok (.iinc 5 1, 3) := by decide +kernel
theorem dX8_length_93 : decode cX8_length 93 = .ok (.goto (-59), 3) := by decide +kernel
theorem dX8_length_96 : decode cX8_length 96 = .ok (.aload_n 0, 1) := by decide +kernel
theorem dX8_length_97 : decode cX8_length 97 = .ok (.getfield 9, 3) := by decide +kernel
theorem dX8_length_100 : decode cX8_length 100 = .ok (.bipush 68, 2) := by decide +kernel
theorem dX8_length_102 : decode cX8_length 102 = .ok (.iconst 5, 1) := by decide +kernel
theorem dX8_length_103 : decode cX8_length 103 = .ok (.iload_n 1, 1) := by decide +kernel
theorem dX8_length_104 : decode cX8_length 104 = .ok (.imul, 1) := by decide +kernel
theorem dX8_length_105 : decode cX8_length 105 = .ok (.iadd, 1) := by decide +kernel
theorem dX8_length_106 : decode cX8_length 106 = .ok (.iconst 2, 1) := by decide +kernel
theorem dX8_length_107 : decode cX8_length 107 = .ok (.iadd, 1) := by decide +kernel
theorem dX8_length_108 : decode cX8_length 108 = .ok (.iload_n 3, 1) := by decide +kernel
theorem dX8_length_109 : decode cX8_length 109 = .ok (.iastore, 1) := by decide +kernel
theorem dX8_length_110 : decode cX8_length 110 = .ok (.iload 4, 2) := by decide +kernel
theorem dX8_length_112 : decode cX8_length 112 = .ok (.ireturn, 1) := by decide +kernel
theorem dX8_friday_0 : decode cX8_friday 0 = .ok (.iload_n 1, 1) := by decide +kernel
theorem dX8_friday_1 : decode cX8_friday 1 = .ok (.invokestatic 111, 3) := by decide +kernel
theorem dX8_friday_4 : decode cX8_friday 4 = .ok (.ifCond .eq 20, 3) := by decide +kernel
theorem dX8_friday_7 : decode cX8_friday 7 = .ok (.iload_n 2, 1) := by decide +kernel
theorem dX8_friday_8 : decode cX8_friday 8 = .ok (.invokestatic 180, 3) := by decide +kernel
theorem dX8_friday_11 : decode cX8_friday 11 = .ok (.ifCond .eq 13, 3) := by decide +kernel
theorem dX8_friday_14 : decode cX8_friday 14 = .ok (.iload_n 3, 1) := by decide +kernel
theorem dX8_friday_15 : decode cX8_friday 15 = .ok (.i2l, 1) := by decide +kernel
theorem dX8_friday_16 : decode cX8_friday 16 = .ok (.lconst 0, 1) := by decide +kernel
theorem dX8_friday_17 : decode cX8_friday 17 = .ok (.lconst 1, 1) := by decide +kernel
theorem dX8_friday_18 : decode cX8_friday 18 = .ok (.invokestatic 53, 3) := by decide +kernel
theorem dX8_friday_21 : decode cX8_friday 21 = .ok (.ifCond .ne 5, 3) := by decide +kernel
theorem dX8_friday_24 : decode cX8_friday 24 = .ok (.iconst (-1), 1) := by decide +kernel
theorem dX8_friday_25 : decode cX8_friday 25 = .ok (.ireturn, 1) := by decide +kernel
theorem dX8_friday_26 : decode cX8_friday 26 = .ok (.aload_n 0, 1) := by decide +kernel
theorem dX8_friday_27 : decode cX8_friday 27 = .ok (.iload_n 1, 1) := by decide +kernel
theorem dX8_friday_28 : decode cX8_friday 28 = .ok (.bipush 100, 2) := by decide +kernel
theorem dX8_friday_30 : decode cX8_friday 30 = .ok (.invokevirtual 235, 3) := by decide +kernel
theorem dX8_friday_33 : decode cX8_friday 33 = .ok (.istore 4, 2) := by decide +kernel
theorem dX8_friday_35 : decode cX8_friday 35 = .ok (.iload 4, 2) := by decide +kernel
theorem dX8_friday_37 : decode cX8_friday 37 = .ok (.ifCond .eq 6, 3) := by decide +kernel
theorem dX8_friday_40 : decode cX8_friday 40 = .ok (.iload 4, 2) := by decide +kernel
theorem dX8_friday_42 : decode cX8_friday 42 = .ok (.ireturn, 1) := by decide +kernel
theorem dX8_friday_43 : decode cX8_friday 43 = .ok (.iconst 0, 1) := by decide +kernel
theorem dX8_friday_44 : decode cX8_friday 44 = .ok (.istore 5, 2) := by decide +kernel
theorem dX8_friday_46 : decode cX8_friday 46 = .ok (.iconst 0, 1) := by decide +kernel
theorem dX8_friday_47 : decode cX8_friday 47 = .ok (.istore 6, 2) := by decide +kernel
theorem dX8_friday_49 : decode cX8_friday 49 = .ok (.iload 6, 2) := by decide +kernel
theorem dX8_friday_51 : decode cX8_friday 51 = .ok (.aload_n 0, 1) := by decide +kernel
theorem dX8_friday_52 : decode cX8_friday 52 = .ok (.getfield 28, 3) := by decide +kernel
theorem dX8_friday_55 : decode cX8_friday 55 = .ok (.iload_n 1, 1) := by decide +kernel
theorem dX8_friday_56 : decode cX8_friday 56 = .ok (.iaload, 1) := by decide +kernel
theorem dX8_friday_57 : decode cX8_friday 57 = .ok (.if_icmp .ge 31, 3) := by decide +kernel
theorem dX8_friday_60 : decode cX8_friday 60 = .ok (.iload 5, 2) := by decide +kernel
theorem dX8_friday_62 : decode cX8_friday 62 = .ok (.aload_n 0, 1) := by decide +kernel
theorem dX8_friday_63 : decode cX8_friday 63 = .ok (.aload_n 0, 1) := by decide +kernel
theorem dX8_friday_64 : decode cX8_friday 64 = .ok (.getfield 31, 3) := by decide +kernel
theorem dX8_friday_67 : decode cX8_friday 67 = .ok (.bipush 100, 2) := by decide +kernel
theorem dX8_friday_69 : decode cX8_friday 69 = .ok (.iload_n 1, 1) := by decide +kernel
theorem dX8_friday_70 : decode cX8_friday 70 = .ok (.imul, 1) := by decide +kernel
theorem dX8_friday_71 : decode cX8_friday 71 = .ok (.iload 6, 2) := by decide +kernel
theorem dX8_friday_73 : decode cX8_friday 73 = .ok (.iadd, 1) := by decide +kernel
theorem dX8_friday_74 : decode cX8_friday 74 = .ok (.iaload, 1) := by decide +kernel
theorem dX8_friday_75 : decode cX8_friday 75 = .ok (.iload_n 2, 1) := by decide +kernel
theorem dX8_friday_76 : decode cX8_friday 76 = .ok (.invokevirtual 201, 3) := by decide +kernel
theorem dX8_friday_79 : decode cX8_friday 79 = .ok (.ior, 1) := by decide +kernel
theorem dX8_friday_80 : decode cX8_friday 80 = .ok (.istore 5, 2) := by decide +kernel
theorem dX8_friday_82 : decode cX8_friday 82 = .ok (.iinc 6 1, 3) := by decide +kernel
theorem dX8_friday_85 : decode cX8_friday 85 = .ok (.goto (-36), 3) := by decide +kernel
theorem dX8_friday_88 : decode cX8_friday 88 = .ok (.iconst 0, 1) := by decide +kernel
theorem dX8_friday_89 : decode cX8_friday 89 = .ok (.istore 6, 2) := by decide +kernel
theorem dX8_friday_91 : decode cX8_friday 91 = .ok (.bipush (-4), 2) := by decide +kernel
theorem dX8_friday_93 : decode cX8_friday 93 = .ok (.istore 7, 2) := by decide +kernel
theorem dX8_friday_95 : decode cX8_friday 95 = .ok (.iconst 0, 1) := by decide +kernel
theorem dX8_friday_96 : decode cX8_friday 96 = .ok (.istore 8, 2) := by decide +kernel
theorem dX8_friday_98 : decode cX8_friday 98 = .ok (.iload 8, 2) := by decide +kernel
theorem dX8_friday_100 : decode cX8_friday 100 = .ok (.iconst 1, 1) := by decide +kernel
theorem dX8_friday_101 : decode cX8_friday 101 = .ok (.aload_n 0, 1) := by decide +kernel
theorem dX8_friday_102 : decode cX8_friday 102 = .ok (.getfield 9, 3) := by decide +kernel
theorem dX8_friday_105 : decode cX8_friday 105 = .ok (.iconst 1, 1) := by decide +kernel
theorem dX8_friday_106 : decode cX8_friday 106 = .ok (.iaload, 1) := by decide +kernel
theorem dX8_friday_107 : decode cX8_friday 107 = .ok (.ishl, 1) := by decide +kernel
theorem dX8_friday_108 : decode cX8_friday 108 = .ok (.if_icmp .ge 94, 3) := by decide +kernel
theorem dX8_friday_111 : decode cX8_friday 111 = .ok (.iload 5, 2) := by decide +kernel
theorem dX8_friday_113 : decode cX8_friday 113 = .ok (.iload 8, 2) := by decide +kernel
theorem dX8_friday_115 : decode cX8_friday 115 = .ok (.iconst (-1), 1) := by decide +kernel
theorem dX8_friday_116 : decode cX8_friday 116 = .ok (.ixor, 1) := by decide +kernel
theorem dX8_friday_117 : decode cX8_friday 117 = .ok (.iand, 1) := by decide +kernel
theorem dX8_friday_118 : decode cX8_friday 118 = .ok (.ifCond .eq 6, 3) := by decide +kernel
theorem dX8_friday_121 : decode cX8_friday 121 = .ok (.goto 75, 3) := by decide +kernel
theorem dX8_friday_124 : decode cX8_friday 124 = .ok (.iconst 0, 1) := by decide +kernel
theorem dX8_friday_125 : decode cX8_friday 125 = .ok (.istore 9, 2) := by decide +kernel
theorem dX8_friday_127 : decode cX8_friday 127 = .ok (.iconst 0, 1) := by decide +kernel
theorem dX8_friday_128 : decode cX8_friday 128 = .ok (.istore 10, 2) := by decide +kernel
theorem dX8_friday_130 : decode cX8_friday 130 = .ok (.iload 10, 2) := by decide +kernel
theorem dX8_friday_132 : decode cX8_friday 132 = .ok (.aload_n 0, 1) := by decide +kernel
theorem dX8_friday_133 : decode cX8_friday 133 = .ok (.getfield 9, 3) := by decide +kernel
theorem dX8_friday_136 : decode cX8_friday 136 = .ok (.iconst 1, 1) := by decide +kernel
theorem dX8_friday_137 : decode cX8_friday 137 = .ok (.iaload, 1) := by decide +kernel
theorem dX8_friday_138 : decode cX8_friday 138 = .ok (.if_icmp .ge 35, 3) := by decide +kernel
theorem dX8_friday_141 : decode cX8_friday 141 = .ok (.iload 9, 2) := by decide +kernel
theorem dX8_friday_143 : decode cX8_friday 143 = .ok (.iload 8, 2) := by decide +kernel
theorem dX8_friday_145 : decode cX8_friday 145 = .ok (.iload 10, 2) := by decide +kernel
theorem dX8_friday_147 : decode cX8_friday 147 = .ok (.ishr, 1) := by decide +kernel
theorem dX8_friday_148 : decode cX8_friday 148 = .ok (.iconst 1, 1) := by decide +kernel
theorem dX8_friday_149 : decode cX8_friday 149 = .ok (.iand, 1) := by decide +kernel
theorem dX8_friday_150 : decode cX8_friday 150 = .ok (.iconst 1, 1) := by decide +kernel
theorem dX8_friday_151 : decode cX8_friday 151 = .ok (.if_icmp .ne 12, 3) := by decide +kernel
theorem dX8_friday_154 : decode cX8_friday 154 = .ok (.aload_n 0, 1) := by decide +kernel
theorem dX8_friday_155 : decode cX8_friday 155 = .ok (.iload 10, 2) := by decide +kernel
theorem dX8_friday_157 : decode cX8_friday 157 = .ok (.invokevirtual 148, 3) := by decide +kernel
theorem dX8_friday_160 : decode cX8_friday 160 = .ok (.goto 4, 3) := by decide +kernel
theorem dX8_friday_163 : decode cX8_friday 163 = .ok (.iconst 0, 1) := by decide +kernel
theorem dX8_friday_164 : decode cX8_friday 164 = .ok (.iadd, 1) := by decide +kernel
theorem dX8_friday_165 : decode cX8_friday 165 = .ok (.istore 9, 2) := by decide +kernel
theorem dX8_friday_167 : decode cX8_friday 167 = .ok (.iinc 10 1, 3) := by decide +kernel
theorem dX8_friday_170 : decode cX8_friday 170 = .ok (.goto (-40), 3) := by decide +kernel
theorem dX8_friday_173 : decode cX8_friday 173 = .ok (.iload 7, 2) := by decide +kernel
theorem dX8_friday_175 : decode cX8_friday 175 = .ok (.ifCond .lt 13, 3) := by decide +kernel
theorem dX8_friday_178 : decode cX8_friday 178 = .ok (.iload 9, 2) := by decide +kernel
theorem dX8_friday_180 : decode cX8_friday 180 = .ok (.iload 7, 2) := by decide +kernel
theorem dX8_friday_182 : decode cX8_friday 182 = .ok (.if_icmp .lt 6, 3) := by decide +kernel
theorem dX8_friday_185 : decode cX8_friday 185 = .ok (.goto 11, 3) := by decide +kernel
theorem dX8_friday_188 : decode cX8_friday 188 = .ok (.iload 8, 2) := by decide +kernel
theorem dX8_friday_190 : decode cX8_friday 190 = .ok (.istore 6, 2) := by decide +kernel
theorem dX8_friday_192 : decode cX8_friday 192 = .ok (.iload 9, 2) := by decide +kernel
theorem dX8_friday_194 : decode cX8_friday 194 = .ok (.istore 7, 2) := by decide +kernel
theorem dX8_friday_196 : decode cX8_friday 196 = .ok (.iinc 8 1, 3) := by decide +kernel
theorem dX8_friday_199 : decode cX8_friday 199 = .ok (.goto (-101), 3) := by decide +kernel
theorem dX8_friday_202 : decode cX8_friday 202 = .ok (.iload_n 3, 1) := by decide +kernel
theorem dX8_friday_203 : decode cX8_friday 203 = .ok (.ifCond .ne 8, 3) := by decide +kernel
theorem dX8_friday_206 : decode cX8_friday 206 = .ok (.iload 7, 2) := by decide +kernel
theorem dX8_friday_208 : decode cX8_friday 208 = .ok (.goto 5, 3) := by decide +kernel
theorem dX8_friday_211 : decode cX8_friday 211 = .ok (.iload 6, 2) := by decide +kernel
theorem dX8_friday_213 : decode cX8_friday 213 = .ok (.ireturn, 1) := by decide +kernel
theorem dX8_isWolf_0 : decode cX8_isWolf 0 = .ok (.aload_n 0, 1) := by decide +kernel
theorem dX8_isWolf_1 : decode cX8_isWolf 1 = .ok (.iload_n 2, 1) := by decide +kernel
theorem dX8_isWolf_2 : decode cX8_isWolf 2 = .ok (.iconst 3, 1) := by decide +kernel
theorem dX8_isWolf_3 : decode cX8_isWolf 3 = .ok (.invokevirtual 124, 3) := by decide +kernel
theorem dX8_isWolf_6 : decode cX8_isWolf 6 = .ok (.iload_n 1, 1) := by decide +kernel
theorem dX8_isWolf_7 : decode cX8_isWolf 7 = .ok (.if_icmp .ne 26, 3) := by decide +kernel
theorem dX8_isWolf_10 : decode cX8_isWolf 10 = .ok (.aload_n 0, 1) := by decide +kernel
theorem dX8_isWolf_11 : decode cX8_isWolf 11 = .ok (.iload_n 1, 1) := by decide +kernel
theorem dX8_isWolf_12 : decode cX8_isWolf 12 = .ok (.invokevirtual 133, 3) := by decide +kernel
theorem dX8_isWolf_15 : decode cX8_isWolf 15 = .ok (.aload_n 0, 1) := by decide +kernel
theorem dX8_isWolf_16 : decode cX8_isWolf 16 = .ok (.iload_n 2, 1) := by decide +kernel
theorem dX8_isWolf_17 : decode cX8_isWolf 17 = .ok (.invokevirtual 133, 3) := by decide +kernel
theorem dX8_isWolf_20 : decode cX8_isWolf 20 = .ok (.isub, 1) := by decide +kernel
theorem dX8_isWolf_21 : decode cX8_isWolf 21 = .ok (.invokestatic 167, 3) := by decide +kernel
theorem dX8_isWolf_24 : decode cX8_isWolf 24 = .ok (.bipush 6, 2) := by decide +kernel
theorem dX8_isWolf_26 : decode cX8_isWolf 26 = .ok (.if_icmp .ge 7, 3) := by decide +kernel
theorem dX8_isWolf_29 : decode cX8_isWolf 29 = .ok (.iconst 1, 1) := by decide +kernel
theorem dX8_isWolf_30 : decode cX8_isWolf 30 = .ok (.goto 4, 3) := by decide +kernel
theorem dX8_isWolf_33 : decode cX8_isWolf 33 = .ok (.iconst 0, 1) := by decide +kernel
theorem dX8_isWolf_34 : decode cX8_isWolf 34 = .ok (.ireturn, 1) := by decide +kernel
theorem dX8_wolfOf_0 : decode cX8_wolfOf 0 = .ok (.iconst 0, 1) := by decide +kernel
theorem dX8_wolfOf_1 : decode cX8_wolfOf 1 = .ok (.istore_n 2, 1) := by decide +kernel
theorem dX8_wolfOf_2 : decode cX8_wolfOf 2 = .ok (.iconst 0, 1) := by decide +kernel
theorem dX8_wolfOf_3 : decode cX8_wolfOf 3 = .ok (.istore_n 3, 1) := by decide +kernel
theorem dX8_wolfOf_4 : decode cX8_wolfOf 4 = .ok (.iload_n 3, 1) := by decide +kernel
theorem dX8_wolfOf_5 : decode cX8_wolfOf 5 = .ok (.aload_n 0, 1) := by decide +kernel
theorem dX8_wolfOf_6 : decode cX8_wolfOf 6 = .ok (.getfield 9, 3) := by decide +kernel
theorem dX8_wolfOf_9 : decode cX8_wolfOf 9 = .ok (.iconst 0, 1) := by decide +kernel
theorem dX8_wolfOf_10 : decode cX8_wolfOf 10 = .ok (.iaload, 1) := by decide +kernel
theorem dX8_wolfOf_11 : decode cX8_wolfOf 11 = .ok (.if_icmp .ge 58, 3) := by decide +kernel
theorem dX8_wolfOf_14 : decode cX8_wolfOf 14 = .ok (.iconst 0, 1) := by decide +kernel
theorem dX8_wolfOf_15 : decode cX8_wolfOf 15 = .ok (.istore 4, 2) := by decide +kernel
theorem dX8_wolfOf_17 : decode cX8_wolfOf 17 = .ok (.iload 4, 2) := by decide +kernel
theorem dX8_wolfOf_19 : decode cX8_wolfOf 19 = .ok (.aload_n 0, 1) := by decide +kernel
theorem dX8_wolfOf_20 : decode cX8_wolfOf 20 = .ok (.getfield 9, 3) := by decide +kernel
theorem dX8_wolfOf_23 : decode cX8_wolfOf 23 = .ok (.iconst 0, 1) := by decide +kernel
theorem dX8_wolfOf_24 : decode cX8_wolfOf 24 = .ok (.iaload, 1) := by decide +kernel
theorem dX8_wolfOf_25 : decode cX8_wolfOf 25 = .ok (.if_icmp .ge 38, 3) := by decide +kernel
theorem dX8_wolfOf_28 : decode cX8_wolfOf 28 = .ok (.aload_n 0, 1) := by decide +kernel
theorem dX8_wolfOf_29 : decode cX8_wolfOf 29 = .ok (.iload_n 3, 1) := by decide +kernel
theorem dX8_wolfOf_30 : decode cX8_wolfOf 30 = .ok (.iload 4, 2) := by decide +kernel
theorem dX8_wolfOf_32 : decode cX8_wolfOf 32 = .ok (.invokevirtual 245, 3) := by decide +kernel
theorem dX8_wolfOf_35 : decode cX8_wolfOf 35 = .ok (.ifCond .ne 6, 3) := by decide +kernel
theorem dX8_wolfOf_38 : decode cX8_wolfOf 38 = .ok (.goto 19, 3) := by decide +kernel
theorem dX8_wolfOf_41 : decode cX8_wolfOf 41 = .ok (.iload_n 2, 1) := by decide +kernel
theorem dX8_wolfOf_42 : decode cX8_wolfOf 42 = .ok (.iload_n 1, 1) := by decide +kernel
theorem dX8_wolfOf_43 : decode cX8_wolfOf 43 = .ok (.if_icmp .ne 11, 3) := by decide +kernel
theorem dX8_wolfOf_46 : decode cX8_wolfOf 46 = .ok (.bipush 10, 2) := by decide +kernel
theorem dX8_wolfOf_48 : decode cX8_wolfOf 48 = .ok (.iload_n 3, 1) := by decide +kernel
theorem dX8_wolfOf_49 : decode cX8_wolfOf 49 = .ok (.imul, 1) := by decide +kernel
theorem dX8_wolfOf_50 : decode cX8_wolfOf 50 = .ok (.iload 4, 2) := by decide +kernel
theorem dX8_wolfOf_52 : decode cX8_wolfOf 52 = .ok (.iadd, 1) := by decide +kernel
theorem dX8_wolfOf_53 : decode cX8_wolfOf 53 = .ok (.ireturn, 1) := by decide +kernel
theorem dX8_wolfOf_54 : decode cX8_wolfOf 54 = .ok (.iinc 2 1, 3) := by decide +kernel
theorem dX8_wolfOf_57 : decode cX8_wolfOf 57 = .ok (.iinc 4 1, 3) := by decide +kernel
theorem dX8_wolfOf_60 : decode cX8_wolfOf 60 = .ok (.goto (-43), 3) := by decide +kernel
theorem dX8_wolfOf_63 : decode cX8_wolfOf 63 = .ok (.iinc 3 1, 3) := by decide +kernel
theorem dX8_wolfOf_66 : decode cX8_wolfOf 66 = .ok (.goto (-62), 3) := by decide +kernel
theorem dX8_wolfOf_69 : decode cX8_wolfOf 69 = .ok (.iload_n 1, 1) := by decide +kernel
theorem dX8_wolfOf_70 : decode cX8_wolfOf 70 = .ok (.ifCond .ge 7, 3) := by decide +kernel
theorem dX8_wolfOf_73 : decode cX8_wolfOf 73 = .ok (.iload_n 2, 1) := by decide +kernel
theorem dX8_wolfOf_74 : decode cX8_wolfOf 74 = .ok (.goto 5, 3) := by decide +kernel
theorem dX8_wolfOf_77 : decode cX8_wolfOf 77 = .ok (.bipush (-4), 2) := by decide +kernel
theorem dX8_wolfOf_79 : decode cX8_wolfOf 79 = .ok (.ireturn, 1) := by decide +kernel
theorem dX8_wolf_0 : decode cX8_wolf 0 = .ok (.iload_n 1, 1) := by decide +kernel
theorem dX8_wolf_1 : decode cX8_wolf 1 = .ok (.iconst (-1), 1) := by decide +kernel
theorem dX8_wolf_2 : decode cX8_wolf 2 = .ok (.if_icmp .ge 7, 3) := by decide +kernel
theorem dX8_wolf_5 : decode cX8_wolf 5 = .ok (.iconst (-1), 1) := by decide +kernel
theorem dX8_wolf_6 : decode cX8_wolf 6 = .ok (.goto 8, 3) := by decide +kernel
theorem dX8_wolf_9 : decode cX8_wolf 9 = .ok (.aload_n 0, 1) := by decide +kernel
theorem dX8_wolf_10 : decode cX8_wolf 10 = .ok (.iload_n 1, 1) := by decide +kernel
theorem dX8_wolf_11 : decode cX8_wolf 11 = .ok (.invokevirtual 248, 3) := by decide +kernel
theorem dX8_wolf_14 : decode cX8_wolf 14 = .ok (.ireturn, 1) := by decide +kernel
theorem dX8_beats_0 : decode cX8_beats 0 = .ok (.iload_n 1, 1) := by decide +kernel
theorem dX8_beats_1 : decode cX8_beats 1 = .ok (.ifCond .ge 5, 3) := by decide +kernel
theorem dX8_beats_4 : decode cX8_beats 4 = .ok (.iconst (-1), 1) := by decide +kernel
theorem dX8_beats_5 : decode cX8_beats 5 = .ok (.ireturn, 1) := by decide +kernel
theorem dX8_beats_6 : decode cX8_beats 6 = .ok (.aload_n 0, 1) := by decide +kernel
theorem dX8_beats_7 : decode cX8_beats 7 = .ok (.iload_n 1, 1) := by decide +kernel
theorem dX8_beats_8 : decode cX8_beats 8 = .ok (.invokevirtual 248, 3) := by decide +kernel
theorem dX8_beats_11 : decode cX8_beats 11 = .ok (.istore_n 2, 1) := by decide +kernel
theorem dX8_beats_12 : decode cX8_beats 12 = .ok (.iload_n 2, 1) := by decide +kernel
theorem dX8_beats_13 : decode cX8_beats 13 = .ok (.ifCond .ge 6, 3) := by decide +kernel
theorem dX8_beats_16 : decode cX8_beats 16 = .ok (.bipush (-4), 2) := by decide +kernel
theorem dX8_beats_18 : decode cX8_beats 18 = .ok (.ireturn, 1) := by decide +kernel
theorem dX8_beats_19 : decode cX8_beats 19 = .ok (.aload_n 0, 1) := by decide +kernel
theorem dX8_beats_20 : decode cX8_beats 20 = .ok (.iload_n 2, 1) := by decide +kernel
theorem dX8_beats_21 : decode cX8_beats 21 = .ok (.bipush 10, 2) := by decide +kernel
theorem dX8_beats_23 : decode cX8_beats 23 = .ok (.idiv, 1) := by decide +kernel
theorem dX8_beats_24 : decode cX8_beats 24 = .ok (.invokevirtual 133, 3) := by decide +kernel
theorem dX8_beats_27 : decode cX8_beats 27 = .ok (.aload_n 0, 1) := by decide +kernel
theorem dX8_beats_28 : decode cX8_beats 28 = .ok (.iload_n 2, 1) := by decide +kernel
theorem dX8_beats_29 : decode cX8_beats 29 = .ok (.bipush 10, 2) := by decide +kernel
theorem dX8_beats_31 : decode cX8_beats 31 = .ok (.irem, 1) := by decide +kernel
theorem dX8_beats_32 : decode cX8_beats 32 = .ok (.invokevirtual 133, 3) := by decide +kernel
theorem dX8_beats_35 : decode cX8_beats 35 = .ok (.isub, 1) := by decide +kernel
theorem dX8_beats_36 : decode cX8_beats 36 = .ok (.invokestatic 167, 3) := by decide +kernel
theorem dX8_beats_39 : decode cX8_beats 39 = .ok (.istore_n 3, 1) := by decide +kernel
theorem dX8_beats_40 : decode cX8_beats 40 = .ok (.iload_n 3, 1) := by decide +kernel
theorem dX8_beats_41 : decode cX8_beats 41 = .ok (.ifCond .ne 9, 3) := by decide +kernel
theorem dX8_beats_44 : decode cX8_beats 44 = .ok (.sipush 600, 3) := by decide +kernel
theorem dX8_beats_47 : decode cX8_beats 47 = .ok (.goto 8, 3) := by decide +kernel
theorem dX8_beats_50 : decode cX8_beats 50 = .ok (.sipush 600, 3) := by decide +kernel
theorem dX8_beats_53 : decode cX8_beats 53 = .ok (.iload_n 3, 1) := by decide +kernel
theorem dX8_beats_54 : decode cX8_beats 54 = .ok (.idiv, 1) := by decide +kernel
theorem dX8_beats_55 : decode cX8_beats 55 = .ok (.ireturn, 1) := by decide +kernel
theorem dX8_ends_0 : decode cX8_ends 0 = .ok (.iload_n 1, 1) := by decide +kernel
theorem dX8_ends_1 : decode cX8_ends 1 = .ok (.i2l, 1) := by decide +kernel
theorem dX8_ends_2 : decode cX8_ends 2 = .ok (.lconst 0, 1) := by decide +kernel
theorem dX8_ends_3 : decode cX8_ends 3 = .ok (.lconst 1, 1) := by decide +kernel
theorem dX8_ends_4 : decode cX8_ends 4 = .ok (.invokestatic 53, 3) := by decide +kernel
theorem dX8_ends_7 : decode cX8_ends 7 = .ok (.ifCond .ne 5, 3) := by decide +kernel
theorem dX8_ends_10 : decode cX8_ends 10 = .ok (.iconst (-1), 1) := by decide +kernel
theorem dX8_ends_11 : decode cX8_ends 11 = .ok (.ireturn, 1) := by decide +kernel
theorem dX8_ends_12 : decode cX8_ends 12 = .ok (.aload_n 0, 1) := by decide +kernel
theorem dX8_ends_13 : decode cX8_ends 13 = .ok (.getfield 9, 3) := by decide +kernel
theorem dX8_ends_16 : decode cX8_ends 16 = .ok (.iconst 0, 1) := by decide +kernel
theorem dX8_ends_17 : decode cX8_ends 17 = .ok (.iaload, 1) := by decide +kernel
theorem dX8_ends_18 : decode cX8_ends 18 = .ok (.ifCond .ne 6, 3) := by decide +kernel
theorem dX8_ends_21 : decode cX8_ends 21 = .ok (.bipush (-3), 2) := by decide +kernel
theorem dX8_ends_23 : decode cX8_ends 23 = .ok (.ireturn, 1) := by decide +kernel
theorem dX8_ends_24 : decode cX8_ends 24 = .ok (.iconst 0, 1) := by decide +kernel
theorem dX8_ends_25 : decode cX8_ends 25 = .ok (.istore_n 2, 1) := by decide +kernel
theorem dX8_ends_26 : decode cX8_ends 26 = .ok (.iload_n 2, 1) := by decide +kernel
theorem dX8_ends_27 : decode cX8_ends 27 = .ok (.bipush 20, 2) := by decide +kernel
theorem dX8_ends_29 : decode cX8_ends 29 = .ok (.if_icmp .gt 81, 3) := by decide +kernel
theorem dX8_ends_32 : decode cX8_ends 32 = .ok (.iconst 0, 1) := by decide +kernel
theorem dX8_ends_33 : decode cX8_ends 33 = .ok (.istore_n 3, 1) := by decide +kernel
theorem dX8_ends_34 : decode cX8_ends 34 = .ok (.iload_n 3, 1) := by decide +kernel
theorem dX8_ends_35 : decode cX8_ends 35 = .ok (.aload_n 0, 1) := by decide +kernel
theorem dX8_ends_36 : decode cX8_ends 36 = .ok (.getfield 9, 3) := by decide +kernel
theorem dX8_ends_39 : decode cX8_ends 39 = .ok (.iconst 0, 1) := by decide +kernel
theorem dX8_ends_40 : decode cX8_ends 40 = .ok (.iaload, 1) := by decide +kernel
theorem dX8_ends_41 : decode cX8_ends 41 = .ok (.if_icmp .ge 63, 3) := by decide +kernel
theorem dX8_ends_44 : decode cX8_ends 44 = .ok (.aload_n 0, 1) := by decide +kernel
theorem dX8_ends_45 : decode cX8_ends 45 = .ok (.bipush 8, 2) := by decide +kernel
theorem dX8_ends_47 : decode cX8_ends 47 = .ok (.bipush 6, 2) := by decide +kernel
theorem dX8_ends_49 : decode cX8_ends 49 = .ok (.iload_n 3, 1) := by decide +kernel
theorem dX8_ends_50 : decode cX8_ends 50 = .ok (.imul, 1) := by decide +kernel
theorem dX8_ends_51 : decode cX8_ends 51 = .ok (.iadd, 1) := by decide +kernel
theorem dX8_ends_52 : decode cX8_ends 52 = .ok (.iconst 5, 1) := by decide +kernel
theorem dX8_ends_53 : decode cX8_ends 53 = .ok (.iadd, 1) := by decide +kernel
theorem dX8_ends_54 : decode cX8_ends 54 = .ok (.iload_n 2, 1) := by decide +kernel
theorem dX8_ends_55 : decode cX8_ends 55 = .ok (.invokevirtual 153, 3) := by decide +kernel
theorem dX8_ends_58 : decode cX8_ends 58 = .ok (.istore 4, 2) := by decide +kernel
theorem dX8_ends_60 : decode cX8_ends 60 = .ok (.aload_n 0, 1) := by decide +kernel
theorem dX8_ends_61 : decode cX8_ends 61 = .ok (.iconst (-1), 1) := by decide +kernel
theorem dX8_ends_62 : decode cX8_ends 62 = .ok (.invokevirtual 248, 3) := by decide +kernel
theorem dX8_ends_65 : decode cX8_ends 65 = .ok (.istore 5, 2) := by decide +kernel
theorem dX8_ends_67 : decode cX8_ends 67 = .ok (.aload_n 0, 1) := by decide +kernel
theorem dX8_ends_68 : decode cX8_ends 68 = .ok (.getfield 9, 3) := by decide +kernel
theorem dX8_ends_71 : decode cX8_ends 71 = .ok (.bipush 8, 2) := by decide +kernel
theorem dX8_ends_73 : decode cX8_ends 73 = .ok (.bipush 6, 2) := by decide +kernel
theorem dX8_ends_75 : decode cX8_ends 75 = .ok (.iload_n 3, 1) := by decide +kernel
theorem dX8_ends_76 : decode cX8_ends 76 = .ok (.imul, 1) := by decide +kernel
theorem dX8_ends_77 : decode cX8_ends 77 = .ok (.iadd, 1) := by decide +kernel
theorem dX8_ends_78 : decode cX8_ends 78 = .ok (.iconst 5, 1) := by decide +kernel
theorem dX8_ends_79 : decode cX8_ends 79 = .ok (.iadd, 1) := by decide +kernel
theorem dX8_ends_80 : decode cX8_ends 80 = .ok (.iload 4, 2) := by decide +kernel
theorem dX8_ends_82 : decode cX8_ends 82 = .ok (.iastore, 1) := by decide +kernel
theorem dX8_ends_83 : decode cX8_ends 83 = .ok (.iload 5, 2) := by decide +kernel
theorem dX8_ends_85 : decode cX8_ends 85 = .ok (.ifCond .ne 13, 3) := by decide +kernel
theorem dX8_ends_88 : decode cX8_ends 88 = .ok (.iload_n 1, 1) := by decide +kernel
theorem dX8_ends_89 : decode cX8_ends 89 = .ok (.ifCond .ne 7, 3) := by decide +kernel
theorem dX8_ends_92 : decode cX8_ends 92 = .ok (.iload_n 2, 1) := by decide +kernel
theorem dX8_ends_93 : decode cX8_ends 93 = .ok (.goto 4, 3) := by decide +kernel
theorem dX8_ends_96 : decode cX8_ends 96 = .ok (.iload_n 3, 1) := by decide +kernel
theorem dX8_ends_97 : decode cX8_ends 97 = .ok (.ireturn, 1) := by decide +kernel
theorem dX8_ends_98 : decode cX8_ends 98 = .ok (.iinc 3 1, 3) := by decide +kernel
theorem dX8_ends_101 : decode cX8_ends 101 = .ok (.goto (-67), 3) := by decide +kernel
theorem dX8_ends_104 : decode cX8_ends 104 = .ok (.iinc 2 1, 3) := by decide +kernel
theorem dX8_ends_107 : decode cX8_ends 107 = .ok (.goto (-81), 3) := by decide +kernel
theorem dX8_ends_110 : decode cX8_ends 110 = .ok (.bipush (-4), 2) := by decide +kernel
theorem dX8_ends_112 : decode cX8_ends 112 = .ok (.ireturn, 1) := by decide +kernel
theorem dX8_rattles_0 : decode cX8_rattles 0 = .ok (.iload_n 1, 1) := by decide +kernel
theorem dX8_rattles_1 : decode cX8_rattles 1 = .ok (.invokestatic 111, 3) := by decide +kernel
theorem dX8_rattles_4 : decode cX8_rattles 4 = .ok (.ifCond .eq 20, 3) := by decide +kernel
theorem dX8_rattles_7 : decode cX8_rattles 7 = .ok (.iload_n 2, 1) := by decide +kernel
theorem dX8_rattles_8 : decode cX8_rattles 8 = .ok (.invokestatic 180, 3) := by decide +kernel
theorem dX8_rattles_11 : decode cX8_rattles 11 = .ok (.ifCond .eq 13, 3) := by decide +kernel
theorem dX8_rattles_14 : decode cX8_rattles 14 = .ok (.iload_n 3, 1) := by decide +kernel
theorem dX8_rattles_15 : decode cX8_rattles 15 = .ok (.i2l, 1) := by decide +kernel
theorem dX8_rattles_16 : decode cX8_rattles 16 = .ok (.lconst 0, 1) := by decide +kernel
theorem dX8_rattles_17 : decode cX8_rattles 17 = .ok (.lconst 1, 1) := by decide +kernel
theorem dX8_rattles_18 : decode cX8_rattles 18 = .ok (.invokestatic 53, 3) := by decide +kernel
theorem dX8_rattles_21 : decode cX8_rattles 21 = .ok (.ifCond .ne 5, 3) := by decide +kernel
theorem dX8_rattles_24 : decode cX8_rattles 24 = .ok (.iconst (-1), 1) := by decide +kernel
theorem dX8_rattles_25 : decode cX8_rattles 25 = .ok (.ireturn, 1) := by decide +kernel
theorem dX8_rattles_26 : decode cX8_rattles 26 = .ok (.aload_n 0, 1) := by decide +kernel
theorem dX8_rattles_27 : decode cX8_rattles 27 = .ok (.iload_n 1, 1) := by decide +kernel
theorem dX8_rattles_28 : decode cX8_rattles 28 = .ok (.bipush 10, 2) := by decide +kernel
theorem dX8_rattles_30 : decode cX8_rattles 30 = .ok (.invokevirtual 235, 3) := by decide +kernel
theorem dX8_rattles_33 : decode cX8_rattles 33 = .ok (.istore 4, 2) := by decide +kernel
theorem dX8_rattles_35 : decode cX8_rattles 35 = .ok (.iload 4, 2) := by decide +kernel
theorem dX8_rattles_37 : decode cX8_rattles 37 = .ok (.ifCond .eq 6, 3) := by decide +kernel
theorem dX8_rattles_40 : decode cX8_rattles 40 = .ok (.iload 4, 2) := by decide +kernel
theorem dX8_rattles_42 : decode cX8_rattles 42 = .ok (.ireturn, 1) := by decide +kernel
theorem dX8_rattles_43 : decode cX8_rattles 43 = .ok (.aload_n 0, 1) := by decide +kernel
theorem dX8_rattles_44 : decode cX8_rattles 44 = .ok (.iload_n 1, 1) := by decide +kernel
theorem dX8_rattles_45 : decode cX8_rattles 45 = .ok (.iload_n 2, 1) := by decide +kernel
theorem dX8_rattles_46 : decode cX8_rattles 46 = .ok (.invokevirtual 238, 3) := by decide +kernel
theorem dX8_rattles_49 : decode cX8_rattles 49 = .ok (.iconst 0, 1) := by decide +kernel
theorem dX8_rattles_50 : decode cX8_rattles 50 = .ok (.istore 5, 2) := by decide +kernel
theorem dX8_rattles_52 : decode cX8_rattles 52 = .ok (.iconst 0, 1) := by decide +kernel
theorem dX8_rattles_53 : decode cX8_rattles 53 = .ok (.istore 6, 2) := by decide +kernel
theorem dX8_rattles_55 : decode cX8_rattles 55 = .ok (.iload 6, 2) := by decide +kernel
theorem dX8_rattles_57 : decode cX8_rattles 57 = .ok (.aload_n 0, 1) := by decide +kernel
theorem dX8_rattles_58 : decode cX8_rattles 58 = .ok (.getfield 28, 3) := by decide +kernel
theorem dX8_rattles_61 : decode cX8_rattles 61 = .ok (.iload_n 1, 1) := by decide +kernel
theorem dX8_rattles_62 : decode cX8_rattles 62 = .ok (.iaload, 1) := by decide +kernel
theorem dX8_rattles_63 : decode cX8_rattles 63 = .ok (.if_icmp .ge 21, 3) := by decide +kernel
theorem dX8_rattles_66 : decode cX8_rattles 66 = .ok (.iload 5, 2) := by decide +kernel
theorem dX8_rattles_68 : decode cX8_rattles 68 = .ok (.aload_n 0, 1) := by decide +kernel
theorem dX8_rattles_69 : decode cX8_rattles 69 = .ok (.getfield 46, 3) := by decide +kernel
theorem dX8_rattles_72 : decode cX8_rattles 72 = .ok (.iload 6, 2) := by decide +kernel
theorem dX8_rattles_74 : decode cX8_rattles 74 = .ok (.iaload, 1) := by decide +kernel
theorem dX8_rattles_75 : decode cX8_rattles 75 = .ok (.ior, 1) := by decide +kernel
theorem dX8_rattles_76 : decode cX8_rattles 76 = .ok (.istore 5, 2) := by decide +kernel
theorem dX8_rattles_78 : decode cX8_rattles 78 = .ok (.iinc 6 1, 3) := by decide +kernel
theorem dX8_rattles_81 : decode cX8_rattles 81 = .ok (.goto (-26), 3) := by decide +kernel
theorem dX8_rattles_84 : decode cX8_rattles 84 = .ok (.bipush (-4), 2) := by decide +kernel
theorem dX8_rattles_86 : decode cX8_rattles 86 = .ok (.istore 6, 2) := by decide +kernel
theorem dX8_rattles_88 : decode cX8_rattles 88 = .ok (.iconst 0, 1) := by decide +kernel
theorem dX8_rattles_89 : decode cX8_rattles 89 = .ok (.istore 7, 2) := by decide +kernel
theorem dX8_rattles_91 : decode cX8_rattles 91 = .ok (.iload 7, 2) := by decide +kernel
theorem dX8_rattles_93 : decode cX8_rattles 93 = .ok (.iconst 1, 1) := by decide +kernel
theorem dX8_rattles_94 : decode cX8_rattles 94 = .ok (.aload_n 0, 1) := by decide +kernel
theorem dX8_rattles_95 : decode cX8_rattles 95 = .ok (.getfield 28, 3) := by decide +kernel
theorem dX8_rattles_98 : decode cX8_rattles 98 = .ok (.iload_n 1, 1) := by decide +kernel
theorem dX8_rattles_99 : decode cX8_rattles 99 = .ok (.iaload, 1) := by decide +kernel
theorem dX8_rattles_100 : decode cX8_rattles 100 = .ok (.ishl, 1) := by decide +kernel
theorem dX8_rattles_101 : decode cX8_rattles 101 = .ok (.if_icmp .ge 88, 3) := by decide +kernel
theorem dX8_rattles_104 : decode cX8_rattles 104 = .ok (.iconst 0, 1) := by decide +kernel
theorem dX8_rattles_105 : decode cX8_rattles 105 = .ok (.istore 8, 2) := by decide +kernel
theorem dX8_rattles_107 : decode cX8_rattles 107 = .ok (.iconst 0, 1) := by decide +kernel
theorem dX8_rattles_108 : decode cX8_rattles 108 = .ok (.istore 9, 2) := by decide +kernel
theorem dX8_rattles_110 : decode cX8_rattles 110 = .ok (.iload 9, 2) := by decide +kernel
theorem dX8_rattles_112 : decode cX8_rattles 112 = .ok (.aload_n 0, 1) := by decide +kernel
theorem dX8_rattles_113 : decode cX8_rattles 113 = .ok (.getfield 28, 3) := by decide +kernel
theorem dX8_rattles_116 : decode cX8_rattles 116 = .ok (.iload_n 1, 1) := by decide +kernel
theorem dX8_rattles_117 : decode cX8_rattles 117 = .ok (.iaload, 1) := by decide +kernel
theorem dX8_rattles_118 : decode cX8_rattles 118 = .ok (.if_icmp .ge 36, 3) := by decide +kernel
theorem dX8_rattles_121 : decode cX8_rattles 121 = .ok (.iload 8, 2) := by decide +kernel
theorem dX8_rattles_123 : decode cX8_rattles 123 = .ok (.iload 7, 2) := by decide +kernel
theorem dX8_rattles_125 : decode cX8_rattles 125 = .ok (.iload 9, 2) := by decide +kernel
theorem dX8_rattles_127 : decode cX8_rattles 127 = .ok (.ishr, 1) := by decide +kernel
theorem dX8_rattles_128 : decode cX8_rattles 128 = .ok (.iconst 1, 1) := by decide +kernel
theorem dX8_rattles_129 : decode cX8_rattles 129 = .ok (.iand, 1) := by decide +kernel
theorem dX8_rattles_130 : decode cX8_rattles 130 = .ok (.iconst 1, 1) := by decide +kernel
theorem dX8_rattles_131 : decode cX8_rattles 131 = .ok (.if_icmp .ne 13, 3) := by decide +kernel
theorem dX8_rattles_134 : decode cX8_rattles 134 = .ok (.aload_n 0, 1) := by decide +kernel
theorem dX8_rattles_135 : decode cX8_rattles 135 = .ok (.getfield 46, 3) := by decide +kernel
theorem dX8_rattles_138 : decode cX8_rattles 138 = .ok (.iload 9, 2) := by decide +kernel
theorem dX8_rattles_140 : decode cX8_rattles 140 = .ok (.iaload, 1) := by decide +kernel
theorem dX8_rattles_141 : decode cX8_rattles 141 = .ok (.goto 4, 3) := by decide +kernel
theorem dX8_rattles_144 : decode cX8_rattles 144 = .ok (.iconst 0, 1) := by decide +kernel
theorem dX8_rattles_145 : decode cX8_rattles 145 = .ok (.ior, 1) := by decide +kernel
theorem dX8_rattles_146 : decode cX8_rattles 146 = .ok (.istore 8, 2) := by decide +kernel
theorem dX8_rattles_148 : decode cX8_rattles 148 = .ok (.iinc 9 1, 3) := by decide +kernel
theorem dX8_rattles_151 : decode cX8_rattles 151 = .ok (.goto (-41), 3) := by decide +kernel
theorem dX8_rattles_154 : decode cX8_rattles 154 = .ok (.iload 8, 2) := by decide +kernel
theorem dX8_rattles_156 : decode cX8_rattles 156 = .ok (.iload 5, 2) := by decide +kernel
theorem dX8_rattles_158 : decode cX8_rattles 158 = .ok (.if_icmp .ne 25, 3) := by decide +kernel
theorem dX8_rattles_161 : decode cX8_rattles 161 = .ok (.iload 6, 2) := by decide +kernel
theorem dX8_rattles_163 : decode cX8_rattles 163 = .ok (.ifCond .lt 16, 3) := by decide +kernel
theorem dX8_rattles_166 : decode cX8_rattles 166 = .ok (.iload 7, 2) := by decide +kernel
theorem dX8_rattles_168 : decode cX8_rattles 168 = .ok (.invokestatic 229, 3) := by decide +kernel
theorem dX8_rattles_171 : decode cX8_rattles 171 = .ok (.iload 6, 2) := by decide +kernel
theorem dX8_rattles_173 : decode cX8_rattles 173 = .ok (.invokestatic 229, 3) := by decide +kernel
theorem dX8_rattles_176 : decode cX8_rattles 176 = .ok (.if_icmp .ge 7, 3) := by decide +kernel
theorem dX8_rattles_179 : decode cX8_rattles 179 = .ok (.iload 7, 2) := by decide +kernel
theorem dX8_rattles_181 : decode cX8_rattles 181 = .ok (.istore 6, 2) := by decide +kernel
theorem dX8_rattles_183 : decode cX8_rattles 183 = .ok (.iinc 7 1, 3) := by decide +kernel
theorem dX8_rattles_186 : decode cX8_rattles 186 = .ok (.goto (-95), 3) := by decide +kernel
theorem dX8_rattles_189 : decode cX8_rattles 189 = .ok (.iload_n 3, 1) := by decide +kernel
theorem dX8_rattles_190 : decode cX8_rattles 190 = .ok (.ifCond .ne 11, 3) := by decide +kernel
theorem dX8_rattles_193 : decode cX8_rattles 193 = .ok (.iload 6, 2) := by decide +kernel
theorem dX8_rattles_195 : decode cX8_rattles 195 = .ok (.invokestatic 229, 3) := by decide +kernel
theorem dX8_rattles_198 : decode cX8_rattles 198 = .ok (.goto 5, 3) := by decide +kernel
theorem dX8_rattles_201 : decode cX8_rattles 201 = .ok (.iload 6, 2) := by decide +kernel
theorem dX8_rattles_203 : decode cX8_rattles 203 = .ok (.ireturn, 1) := by decide +kernel
theorem dX8_harm_0 : decode cX8_harm 0 = .ok (.iload_n 1, 1) := by decide +kernel
theorem dX8_harm_1 : decode cX8_harm 1 = .ok (.i2l, 1) := by decide +kernel
theorem dX8_harm_2 : decode cX8_harm 2 = .ok (.lconst 0, 1) := by decide +kernel
theorem dX8_harm_3 : decode cX8_harm 3 = .ok (.ldc2_w 151, 3) := by decide +kernel
theorem dX8_harm_6 : decode cX8_harm 6 = .ok (.invokestatic 53, 3) := by decide +kernel
theorem dX8_harm_9 : decode cX8_harm 9 = .ok (.ifCond .ne 5, 3) := by decide +kernel
theorem dX8_harm_12 : decode cX8_harm 12 = .ok (.iconst (-1), 1) := by decide +kernel
theorem dX8_harm_13 : decode cX8_harm 13 = .ok (.ireturn, 1) := by decide +kernel
theorem dX8_harm_14 : decode cX8_harm 14 = .ok (.aload_n 0, 1) := by decide +kernel
theorem dX8_harm_15 : decode cX8_harm 15 = .ok (.getfield 9, 3) := by decide +kernel
theorem dX8_harm_18 : decode cX8_harm 18 = .ok (.iconst 4, 1) := by decide +kernel
theorem dX8_harm_19 : decode cX8_harm 19 = .ok (.iaload, 1) := by decide +kernel
theorem dX8_harm_20 : decode cX8_harm 20 = .ok (.iload_n 1, 1) := by decide +kernel
theorem dX8_harm_21 : decode cX8_harm 21 = .ok (.iadd, 1) := by decide +kernel
theorem dX8_harm_22 : decode cX8_harm 22 = .ok (.bipush 20, 2) := by decide +kernel
theorem dX8_harm_24 : decode cX8_harm 24 = .ok (.if_icmp .le 8, 3) := by decide +kernel
theorem dX8_harm_27 : decode cX8_harm 27 = .ok (.bipush 20, 2) := by decide +kernel
theorem dX8_harm_29 : decode cX8_harm 29 = .ok (.goto 11, 3) := by decide +kernel
theorem dX8_harm_32 : decode cX8_harm 32 = .ok (.aload_n 0, 1) := by decide +kernel
theorem dX8_harm_33 : decode cX8_harm 33 = .ok (.getfield 9, 3) := by decide +kernel
theorem dX8_harm_36 : decode cX8_harm 36 = .ok (.iconst 4, 1) := by decide +kernel
theorem dX8_harm_37 : decode cX8_harm 37 = .ok (.iaload, 1) := by decide +kernel
theorem dX8_harm_38 : decode cX8_harm 38 = .ok (.iload_n 1, 1) := by decide +kernel
theorem dX8_harm_39 : decode cX8_harm 39 = .ok (.iadd, 1) := by decide +kernel
theorem dX8_harm_40 : decode cX8_harm 40 = .ok (.istore_n 2, 1) := by decide +kernel
theorem dX8_harm_41 : decode cX8_harm 41 = .ok (.iconst 0, 1) := by decide +kernel
theorem dX8_harm_42 : decode cX8_harm 42 = .ok (.istore_n 3, 1) := by decide +kernel
theorem dX8_harm_43 : decode cX8_harm 43 = .ok (.iconst 0, 1) := by decide +kernel
theorem dX8_harm_44 : decode cX8_harm 44 = .ok (.istore 4, 2) := by decide +kernel
theorem dX8_harm_46 : decode cX8_harm 46 = .ok (.iload 4, 2) := by decide +kernel
theorem dX8_harm_48 : decode cX8_harm 48 = .ok (.aload_n 0, 1) := by decide +kernel
theorem dX8_harm_49 : decode cX8_harm 49 = .ok (.getfield 9, 3) := by decide +kernel
theorem dX8_harm_52 : decode cX8_harm 52 = .ok (.iconst 1, 1) := by decide +kernel
theorem dX8_harm_53 : decode cX8_harm 53 = .ok (.iaload, 1) := by decide +kernel
theorem dX8_harm_54 : decode cX8_harm 54 = .ok (.if_icmp .ge 54, 3) := by decide +kernel
theorem dX8_harm_57 : decode cX8_harm 57 = .ok (.aload_n 0, 1) := by decide +kernel
theorem dX8_harm_58 : decode cX8_harm 58 = .ok (.iload 4, 2) := by decide +kernel
theorem dX8_harm_60 : decode cX8_harm 60 = .ok (.iconst 0, 1) := by decide +kernel
theorem dX8_harm_61 : decode cX8_harm 61 = .ok (.invokevirtual 140, 3) := by decide +kernel
theorem dX8_harm_64 : decode cX8_harm 64 = .ok (.istore 5, 2) := by decide +kernel
theorem dX8_harm_66 : decode cX8_harm 66 = .ok (.iload 5, 2) := by decide +kernel
theorem dX8_harm_68 : decode cX8_harm 68 = .ok (.iconst 1, 1) := by decide +kernel
theorem dX8_harm_69 : decode cX8_harm 69 = .ok (.if_icmp .eq 9, 3) := by decide +kernel
theorem dX8_harm_72 : decode cX8_harm 72 = .ok (.iload 5, 2) := by decide +kernel
theorem dX8_harm_74 : decode cX8_harm 74 = .ok (.iconst 4, 1) := by decide +kernel
theorem dX8_harm_75 : decode cX8_harm 75 = .ok (.if_icmp .ne 27, 3) := by decide +kernel
theorem dX8_harm_78 : decode cX8_harm 78 = .ok (.iload_n 3, 1) := by decide +kernel
theorem dX8_harm_79 : decode cX8_harm 79 = .ok (.aload_n 0, 1) := by decide +kernel
theorem dX8_harm_80 : decode cX8_harm 80 = .ok (.iload 4, 2) := by decide +kernel
theorem dX8_harm_82 : decode cX8_harm 82 = .ok (.invokevirtual 192, 3) := by decide +kernel
theorem dX8_harm_85 : decode cX8_harm 85 = .ok (.aload_n 0, 1) := by decide +kernel
theorem dX8_harm_86 : decode cX8_harm 86 = .ok (.iload 4, 2) := by decide +kernel
theorem dX8_harm_88 : decode cX8_harm 88 = .ok (.aload_n 0, 1) := by decide +kernel
theorem dX8_harm_89 : decode cX8_harm 89 = .ok (.iload 4, 2) := by decide +kernel
theorem dX8_harm_91 : decode cX8_harm 91 = .ok (.iconst 2, 1) := by decide +kernel
theorem dX8_harm_92 : decode cX8_harm 92 = .ok (.invokevirtual 140, 3) := by decide +kernel
theorem dX8_harm_95 : decode cX8_harm 95 = .ok (.iload_n 2, 1) := by decide +kernel
theorem dX8_harm_96 : decode cX8_harm 96 = .ok (.invokevirtual 186, 3) := by decide +kernel
theorem dX8_harm_99 : decode cX8_harm 99 = .ok (.isub, 1) := by decide +kernel
theorem dX8_harm_100 : decode cX8_harm 100 = .ok (.iadd, 1) := by decide +kernel
theorem dX8_harm_101 : decode cX8_harm 101 = .ok (.istore_n 3, 1) := by decide +kernel
theorem dX8_harm_102 : decode cX8_harm 102 = .ok (.iinc 4 1, 3) := by decide +kernel
theorem dX8_harm_105 : decode cX8_harm 105 = .ok (.goto (-59), 3) := by decide +kernel
theorem dX8_harm_108 : decode cX8_harm 108 = .ok (.iload_n 3, 1) := by decide +kernel
theorem dX8_harm_109 : decode cX8_harm 109 = .ok (.ireturn, 1) := by decide +kernel
theorem dX8_hair_0 : decode cX8_hair 0 = .ok (.aload_n 0, 1) := by decide +kernel
theorem dX8_hair_1 : decode cX8_hair 1 = .ok (.iload_n 1, 1) := by decide +kernel
theorem dX8_hair_2 : decode cX8_hair 2 = .ok (.invokevirtual 130, 3) := by decide +kernel
theorem dX8_hair_5 : decode cX8_hair 5 = .ok (.ifCond .eq 32, 3) := by decide +kernel
theorem dX8_hair_8 : decode cX8_hair 8 = .ok (.iload_n 2, 1) := by decide +kernel
theorem dX8_hair_9 : decode cX8_hair 9 = .ok (.invokestatic 177, 3) := by decide +kernel
theorem dX8_hair_12 : decode cX8_hair 12 = .ok (.ifCond .eq 25, 3) := by decide +kernel
theorem dX8_hair_15 : decode cX8_hair 15 = .ok (.iload_n 3, 1) := by decide +kernel
theorem dX8_hair_16 : decode cX8_hair 16 = .ok (.invokestatic 180, 3) := by decide +kernel
theorem dX8_hair_19 : decode cX8_hair 19 = .ok (.ifCond .eq 18, 3) := by decide +kernel
theorem dX8_hair_22 : decode cX8_hair 22 = .ok (.iload 4, 2) := by decide +kernel
theorem dX8_hair_24 : decode cX8_hair 24 = .ok (.i2l, 1) := by decide +kernel
theorem dX8_hair_25 : decode cX8_hair 25 = .ok (.ldc2_w 251, 3) := by decide +kernel
theorem dX8_hair_28 : decode cX8_hair 28 = .ok (.ldc2_w 253, 3) := by decide +kernel
theorem dX8_hair_31 : decode cX8_hair 31 = .ok (.invokestatic 53, 3) := by decide +kernel
theorem dX8_hair_34 : decode cX8_hair 34 = .ok (.ifCond .ne 6, 3) := by decide +kernel
theorem dX8_hair_37 : decode cX8_hair 37 = .ok (.ldc 156, 2) := by decide +kernel
theorem dX8_hair_39 : decode cX8_hair 39 = .ok (.ireturn, 1) := by decide +kernel
theorem dX8_hair_40 : decode cX8_hair 40 = .ok (.aload_n 0, 1) := by decide +kernel
theorem dX8_hair_41 : decode cX8_hair 41 = .ok (.getfield 9, 3) := by decide +kernel
theorem dX8_hair_44 : decode cX8_hair 44 = .ok (.bipush 7, 2) := by decide +kernel
theorem dX8_hair_46 : decode cX8_hair 46 = .ok (.iaload, 1) := by decide +kernel
theorem dX8_hair_47 : decode cX8_hair 47 = .ok (.iload 4, 2) := by decide +kernel
theorem dX8_hair_49 : decode cX8_hair 49 = .ok (.iadd, 1) := by decide +kernel
theorem dX8_hair_50 : decode cX8_hair 50 = .ok (.i2l, 1) := by decide +kernel
theorem dX8_hair_51 : decode cX8_hair 51 = .ok (.ldc2_w 159, 3) := by decide +kernel
theorem dX8_hair_54 : decode cX8_hair 54 = .ok (.ldc2_w 161, 3) := by decide +kernel
theorem dX8_hair_57 : decode cX8_hair 57 = .ok (.invokestatic 53, 3) := by decide +kernel
theorem dX8_hair_60 : decode cX8_hair 60 = .ok (.ifCond .ne 6, 3) := by decide +kernel
theorem dX8_hair_63 : decode cX8_hair 63 = .ok (.ldc 255, 2) := by decide +kernel
theorem dX8_hair_65 : decode cX8_hair 65 = .ok (.ireturn, 1) := by decide +kernel
theorem dX8_hair_66 : decode cX8_hair 66 = .ok (.aload_n 0, 1) := by decide +kernel
theorem dX8_hair_67 : decode cX8_hair 67 = .ok (.iload_n 1, 1) := by decide +kernel
theorem dX8_hair_68 : decode cX8_hair 68 = .ok (.iload_n 2, 1) := by decide +kernel
theorem dX8_hair_69 : decode cX8_hair 69 = .ok (.iload_n 3, 1) := by decide +kernel
theorem dX8_hair_70 : decode cX8_hair 70 = .ok (.invokevirtual 174, 3) := by decide +kernel
theorem dX8_hair_73 : decode cX8_hair 73 = .ok (.istore 5, 2) := by decide +kernel
theorem dX8_hair_75 : decode cX8_hair 75 = .ok (.aload_n 0, 1) := by decide +kernel
theorem dX8_hair_76 : decode cX8_hair 76 = .ok (.getfield 9, 3) := by decide +kernel
theorem dX8_hair_79 : decode cX8_hair 79 = .ok (.bipush 7, 2) := by decide +kernel
theorem dX8_hair_81 : decode cX8_hair 81 = .ok (.dup2, 1) := by decide +kernel
theorem dX8_hair_82 : decode cX8_hair 82 = .ok (.iaload, 1) := by decide +kernel
theorem dX8_hair_83 : decode cX8_hair 83 = .ok (.iload 4, 2) := by decide +kernel
theorem dX8_hair_85 : decode cX8_hair 85 = .ok (.iadd, 1) := by decide +kernel
theorem dX8_hair_86 : decode cX8_hair 86 = .ok (.iastore, 1) := by decide +kernel
theorem dX8_hair_87 : decode cX8_hair 87 = .ok (.aload_n 0, 1) := by decide +kernel
theorem dX8_hair_88 : decode cX8_hair 88 = .ok (.iload_n 1, 1) := by decide +kernel
theorem dX8_hair_89 : decode cX8_hair 89 = .ok (.iload_n 2, 1) := by decide +kernel
theorem dX8_hair_90 : decode cX8_hair 90 = .ok (.iload_n 3, 1) := by decide +kernel
theorem dX8_hair_91 : decode cX8_hair 91 = .ok (.invokevirtual 174, 3) := by decide +kernel
theorem dX8_hair_94 : decode cX8_hair 94 = .ok (.istore 6, 2) := by decide +kernel
theorem dX8_hair_96 : decode cX8_hair 96 = .ok (.aload_n 0, 1) := by decide +kernel
theorem dX8_hair_97 : decode cX8_hair 97 = .ok (.getfield 9, 3) := by decide +kernel
theorem dX8_hair_100 : decode cX8_hair 100 = .ok (.bipush 7, 2) := by decide +kernel
theorem dX8_hair_102 : decode cX8_hair 102 = .ok (.dup2, 1) := by decide +kernel
theorem dX8_hair_103 : decode cX8_hair 103 = .ok (.iaload, 1) := by decide +kernel
theorem dX8_hair_104 : decode cX8_hair 104 = .ok (.iload 4, 2) := by decide +kernel
theorem dX8_hair_106 : decode cX8_hair 106 = .ok (.isub, 1) := by decide +kernel
theorem dX8_hair_107 : decode cX8_hair 107 = .ok (.iastore, 1) := by decide +kernel
theorem dX8_hair_108 : decode cX8_hair 108 = .ok (.iload 6, 2) := by decide +kernel
theorem dX8_hair_110 : decode cX8_hair 110 = .ok (.iload 5, 2) := by decide +kernel
theorem dX8_hair_112 : decode cX8_hair 112 = .ok (.isub, 1) := by decide +kernel
theorem dX8_hair_113 : decode cX8_hair 113 = .ok (.ireturn, 1) := by decide +kernel
theorem dX8_leastOf_0 : decode cX8_leastOf 0 = .ok (.aload_n 0, 1) := by decide +kernel
theorem dX8_leastOf_1 : decode cX8_leastOf 1 = .ok (.getfield 25, 3) := by decide +kernel
theorem dX8_leastOf_4 : decode cX8_leastOf 4 = .ok (.iload_n 1, 1) := by decide +kernel
theorem dX8_leastOf_5 : decode cX8_leastOf 5 = .ok (.iaload, 1) := by decide +kernel
theorem dX8_leastOf_6 : decode cX8_leastOf 6 = .ok (.ifCond .ne 8, 3) := by decide +kernel
theorem dX8_leastOf_9 : decode cX8_leastOf 9 = .ok (.bipush (-128), 2) := by decide +kernel
theorem dX8_leastOf_11 : decode cX8_leastOf 11 = .ok (.goto 22, 3) := by decide +kernel
theorem dX8_leastOf_14 : decode cX8_leastOf 14 = .ok (.aload_n 0, 1) := by decide +kernel
theorem dX8_leastOf_15 : decode cX8_leastOf 15 = .ok (.getfield 25, 3) := by decide +kernel
theorem dX8_leastOf_18 : decode cX8_leastOf 18 = .ok (.iload_n 1, 1) := by decide +kernel
theorem dX8_leastOf_19 : decode cX8_leastOf 19 = .ok (.iaload, 1) := by decide +kernel
theorem dX8_leastOf_20 : decode cX8_leastOf 20 = .ok (.iconst 1, 1) := by decide +kernel
theorem dX8_leastOf_21 : decode cX8_leastOf 21 = .ok (.if_icmp .ne 9, 3) := by decide +kernel
theorem dX8_leastOf_24 : decode cX8_leastOf 24 = .ok (.sipush (-32768), 3) := by decide +kernel
theorem dX8_leastOf_27 : decode cX8_leastOf 27 = .ok (.goto 6, 3) := by decide +kernel
theorem dX8_leastOf_30 : decode cX8_leastOf 30 = .ok (.ldc_w 256, 3) := by decide +kernel
theorem dX8_leastOf_33 : decode cX8_leastOf 33 = .ok (.ireturn, 1) := by decide +kernel
theorem dX8_judge_0 : decode cX8_judge 0 = .ok (.aload_n 0, 1) := by decide +kernel
theorem dX8_judge_1 : decode cX8_judge 1 = .ok (.iload_n 1, 1) := by decide +kernel
theorem dX8_judge_2 : decode cX8_judge 2 = .ok (.invokevirtual 130, 3) := by decide +kernel
theorem dX8_judge_5 : decode cX8_judge 5 = .ok (.ifCond .eq 17, 3) := by decide +kernel
theorem dX8_judge_8 : decode cX8_judge 8 = .ok (.iload_n 2, 1) := by decide +kernel
theorem dX8_judge_9 : decode cX8_judge 9 = .ok (.invokestatic 180, 3) := by decide +kernel
theorem dX8_judge_12 : decode cX8_judge 12 = .ok (.ifCond .eq 10, 3) := by decide +kernel
theorem dX8_judge_15 : decode cX8_judge 15 = .ok (.iload_n 3, 1) := by decide +kernel
theorem dX8_judge_16 : decode cX8_judge 16 = .ok (.invokestatic 111, 3) := by decide +kernel
theorem dX8_judge_19 : decode cX8_judge 19 = .ok (.ifCond .ne 5, 3) := by decide +kernel
theorem dX8_judge_22 : decode cX8_judge 22 = .ok (.iconst (-1), 1) := by decide +kernel
theorem dX8_judge_23 : decode cX8_judge 23 = .ok (.ireturn, 1) := by decide +kernel
theorem dX8_judge_24 : decode cX8_judge 24 = .ok (.aload_n 0, 1) := by decide +kernel
theorem dX8_judge_25 : decode cX8_judge 25 = .ok (.iload_n 3, 1) := by decide +kernel
theorem dX8_judge_26 : decode cX8_judge 26 = .ok (.iconst (-1), 1) := by decide +kernel
theorem dX8_judge_27 : decode cX8_judge 27 = .ok (.invokevirtual 114, 3) := by decide +kernel
theorem dX8_judge_30 : decode cX8_judge 30 = .ok (.istore 4, 2) := by decide +kernel
theorem dX8_judge_32 : decode cX8_judge 32 = .ok (.iload 4, 2) := by decide +kernel
theorem dX8_judge_34 : decode cX8_judge 34 = .ok (.ifCond .eq 6, 3) := by decide +kernel
theorem dX8_judge_37 : decode cX8_judge 37 = .ok (.iload 4, 2) := by decide +kernel
theorem dX8_judge_39 : decode cX8_judge 39 = .ok (.ireturn, 1) := by decide +kernel
theorem dX8_judge_40 : decode cX8_judge 40 = .ok (.iconst 0, 1) := by decide +kernel
theorem dX8_judge_41 : decode cX8_judge 41 = .ok (.istore 5, 2) := by decide +kernel
theorem dX8_judge_43 : decode cX8_judge 43 = .ok (.iload 5, 2) := by decide +kernel
theorem dX8_judge_45 : decode cX8_judge 45 = .ok (.aload_n 0, 1) := by decide +kernel
theorem dX8_judge_46 : decode cX8_judge 46 = .ok (.getfield 28, 3) := by decide +kernel
theorem dX8_judge_49 : decode cX8_judge 49 = .ok (.iload_n 3, 1) := by decide +kernel
theorem dX8_judge_50 : decode cX8_judge 50 = .ok (.iaload, 1) := by decide +kernel
theorem dX8_judge_51 : decode cX8_judge 51 = .ok (.if_icmp .ge 54, 3) := by decide +kernel
theorem dX8_judge_54 : decode cX8_judge 54 = .ok (.aload_n 0, 1) := by decide +kernel
theorem dX8_judge_55 : decode cX8_judge 55 = .ok (.getfield 31, 3) := by decide +kernel
theorem dX8_judge_58 : decode cX8_judge 58 = .ok (.bipush 100, 2) := by decide +kernel
theorem dX8_judge_60 : decode cX8_judge 60 = .ok (.iload_n 3, 1) := by decide +kernel
theorem dX8_judge_61 : decode cX8_judge 61 = .ok (.imul, 1) := by decide +kernel
theorem dX8_judge_62 : decode cX8_judge 62 = .ok (.iload 5, 2) := by decide +kernel
theorem dX8_judge_64 : decode cX8_judge 64 = .ok (.iadd, 1) := by decide +kernel
theorem dX8_judge_65 : decode cX8_judge 65 = .ok (.iaload, 1) := by decide +kernel
theorem dX8_judge_66 : decode cX8_judge 66 = .ok (.istore 6, 2) := by decide +kernel
theorem dX8_judge_68 : decode cX8_judge 68 = .ok (.iload 6, 2) := by decide +kernel
theorem dX8_judge_70 : decode cX8_judge 70 = .ok (.aload_n 0, 1) := by decide +kernel
theorem dX8_judge_71 : decode cX8_judge 71 = .ok (.iload_n 3, 1) := by decide +kernel
theorem dX8_judge_72 : decode cX8_judge 72 = .ok (.invokevirtual 257, 3) := by decide +kernel
theorem dX8_judge_75 : decode cX8_judge 75 = .ok (.if_icmp .eq 24, 3) := by decide +kernel
theorem dX8_judge_78 : decode cX8_judge 78 = .ok (.iload 6, 2) := by decide +kernel
theorem dX8_judge_80 : decode cX8_judge 80 = .ok (.aload_n 0, 1) := by decide +kernel
theorem dX8_judge_81 : decode cX8_judge 81 = .ok (.iload_n 1, 1) := by decide +kernel
theorem dX8_judge_82 : decode cX8_judge 82 = .ok (.bipush 10, 2) := by decide +kernel
theorem dX8_judge_84 : decode cX8_judge 84 = .ok (.iload 5, 2) := by decide +kernel
theorem dX8_judge_86 : decode cX8_judge 86 = .ok (.iconst 1, 1) := by decide +kernel
theorem dX8_judge_87 : decode cX8_judge 87 = .ok (.iadd, 1) := by decide +kernel
theorem dX8_judge_88 : decode cX8_judge 88 = .ok (.imul, 1) := by decide +kernel
theorem dX8_judge_89 : decode cX8_judge 89 = .ok (.iload_n 2, 1) := by decide +kernel
theorem dX8_judge_90 : decode cX8_judge 90 = .ok (.invokevirtual 174, 3) := by decide +kernel
theorem dX8_judge_93 : decode cX8_judge 93 = .ok (.if_icmp .eq 6, 3) := by decide +kernel
theorem dX8_judge_96 : decode cX8_judge 96 = .ok (.iload 5, 2) := by decide +kernel
theorem dX8_judge_98 : decode cX8_judge 98 = .ok (.ireturn, 1) := by decide +kernel
theorem dX8_judge_99 : decode cX8_judge 99 = .ok (.iinc 5 1, 3) := by decide +kernel
theorem dX8_judge_102 : decode cX8_judge 102 = .ok (.goto (-59), 3) := by decide +kernel
theorem dX8_judge_105 : decode cX8_judge 105 = .ok (.bipush (-4), 2) := by decide +kernel
theorem dX8_judge_107 : decode cX8_judge 107 = .ok (.ireturn, 1) := by decide +kernel
theorem dX8_image_0 : decode cX8_image 0 = .ok (.iconst 0, 1) := by decide +kernel
theorem dX8_image_1 : decode cX8_image 1 = .ok (.istore_n 1, 1) := by decide +kernel
theorem dX8_image_2 : decode cX8_image 2 = .ok (.iload_n 1, 1) := by decide +kernel
theorem dX8_image_3 : decode cX8_image 3 = .ok (.sipush 535, 3) := by decide +kernel
theorem dX8_image_6 : decode cX8_image 6 = .ok (.if_icmp .ge 21, 3) := by decide +kernel
theorem dX8_image_9 : decode cX8_image 9 = .ok (.aload_n 0, 1) := by decide +kernel
theorem dX8_image_10 : decode cX8_image 10 = .ok (.getfield 13, 3) := by decide +kernel
theorem dX8_image_13 : decode cX8_image 13 = .ok (.iload_n 1, 1) := by decide +kernel
theorem dX8_image_14 : decode cX8_image 14 = .ok (.aload_n 0, 1) := by decide +kernel
theorem dX8_image_15 : decode cX8_image 15 = .ok (.getfield 9, 3) := by decide +kernel
theorem dX8_image_18 : decode cX8_image 18 = .ok (.iload_n 1, 1) := by decide +kernel
theorem dX8_image_19 : decode cX8_image 19 = .ok (.iaload, 1) := by decide +kernel
theorem dX8_image_20 : decode cX8_image 20 = .ok (.iastore, 1) := by decide +kernel
theorem dX8_image_21 : decode cX8_image 21 = .ok (.iinc 1 1, 3) := by decide +kernel
theorem dX8_image_24 : decode cX8_image 24 = .ok (.goto (-22), 3) := by decide +kernel
theorem dX8_image_27 : decode cX8_image 27 = .ok (.aload_n 0, 1) := by decide +kernel
theorem dX8_image_28 : decode cX8_image 28 = .ok (.iconst 1, 1) := by decide +kernel
theorem dX8_image_29 : decode cX8_image 29 = .ok (.putfield 260, 3) := by decide +kernel
theorem dX8_image_32 : decode cX8_image 32 = .ok (.aload_n 0, 1) := by decide +kernel
theorem dX8_image_33 : decode cX8_image 33 = .ok (.getfield 9, 3) := by decide +kernel
theorem dX8_image_36 : decode cX8_image 36 = .ok (.iconst 2, 1) := by decide +kernel
theorem dX8_image_37 : decode cX8_image 37 = .ok (.iaload, 1) := by decide +kernel
theorem dX8_image_38 : decode cX8_image 38 = .ok (.ireturn, 1) := by decide +kernel
theorem dX8_restore_0 : decode cX8_restore 0 = .ok (.aload_n 0, 1) := by decide +kernel
theorem dX8_restore_1 : decode cX8_restore 1 = .ok (.getfield 260, 3) := by decide +kernel
theorem dX8_restore_4 : decode cX8_restore 4 = .ok (.ifCond .ne 6, 3) := by decide +kernel
theorem dX8_restore_7 : decode cX8_restore 7 = .ok (.bipush (-3), 2) := by decide +kernel
theorem dX8_restore_9 : decode cX8_restore 9 = .ok (.ireturn, 1) := by decide +kernel
theorem dX8_restore_10 : decode cX8_restore 10 = .ok (.iconst 0, 1) := by decide +kernel
theorem dX8_restore_11 : decode cX8_restore 11 = .ok (.istore_n 1, 1) := by decide +kernel
theorem dX8_restore_12 : decode cX8_restore 12 = .ok (.iload_n 1, 1) := by decide +kernel
theorem dX8_restore_13 : decode cX8_restore 13 = .ok (.sipush 535, 3) := by decide +kernel
theorem dX8_restore_16 : decode cX8_restore 16 = .ok (.if_icmp .ge 21, 3) := by decide +kernel
theorem dX8_restore_19 : decode cX8_restore 19 = .ok (.aload_n 0, 1) := by decide +kernel
theorem dX8_restore_20 : decode cX8_restore 20 = .ok (.getfield 9, 3) := by decide +kernel
theorem dX8_restore_23 : decode cX8_restore 23 = .ok (.iload_n 1, 1) := by decide +kernel
theorem dX8_restore_24 : decode cX8_restore 24 = .ok (.aload_n 0, 1) := by decide +kernel
theorem dX8_restore_25 : decode cX8_restore 25 = .ok (.getfield 13, 3) := by decide +kernel
theorem dX8_restore_28 : decode cX8_restore 28 = .ok (.iload_n 1, 1) := by decide +kernel
theorem dX8_restore_29 : decode cX8_restore 29 = .ok (.iaload, 1) := by decide +kernel
theorem dX8_restore_30 : decode cX8_restore 30 = .ok (.iastore, 1) := by decide +kernel
theorem dX8_restore_31 : decode cX8_restore 31 = .ok (.iinc 1 1, 3) := by decide +kernel
theorem dX8_restore_34 : decode cX8_restore 34 = .ok (.goto (-22), 3) := by decide +kernel
theorem dX8_restore_37 : decode cX8_restore 37 = .ok (.aload_n 0, 1) := by decide +kernel
theorem dX8_restore_38 : decode cX8_restore 38 = .ok (.getfield 9, 3) := by decide +kernel
theorem dX8_restore_41 : decode cX8_restore 41 = .ok (.iconst 2, 1) := by decide +kernel
theorem dX8_restore_42 : decode cX8_restore 42 = .ok (.iaload, 1) := by decide +kernel
theorem dX8_restore_43 : decode cX8_restore 43 = .ok (.ireturn, 1) := by decide +kernel
theorem dX8_count_0 : decode cX8_count 0 = .ok (.iconst 0, 1) := by decide +kernel
theorem dX8_count_1 : decode cX8_count 1 = .ok (.istore_n 2, 1) := by decide +kernel
theorem dX8_count_2 : decode cX8_count 2 = .ok (.iload_n 1, 1) := by decide +kernel
theorem dX8_count_3 : decode cX8_count 3 = .ok (.tableswitch 116 0 5 #[37, 37, 37, 44, 73, 109], 37) := by decide +kernel
theorem dX8_count_40 : decode cX8_count 40 = .ok (.aload_n 0, 1) := by decide +kernel
theorem dX8_count_41 : decode cX8_count 41 = .ok (.getfield 9, 3) := by decide +kernel
theorem dX8_count_44 : decode cX8_count 44 = .ok (.iload_n 1, 1) := by decide +kernel
theorem dX8_count_45 : decode cX8_count 45 = .ok (.iaload, 1) := by decide +kernel
theorem dX8_count_46 : decode cX8_count 46 = .ok (.ireturn, 1) := by decide +kernel
theorem dX8_count_47 : decode cX8_count 47 = .ok (.iconst 0, 1) := by decide +kernel
theorem dX8_count_48 : decode cX8_count 48 = .ok (.istore_n 3, 1) := by decide +kernel
theorem dX8_count_49 : decode cX8_count 49 = .ok (.iload_n 3, 1) := by decide +kernel
theorem dX8_count_50 : decode cX8_count 50 = .ok (.aload_n 0, 1) := by decide +kernel
theorem dX8_count_51 : decode cX8_count 51 = .ok (.getfield 9, 3) := by decide +kernel
theorem dX8_count_54 : decode cX8_count 54 = .ok (.iconst 0, 1) := by decide +kernel
theorem dX8_count_55 : decode cX8_count 55 = .ok (.iaload, 1) := by decide +kernel
theorem dX8_count_56 : decode cX8_count 56 = .ok (.if_icmp .ge 18, 3) := by decide +kernel
theorem dX8_count_59 : decode cX8_count 59 = .ok (.iload_n 2, 1) := by decide +kernel
theorem dX8_count_60 : decode cX8_count 60 = .ok (.aload_n 0, 1) := by decide +kernel
theorem dX8_count_61 : decode cX8_count 61 = .ok (.iload_n 3, 1) := by decide +kernel
theorem dX8_count_62 : decode cX8_count 62 = .ok (.iconst 5, 1) := by decide +kernel
theorem dX8_count_63 : decode cX8_count 63 = .ok (.invokevirtual 124, 3) := by decide +kernel
theorem dX8_count_66 : decode cX8_count 66 = .ok (.iadd, 1) := by decide +kernel
theorem dX8_count_67 : decode cX8_count 67 = .ok (.istore_n 2, 1) := by decide +kernel
theorem dX8_count_68 : decode cX8_count 68 = .ok (.iinc 3 1, 3) := by decide +kernel
theorem dX8_count_71 : decode cX8_count 71 = .ok (.goto (-22), 3) := by decide +kernel
theorem dX8_count_74 : decode cX8_count 74 = .ok (.iload_n 2, 1) := by decide +kernel
theorem dX8_count_75 : decode cX8_count 75 = .ok (.ireturn, 1) := by decide +kernel
theorem dX8_count_76 : decode cX8_count 76 = .ok (.iconst 0, 1) := by decide +kernel
theorem dX8_count_77 : decode cX8_count 77 = .ok (.istore_n 3, 1) := by decide +kernel
theorem dX8_count_78 : decode cX8_count 78 = .ok (.iload_n 3, 1) := by decide +kernel
theorem dX8_count_79 : decode cX8_count 79 = .ok (.aload_n 0, 1) := by decide +kernel
theorem dX8_count_80 : decode cX8_count 80 = .ok (.getfield 9, 3) := by decide +kernel
theorem dX8_count_83 : decode cX8_count 83 = .ok (.iconst 2, 1) := by decide +kernel
theorem dX8_count_84 : decode cX8_count 84 = .ok (.iaload, 1) := by decide +kernel
theorem dX8_count_85 : decode cX8_count 85 = .ok (.if_icmp .ge 25, 3) := by decide +kernel
theorem dX8_count_88 : decode cX8_count 88 = .ok (.iload_n 2, 1) := by decide +kernel
theorem dX8_count_89 : decode cX8_count 89 = .ok (.aload_n 0, 1) := by decide +kernel
theorem dX8_count_90 : decode cX8_count 90 = .ok (.iload_n 3, 1) := by decide +kernel
theorem dX8_count_91 : decode cX8_count 91 = .ok (.invokevirtual 211, 3) := by decide +kernel
theorem dX8_count_94 : decode cX8_count 94 = .ok (.ifCond .eq 7, 3) := by decide +kernel
theorem dX8_count_97 : decode cX8_count 97 = .ok (.iconst 1, 1) := by decide +kernel
theorem dX8_count_98 : decode cX8_count 98 = .ok (.goto 4, 3) := by decide +kernel
theorem dX8_count_101 : decode cX8_count 101 = .ok (.iconst 0, 1) := by decide +kernel
theorem dX8_count_102 : decode cX8_count 102 = .ok (.iadd, 1) := by decide +kernel
theorem dX8_count_103 : decode cX8_count 103 = .ok (.istore_n 2, 1) := by decide +kernel
theorem dX8_count_104 : decode cX8_count 104 = .ok (.iinc 3 1, 3) := by decide +kernel
theorem dX8_count_107 : decode cX8_count 107 = .ok (.goto (-29), 3) := by decide +kernel
theorem dX8_count_110 : decode cX8_count 110 = .ok (.iload_n 2, 1) := by decide +kernel
theorem dX8_count_111 : decode cX8_count 111 = .ok (.ireturn, 1) := by decide +kernel
theorem dX8_count_112 : decode cX8_count 112 = .ok (.aload_n 0, 1) := by decide +kernel
theorem dX8_count_113 : decode cX8_count 113 = .ok (.bipush 127, 2) := by decide +kernel
theorem dX8_count_115 : decode cX8_count 115 = .ok (.invokevirtual 226, 3) := by decide +kernel
theorem dX8_count_118 : decode cX8_count 118 = .ok (.ireturn, 1) := by decide +kernel
theorem dX8_count_119 : decode cX8_count 119 = .ok (.iconst (-1), 1) := by decide +kernel
theorem dX8_count_120 : decode cX8_count 120 = .ok (.ireturn, 1) := by decide +kernel
theorem dX8_keep_0 : decode cX8_keep 0 = .ok (.iload_n 1, 1) := by decide +kernel
theorem dX8_keep_1 : decode cX8_keep 1 = .ok (.invokestatic 111, 3) := by decide +kernel
theorem dX8_keep_4 : decode cX8_keep 4 = .ok (.ifCond .eq 26, 3) := by decide +kernel
theorem dX8_keep_7 : decode cX8_keep 7 = .ok (.iload_n 2, 1) := by decide +kernel
theorem dX8_keep_8 : decode cX8_keep 8 = .ok (.i2l, 1) := by decide +kernel
theorem dX8_keep_9 : decode cX8_keep 9 = .ok (.lconst 0, 1) := by decide +kernel
theorem dX8_keep_10 : decode cX8_keep 10 = .ok (.lconst 1, 1) := by decide +kernel
theorem dX8_keep_11 : decode cX8_keep 11 = .ok (.invokestatic 53, 3) := by decide +kernel
theorem dX8_keep_14 : decode cX8_keep 14 = .ok (.ifCond .eq 16, 3) := by decide +kernel
theorem dX8_keep_17 : decode cX8_keep 17 = .ok (.iload_n 2, 1) := by decide +kernel
theorem dX8_keep_18 : decode cX8_keep 18 = .ok (.iconst 1, 1) := by decide +kernel
theorem dX8_keep_19 : decode cX8_keep 19 = .ok (.if_icmp .ne 13, 3) := by decide +kernel
theorem dX8_keep_22 : decode cX8_keep 22 = .ok (.aload_n 0, 1) := by decide +kernel
theorem dX8_keep_23 : decode cX8_keep 23 = .ok (.iload_n 3, 1) := by decide +kernel
theorem dX8_keep_24 : decode cX8_keep 24 = .ok (.invokevirtual 143, 3) := by decide +kernel
theorem dX8_keep_27 : decode cX8_keep 27 = .ok (.ifCond .ne 5, 3) := by decide +kernel
theorem dX8_keep_30 : decode cX8_keep 30 = .ok (.iconst (-1), 1) := by decide +kernel
theorem dX8_keep_31 : decode cX8_keep 31 = .ok (.ireturn, 1) := by decide +kernel
theorem dX8_keep_32 : decode cX8_keep 32 = .ok (.aload_n 0, 1) := by decide +kernel
theorem dX8_keep_33 : decode cX8_keep 33 = .ok (.getfield 22, 3) := by decide +kernel
theorem dX8_keep_36 : decode cX8_keep 36 = .ok (.iload_n 1, 1) := by decide +kernel
theorem dX8_keep_37 : decode cX8_keep 37 = .ok (.iload_n 2, 1) := by decide +kernel
theorem dX8_keep_38 : decode cX8_keep 38 = .ok (.iastore, 1) := by decide +kernel
theorem dX8_keep_39 : decode cX8_keep 39 = .ok (.iload_n 2, 1) := by decide +kernel
theorem dX8_keep_40 : decode cX8_keep 40 = .ok (.ifCond .ne 5, 3) := by decide +kernel
theorem dX8_keep_43 : decode cX8_keep 43 = .ok (.iconst 0, 1) := by decide +kernel
theorem dX8_keep_44 : decode cX8_keep 44 = .ok (.ireturn, 1) := by decide +kernel
theorem dX8_keep_45 : decode cX8_keep 45 = .ok (.aload_n 0, 1) := by decide +kernel
theorem dX8_keep_46 : decode cX8_keep 46 = .ok (.iload_n 3, 1) := by decide +kernel
theorem dX8_keep_47 : decode cX8_keep 47 = .ok (.iconst 0, 1) := by decide +kernel
theorem dX8_keep_48 : decode cX8_keep 48 = .ok (.invokevirtual 140, 3) := by decide +kernel
theorem dX8_keep_51 : decode cX8_keep 51 = .ok (.istore 4, 2) := by decide +kernel
theorem dX8_keep_53 : decode cX8_keep 53 = .ok (.aload_n 0, 1) := by decide +kernel
theorem dX8_keep_54 : decode cX8_keep 54 = .ok (.getfield 34, 3) := by decide +kernel
theorem dX8_keep_57 : decode cX8_keep 57 = .ok (.iload_n 1, 1) := by decide +kernel
theorem dX8_keep_58 : decode cX8_keep 58 = .ok (.aload_n 0, 1) := by decide +kernel
theorem dX8_keep_59 : decode cX8_keep 59 = .ok (.iload_n 3, 1) := by decide +kernel
theorem dX8_keep_60 : decode cX8_keep 60 = .ok (.invokevirtual 148, 3) := by decide +kernel
theorem dX8_keep_63 : decode cX8_keep 63 = .ok (.iastore, 1) := by decide +kernel
theorem dX8_keep_64 : decode cX8_keep 64 = .ok (.aload_n 0, 1) := by decide +kernel
theorem dX8_keep_65 : decode cX8_keep 65 = .ok (.getfield 37, 3) := by decide +kernel
theorem dX8_keep_68 : decode cX8_keep 68 = .ok (.iload_n 1, 1) := by decide +kernel
theorem dX8_keep_69 : decode cX8_keep 69 = .ok (.iload 4, 2) := by decide +kernel
theorem dX8_keep_71 : decode cX8_keep 71 = .ok (.iconst 3, 1) := by decide +kernel
theorem dX8_keep_72 : decode cX8_keep 72 = .ok (.if_icmp .eq 12, 3) := by decide +kernel
theorem dX8_keep_75 : decode cX8_keep 75 = .ok (.aload_n 0, 1) := by decide +kernel
theorem dX8_keep_76 : decode cX8_keep 76 = .ok (.iload_n 3, 1) := by decide +kernel
theorem dX8_keep_77 : decode cX8_keep 77 = .ok (.iconst 3, 1) := by decide +kernel
theorem dX8_keep_78 : decode cX8_keep 78 = .ok (.invokevirtual 140, 3) := by decide +kernel
theorem dX8_keep_81 : decode cX8_keep 81 = .ok (.ifCond .ne 8, 3) := by decide +kernel
theorem dX8_keep_84 : decode cX8_keep 84 = .ok (.bipush (-15), 2) := by decide +kernel
theorem dX8_keep_86 : decode cX8_keep 86 = .ok (.goto 36, 3) := by decide +kernel
theorem dX8_keep_89 : decode cX8_keep 89 = .ok (.iload 4, 2) := by decide +kernel
theorem dX8_keep_91 : decode cX8_keep 91 = .ok (.iconst 4, 1) := by decide +kernel
theorem dX8_keep_92 : decode cX8_keep 92 = .ok (.if_icmp .ne 10, 3) := by decide +kernel
theorem dX8_keep_95 : decode cX8_keep 95 = .ok (.bipush 100, 2) := by decide +kernel
theorem dX8_keep_97 : decode cX8_keep 97 = .ok (.iload_n 3, 1) := by decide +kernel
theorem dX8_keep_98 : decode cX8_keep 98 = .ok (.iadd, 1) := by decide +kernel
theorem dX8_keep_99 : decode cX8_keep 99 = .ok (.goto 23, 3) := by decide +kernel
theorem dX8_keep_102 : decode cX8_keep 102 = .ok (.iload 4, 2) := by decide +kernel
theorem dX8_keep_104 : decode cX8_keep 104 = .ok (.bipush 7, 2) := by decide +kernel
theorem dX8_keep_106 : decode cX8_keep 106 = .ok (.if_icmp .ne 15, 3) := by decide +kernel
theorem dX8_keep_109 : decode cX8_keep 109 = .ok (.sipush 200, 3) := by decide +kernel
theorem dX8_keep_112 : decode cX8_keep 112 = .ok (.aload_n 0, 1) := by decide +kernel
theorem dX8_keep_113 : decode cX8_keep 113 = .ok (.iload_n 3, 1) := by decide +kernel
theorem dX8_keep_114 : decode cX8_keep 114 = .ok (.invokevirtual 148, 3) := by decide +kernel
theorem dX8_keep_117 : decode cX8_keep 117 = .ok (.iadd, 1) := by decide +kernel
theorem dX8_keep_118 : decode cX8_keep 118 = .ok (.goto 4, 3) := by decide +kernel
theorem dX8_keep_121 : decode cX8_keep 121 = .ok (.iload_n 3, 1) := by decide +kernel
theorem dX8_keep_122 : decode cX8_keep 122 = .ok (.iastore, 1) := by decide +kernel
theorem dX8_keep_123 : decode cX8_keep 123 = .ok (.iconst 0, 1) := by decide +kernel
theorem dX8_keep_124 : decode cX8_keep 124 = .ok (.ireturn, 1) := by decide +kernel
theorem dX8_row_0 : decode cX8_row 0 = .ok (.iload_n 1, 1) := by decide +kernel
theorem dX8_row_1 : decode cX8_row 1 = .ok (.invokestatic 111, 3) := by decide +kernel
theorem dX8_row_4 : decode cX8_row 4 = .ok (.ifCond .eq 21, 3) := by decide +kernel
theorem dX8_row_7 : decode cX8_row 7 = .ok (.iload_n 2, 1) := by decide +kernel
theorem dX8_row_8 : decode cX8_row 8 = .ok (.i2l, 1) := by decide +kernel
theorem dX8_row_9 : decode cX8_row 9 = .ok (.lconst 0, 1) := by decide +kernel
theorem dX8_row_10 : decode cX8_row 10 = .ok (.ldc2_w 195, 3) := by decide +kernel
theorem dX8_row_13 : decode cX8_row 13 = .ok (.invokestatic 53, 3) := by decide +kernel
theorem dX8_row_16 : decode cX8_row 16 = .ok (.ifCond .eq 9, 3) := by decide +kernel
theorem dX8_row_19 : decode cX8_row 19 = .ok (.iload_n 3, 1) := by decide +kernel
theorem dX8_row_20 : decode cX8_row 20 = .ok (.bipush 100, 2) := by decide +kernel
theorem dX8_row_22 : decode cX8_row 22 = .ok (.if_icmp .le 5, 3) := by decide +kernel
theorem dX8_row_25 : decode cX8_row 25 = .ok (.iconst (-1), 1) := by decide +kernel
theorem dX8_row_26 : decode cX8_row 26 = .ok (.ireturn, 1) := by decide +kernel
theorem dX8_row_27 : decode cX8_row 27 = .ok (.iload_n 3, 1) := by decide +kernel
theorem dX8_row_28 : decode cX8_row 28 = .ok (.ifCond .ge 6, 3) := by decide +kernel
theorem dX8_row_31 : decode cX8_row 31 = .ok (.bipush (-14), 2) := by decide +kernel
theorem dX8_row_33 : decode cX8_row 33 = .ok (.ireturn, 1) := by decide +kernel
theorem dX8_row_34 : decode cX8_row 34 = .ok (.aload_n 0, 1) := by decide +kernel
theorem dX8_row_35 : decode cX8_row 35 = .ok (.getfield 22, 3) := by decide +kernel
theorem dX8_row_38 : decode cX8_row 38 = .ok (.iload_n 1, 1) := by decide +kernel
theorem dX8_row_39 : decode cX8_row 39 = .ok (.iconst 2, 1) := by decide +kernel
theorem dX8_row_40 : decode cX8_row 40 = .ok (.iastore, 1) := by decide +kernel
theorem dX8_row_41 : decode cX8_row 41 = .ok (.aload_n 0, 1) := by decide +kernel
theorem dX8_row_42 : decode cX8_row 42 = .ok (.getfield 25, 3) := by decide +kernel
theorem dX8_row_45 : decode cX8_row 45 = .ok (.iload_n 1, 1) := by decide +kernel
theorem dX8_row_46 : decode cX8_row 46 = .ok (.iload_n 2, 1) := by decide +kernel
theorem dX8_row_47 : decode cX8_row 47 = .ok (.iastore, 1) := by decide +kernel
theorem dX8_row_48 : decode cX8_row 48 = .ok (.aload_n 0, 1) := by decide +kernel
theorem dX8_row_49 : decode cX8_row 49 = .ok (.getfield 28, 3) := by decide +kernel
theorem dX8_row_52 : decode cX8_row 52 = .ok (.iload_n 1, 1) := by decide +kernel
theorem dX8_row_53 : decode cX8_row 53 = .ok (.iload_n 3, 1) := by decide +kernel
theorem dX8_row_54 : decode cX8_row 54 = .ok (.iastore, 1) := by decide +kernel
theorem dX8_row_55 : decode cX8_row 55 = .ok (.iconst 0, 1) := by decide +kernel
theorem dX8_row_56 : decode cX8_row 56 = .ok (.istore 4, 2) := by decide +kernel
theorem dX8_row_58 : decode cX8_row 58 = .ok (.iload 4, 2) := by decide +kernel
theorem dX8_row_60 : decode cX8_row 60 = .ok (.bipush 100, 2) := by decide +kernel
theorem dX8_row_62 : decode cX8_row 62 = .ok (.if_icmp .ge 22, 3) := by decide +kernel
theorem dX8_row_65 : decode cX8_row 65 = .ok (.aload_n 0, 1) := by decide +kernel
theorem dX8_row_66 : decode cX8_row 66 = .ok (.getfield 31, 3) := by decide +kernel
theorem dX8_row_69 : decode cX8_row 69 = .ok (.bipush 100, 2) := by decide +kernel
theorem dX8_row_71 : decode cX8_row 71 = .ok (.iload_n 1, 1) := by decide +kernel
theorem dX8_row_72 : decode cX8_row 72 = .ok (.imul, 1) := by decide +kernel
theorem dX8_row_73 : decode cX8_row 73 = .ok (.iload 4, 2) := by decide +kernel
theorem dX8_row_75 : decode cX8_row 75 = .ok (.iadd, 1) := by decide +kernel
theorem dX8_row_76 : decode cX8_row 76 = .ok (.iconst 0, 1) := by decide +kernel
theorem dX8_row_77 : decode cX8_row 77 = .ok (.iastore, 1) := by decide +kernel
theorem dX8_row_78 : decode cX8_row 78 = .ok (.iinc 4 1, 3) := by decide +kernel
theorem dX8_row_81 : decode cX8_row 81 = .ok (.goto (-23), 3) := by decide +kernel
theorem dX8_row_84 : decode cX8_row 84 = .ok (.iconst 0, 1) := by decide +kernel
theorem dX8_row_85 : decode cX8_row 85 = .ok (.ireturn, 1) := by decide +kernel
theorem dX8_put_0 : decode cX8_put 0 = .ok (.aload_n 0, 1) := by decide +kernel
theorem dX8_put_1 : decode cX8_put 1 = .ok (.iload_n 1, 1) := by decide +kernel
theorem dX8_put_2 : decode cX8_put 2 = .ok (.iconst (-1), 1) := by decide +kernel
theorem dX8_put_3 : decode cX8_put 3 = .ok (.invokevirtual 114, 3) := by decide +kernel
theorem dX8_put_6 : decode cX8_put 6 = .ok (.istore 4, 2) := by decide +kernel
theorem dX8_put_8 : decode cX8_put 8 = .ok (.iload 4, 2) := by decide +kernel
theorem dX8_put_10 : decode cX8_put 10 = .ok (.ifCond .eq 6, 3) := by decide +kernel
theorem dX8_put_13 : decode cX8_put 13 = .ok (.iload 4, 2) := by decide +kernel
theorem dX8_put_15 : decode cX8_put 15 = .ok (.ireturn, 1) := by decide +kernel
theorem dX8_put_16 : decode cX8_put 16 = .ok (.iload_n 2, 1) := by decide +kernel
theorem dX8_put_17 : decode cX8_put 17 = .ok (.i2l, 1) := by decide +kernel
theorem dX8_put_18 : decode cX8_put 18 = .ok (.lconst 0, 1) := by decide +kernel
theorem dX8_put_19 : decode cX8_put 19 = .ok (.aload_n 0, 1) := by decide +kernel
theorem dX8_put_20 : decode cX8_put 20 = .ok (.getfield 28, 3) := by decide +kernel
theorem dX8_put_23 : decode cX8_put 23 = .ok (.iload_n 1, 1) := by decide +kernel
theorem dX8_put_24 : decode cX8_put 24 = .ok (.iaload, 1) := by decide +kernel
theorem dX8_put_25 : decode cX8_put 25 = .ok (.iconst 1, 1) := by decide +kernel
theorem dX8_put_26 : decode cX8_put 26 = .ok (.isub, 1) := by decide +kernel
theorem dX8_put_27 : decode cX8_put 27 = .ok (.i2l, 1) := by decide +kernel
theorem dX8_put_28 : decode cX8_put 28 = .ok (.invokestatic 53, 3) := by decide +kernel
theorem dX8_put_31 : decode cX8_put 31 = .ok (.ifCond .ne 6, 3) := by decide +kernel
theorem dX8_put_34 : decode cX8_put 34 = .ok (.bipush (-13), 2) := by decide +kernel
theorem dX8_put_36 : decode cX8_put 36 = .ok (.ireturn, 1) := by decide +kernel
theorem dX8_put_37 : decode cX8_put 37 = .ok (.aload_n 0, 1) := by decide +kernel
theorem dX8_put_38 : decode cX8_put 38 = .ok (.getfield 31, 3) := by decide +kernel
theorem dX8_put_41 : decode cX8_put 41 = .ok (.bipush 100, 2) := by decide +kernel
theorem dX8_put_43 : decode cX8_put 43 = .ok (.iload_n 1, 1) := by decide +kernel
theorem dX8_put_44 : decode cX8_put 44 = .ok (.imul, 1) := by decide +kernel
theorem dX8_put_45 : decode cX8_put 45 = .ok (.iload_n 2, 1) := by decide +kernel
theorem dX8_put_46 : decode cX8_put 46 = .ok (.iadd, 1) := by decide +kernel
theorem dX8_put_47 : decode cX8_put 47 = .ok (.aload_n 0, 1) := by decide +kernel
theorem dX8_put_48 : decode cX8_put 48 = .ok (.getfield 25, 3) := by decide +kernel
theorem dX8_put_51 : decode cX8_put 51 = .ok (.iload_n 1, 1) := by decide +kernel
theorem dX8_put_52 : decode cX8_put 52 = .ok (.iaload, 1) := by decide +kernel
theorem dX8_put_53 : decode cX8_put 53 = .ok (.ifCond .ne 8, 3) := by decide +kernel
theorem dX8_put_56 : decode cX8_put 56 = .ok (.iload_n 3, 1) := by decide +kernel
theorem dX8_put_57 : decode cX8_put 57 = .ok (.i2b, 1) := by decide +kernel
theorem dX8_put_58 : decode cX8_put 58 = .ok (.goto 19, 3) := by decide +kernel
theorem dX8_put_61 : decode cX8_put 61 = .ok (.aload_n 0, 1) := by decide +kernel
theorem dX8_put_62 : decode cX8_put 62 = .ok (.getfield 25, 3) := by decide +kernel
theorem dX8_put_65 : decode cX8_put 65 = .ok (.iload_n 1, 1) := by decide +kernel
theorem dX8_put_66 : decode cX8_put 66 = .ok (.iaload, 1) := by decide +kernel
theorem dX8_put_67 : decode cX8_put 67 = .ok (.iconst 1, 1) := by decide +kernel
theorem dX8_put_68 : decode cX8_put 68 = .ok (.if_icmp .ne 8, 3) := by decide +kernel
theorem dX8_put_71 : decode cX8_put 71 = .ok (.iload_n 3, 1) := by decide +kernel
theorem dX8_put_72 : decode cX8_put 72 = .ok (.i2s, 1) := by decide +kernel
theorem dX8_put_73 : decode cX8_put 73 = .ok (.goto 4, 3) := by decide +kernel
theorem dX8_put_76 : decode cX8_put 76 = .ok (.iload_n 3, 1) := by decide +kernel
theorem dX8_put_77 : decode cX8_put 77 = .ok (.iastore, 1) := by decide +kernel
theorem dX8_put_78 : decode cX8_put 78 = .ok (.iconst 0, 1) := by decide +kernel
theorem dX8_put_79 : decode cX8_put 79 = .ok (.ireturn, 1) := by decide +kernel
theorem dX8_element_0 : decode cX8_element 0 = .ok (.aload_n 0, 1) := by decide +kernel
theorem dX8_element_1 : decode cX8_element 1 = .ok (.iload_n 1, 1) := by decide +kernel
theorem dX8_element_2 : decode cX8_element 2 = .ok (.invokestatic 111, 3) := by decide +kernel
theorem dX8_element_5 : decode cX8_element 5 = .ok (.ifCond .ne 7, 3) := by decide +kernel
theorem dX8_element_8 : decode cX8_element 8 = .ok (.iconst 1, 1) := by decide +kernel
theorem dX8_element_9 : decode cX8_element 9 = .ok (.goto 36, 3) := by decide +kernel
theorem dX8_element_12 : decode cX8_element 12 = .ok (.aload_n 0, 1) := by decide +kernel
theorem dX8_element_13 : decode cX8_element 13 = .ok (.getfield 22, 3) := by decide +kernel
theorem dX8_element_16 : decode cX8_element 16 = .ok (.iload_n 1, 1) := by decide +kernel
theorem dX8_element_17 : decode cX8_element 17 = .ok (.iaload, 1) := by decide +kernel
theorem dX8_element_18 : decode cX8_element 18 = .ok (.iconst 2, 1) := by decide +kernel
theorem dX8_element_19 : decode cX8_element 19 = .ok (.if_icmp .ne 21, 3) := by decide +kernel
theorem dX8_element_22 : decode cX8_element 22 = .ok (.iload_n 2, 1) := by decide +kernel
theorem dX8_element_23 : decode cX8_element 23 = .ok (.i2l, 1) := by decide +kernel
theorem dX8_element_24 : decode cX8_element 24 = .ok (.lconst 0, 1) := by decide +kernel
theorem dX8_element_25 : decode cX8_element 25 = .ok (.aload_n 0, 1) := by decide +kernel
theorem dX8_element_26 : decode cX8_element 26 = .ok (.getfield 28, 3) := by decide +kernel
theorem dX8_element_29 : decode cX8_element 29 = .ok (.iload_n 1, 1) := by decide +kernel
theorem dX8_element_30 : decode cX8_element 30 = .ok (.iaload, 1) := by decide +kernel
theorem dX8_element_31 : decode cX8_element 31 = .ok (.iconst 1, 1) := by decide +kernel
theorem dX8_element_32 : decode cX8_element 32 = .ok (.isub, 1) := by decide +kernel
theorem dX8_element_33 : decode cX8_element 33 = .ok (.i2l, 1) := by decide +kernel
theorem dX8_element_34 : decode cX8_element 34 = .ok (.invokestatic 53, 3) := by decide +kernel
theorem dX8_element_37 : decode cX8_element 37 = .ok (.ifCond .ne 7, 3) := by decide +kernel
theorem dX8_element_40 : decode cX8_element 40 = .ok (.iconst 2, 1) := by decide +kernel
theorem dX8_element_41 : decode cX8_element 41 = .ok (.goto 4, 3) := by decide +kernel
theorem dX8_element_44 : decode cX8_element 44 = .ok (.iconst 0, 1) := by decide +kernel
theorem dX8_element_45 : decode cX8_element 45 = .ok (.putfield 49, 3) := by decide +kernel
theorem dX8_element_48 : decode cX8_element 48 = .ok (.aload_n 0, 1) := by decide +kernel
theorem dX8_element_49 : decode cX8_element 49 = .ok (.getfield 49, 3) := by decide +kernel
theorem dX8_element_52 : decode cX8_element 52 = .ok (.ifCond .ne 18, 3) := by decide +kernel
theorem dX8_element_55 : decode cX8_element 55 = .ok (.aload_n 0, 1) := by decide +kernel
theorem dX8_element_56 : decode cX8_element 56 = .ok (.getfield 31, 3) := by decide +kernel
theorem dX8_element_59 : decode cX8_element 59 = .ok (.bipush 100, 2) := by decide +kernel
theorem dX8_element_61 : decode cX8_element 61 = .ok (.iload_n 1, 1) := by decide +kernel
theorem dX8_element_62 : decode cX8_element 62 = .ok (.imul, 1) := by decide +kernel
theorem dX8_element_63 : decode cX8_element 63 = .ok (.iload_n 2, 1) := by decide +kernel
theorem dX8_element_64 : decode cX8_element 64 = .ok (.iadd, 1) := by decide +kernel
theorem dX8_element_65 : decode cX8_element 65 = .ok (.iaload, 1) := by decide +kernel
theorem dX8_element_66 : decode cX8_element 66 = .ok (.i2l, 1) := by decide +kernel
theorem dX8_element_67 : decode cX8_element 67 = .ok (.goto 4, 3) := by decide +kernel
theorem dX8_element_70 : decode cX8_element 70 = .ok (.lconst 0, 1) := by decide +kernel
theorem dX8_element_71 : decode cX8_element 71 = .ok (.lreturn, 1) := by decide +kernel
theorem dX8_copy_0 : decode cX8_copy 0 = .ok (.iload_n 1, 1) := by decide +kernel
theorem dX8_copy_1 : decode cX8_copy 1 = .ok (.invokestatic 111, 3) := by decide +kernel
theorem dX8_copy_4 : decode cX8_copy 4 = .ok (.ifCond .eq 10, 3) := by decide +kernel
theorem dX8_copy_7 : decode cX8_copy 7 = .ok (.iload_n 3, 1) := by decide +kernel
theorem dX8_copy_8 : decode cX8_copy 8 = .ok (.invokestatic 111, 3) := by decide +kernel
theorem dX8_copy_11 : decode cX8_copy 11 = .ok (.ifCond .ne 5, 3) := by decide +kernel
theorem dX8_copy_14 : decode cX8_copy 14 = .ok (.iconst (-1), 1) := by decide +kernel
theorem dX8_copy_15 : decode cX8_copy 15 = .ok (.ireturn, 1) := by decide +kernel
theorem dX8_copy_16 : decode cX8_copy 16 = .ok (.aload_n 0, 1) := by decide +kernel
theorem dX8_copy_17 : decode cX8_copy 17 = .ok (.getfield 22, 3) := by decide +kernel
theorem dX8_copy_20 : decode cX8_copy 20 = .ok (.iload_n 1, 1) := by decide +kernel
theorem dX8_copy_21 : decode cX8_copy 21 = .ok (.iaload, 1) := by decide +kernel
theorem dX8_copy_22 : decode cX8_copy 22 = .ok (.ifCond .eq 12, 3) := by decide +kernel
theorem dX8_copy_25 : decode cX8_copy 25 = .ok (.aload_n 0, 1) := by decide +kernel
theorem dX8_copy_26 : decode cX8_copy 26 = .ok (.getfield 22, 3) := by decide +kernel
theorem dX8_copy_29 : decode cX8_copy 29 = .ok (.iload_n 3, 1) := by decide +kernel
theorem dX8_copy_30 : decode cX8_copy 30 = .ok (.iaload, 1) := by decide +kernel
theorem dX8_copy_31 : decode cX8_copy 31 = .ok (.ifCond .ne 6, 3) := by decide +kernel
theorem dX8_copy_34 : decode cX8_copy 34 = .ok (.bipush (-11), 2) := by decide +kernel
theorem dX8_copy_36 : decode cX8_copy 36 = .ok (.ireturn, 1) := by decide +kernel
theorem dX8_copy_37 : decode cX8_copy 37 = .ok (.aload_n 0, 1) := by decide +kernel
theorem dX8_copy_38 : decode cX8_copy 38 = .ok (.getfield 22, 3) := by decide +kernel
theorem dX8_copy_41 : decode cX8_copy 41 = .ok (.iload_n 1, 1) := by decide +kernel
theorem dX8_copy_42 : decode cX8_copy 42 = .ok (.iaload, 1) := by decide +kernel
theorem dX8_copy_43 : decode cX8_copy 43 = .ok (.iconst 2, 1) := by decide +kernel
theorem dX8_copy_44 : decode cX8_copy 44 = .ok (.if_icmp .ne 28, 3) := by decide +kernel
theorem dX8_copy_47 : decode cX8_copy 47 = .ok (.aload_n 0, 1) := by decide +kernel
theorem dX8_copy_48 : decode cX8_copy 48 = .ok (.getfield 22, 3) := by decide +kernel
theorem dX8_copy_51 : decode cX8_copy 51 = .ok (.iload_n 3, 1) := by decide +kernel
theorem dX8_copy_52 : decode cX8_copy 52 = .ok (.iaload, 1) := by decide +kernel
theorem dX8_copy_53 : decode cX8_copy 53 = .ok (.iconst 2, 1) := by decide +kernel
theorem dX8_copy_54 : decode cX8_copy 54 = .ok (.if_icmp .ne 18, 3) := by decide +kernel
theorem dX8_copy_57 : decode cX8_copy 57 = .ok (.aload_n 0, 1) := by decide +kernel
theorem dX8_copy_58 : decode cX8_copy 58 = .ok (.getfield 25, 3) := by decide +kernel
theorem dX8_copy_61 : decode cX8_copy 61 = .ok (.iload_n 1, 1) := by decide +kernel
theorem dX8_copy_62 : decode cX8_copy 62 = .ok (.iaload, 1) := by decide +kernel
theorem dX8_copy_63 : decode cX8_copy 63 = .ok (.aload_n 0, 1) := by decide +kernel
theorem dX8_copy_64 : decode cX8_copy 64 = .ok (.getfield 25, 3) := by decide +kernel
theorem dX8_copy_67 : decode cX8_copy 67 = .ok (.iload_n 3, 1) := by decide +kernel
theorem dX8_copy_68 : decode cX8_copy 68 = .ok (.iaload, 1) := by decide +kernel
theorem dX8_copy_69 : decode cX8_copy 69 = .ok (.if_icmp .eq 6, 3) := by decide +kernel
theorem dX8_copy_72 : decode cX8_copy 72 = .ok (.bipush (-12), 2) := by decide +kernel
theorem dX8_copy_74 : decode cX8_copy 74 = .ok (.ireturn, 1) := by decide +kernel
theorem dX8_copy_75 : decode cX8_copy 75 = .ok (.iload 5, 2) := by decide +kernel
theorem dX8_copy_77 : decode cX8_copy 77 = .ok (.ifCond .lt 39, 3) := by decide +kernel
theorem dX8_copy_80 : decode cX8_copy 80 = .ok (.iload_n 2, 1) := by decide +kernel
theorem dX8_copy_81 : decode cX8_copy 81 = .ok (.ifCond .lt 35, 3) := by decide +kernel
theorem dX8_copy_84 : decode cX8_copy 84 = .ok (.iload 4, 2) := by decide +kernel
theorem dX8_copy_86 : decode cX8_copy 86 = .ok (.ifCond .lt 30, 3) := by decide +kernel
theorem dX8_copy_89 : decode cX8_copy 89 = .ok (.iload 5, 2) := by decide +kernel
theorem dX8_copy_91 : decode cX8_copy 91 = .ok (.aload_n 0, 1) := by decide +kernel
theorem dX8_copy_92 : decode cX8_copy 92 = .ok (.getfield 28, 3) := by decide +kernel
theorem dX8_copy_95 : decode cX8_copy 95 = .ok (.iload_n 1, 1) := by decide +kernel
theorem dX8_copy_96 : decode cX8_copy 96 = .ok (.iaload, 1) := by decide +kernel
theorem dX8_copy_97 : decode cX8_copy 97 = .ok (.iload_n 2, 1) := by decide +kernel
theorem dX8_copy_98 : decode cX8_copy 98 = .ok (.isub, 1) := by decide +kernel
theorem dX8_copy_99 : decode cX8_copy 99 = .ok (.if_icmp .gt 17, 3) := by decide +kernel
theorem dX8_copy_102 : decode cX8_copy 102 = .ok (.iload 5, 2) := by decide +kernel
theorem dX8_copy_104 : decode cX8_copy 104 = .ok (.aload_n 0, 1) := by decide +kernel
theorem dX8_copy_105 : decode cX8_copy 105 = .ok (.getfield 28, 3) := by decide +kernel
theorem dX8_copy_108 : decode cX8_copy 108 = .ok (.iload_n 3, 1) := by decide +kernel
theorem dX8_copy_109 : decode cX8_copy 109 = .ok (.iaload, 1) := by decide +kernel
theorem dX8_copy_110 : decode cX8_copy 110 = .ok (.iload 4, 2) := by decide +kernel
theorem dX8_copy_112 : decode cX8_copy 112 = .ok (.isub, 1) := by decide +kernel
theorem dX8_copy_113 : decode cX8_copy 113 = .ok (.if_icmp .le 6, 3) := by decide +kernel
theorem dX8_copy_116 : decode cX8_copy 116 = .ok (.bipush (-13), 2) := by decide +kernel
theorem dX8_copy_118 : decode cX8_copy 118 = .ok (.ireturn, 1) := by decide +kernel
theorem dX8_copy_119 : decode cX8_copy 119 = .ok (.iconst 0, 1) := by decide +kernel
theorem dX8_copy_120 : decode cX8_copy 120 = .ok (.istore 6, 2) := by decide +kernel
theorem dX8_copy_122 : decode cX8_copy 122 = .ok (.iload 6, 2) := by decide +kernel
theorem dX8_copy_124 : decode cX8_copy 124 = .ok (.iload 5, 2) := by decide +kernel
theorem dX8_copy_126 : decode cX8_copy 126 = .ok (.if_icmp .ge 58, 3) := by decide +kernel
theorem dX8_copy_129 : decode cX8_copy 129 = .ok (.iload_n 2, 1) := by decide +kernel
theorem dX8_copy_130 : decode cX8_copy 130 = .ok (.iload 4, 2) := by decide +kernel
theorem dX8_copy_132 : decode cX8_copy 132 = .ok (.if_icmp .le 8, 3) := by decide +kernel
theorem dX8_copy_135 : decode cX8_copy 135 = .ok (.iload 6, 2) := by decide +kernel
theorem dX8_copy_137 : decode cX8_copy 137 = .ok (.goto 10, 3) := by decide +kernel
theorem dX8_copy_140 : decode cX8_copy 140 = .ok (.iload 5, 2) := by decide +kernel
theorem dX8_copy_142 : decode cX8_copy 142 = .ok (.iconst 1, 1) := by decide +kernel
theorem dX8_copy_143 : decode cX8_copy 143 = .ok (.isub, 1) := by decide +kernel
theorem dX8_copy_144 : decode cX8_copy 144 = .ok (.iload 6, 2) := by decide +kernel
theorem dX8_copy_146 : decode cX8_copy 146 = .ok (.isub, 1) := by decide +kernel
theorem dX8_copy_147 : decode cX8_copy 147 = .ok (.istore 7, 2) := by decide +kernel
theorem dX8_copy_149 : decode cX8_copy 149 = .ok (.aload_n 0, 1) := by decide +kernel
theorem dX8_copy_150 : decode cX8_copy 150 = .ok (.getfield 31, 3) := by decide +kernel
theorem dX8_copy_153 : decode cX8_copy 153 = .ok (.bipush 100, 2) := by decide +kernel
theorem dX8_copy_155 : decode cX8_copy 155 = .ok (.iload_n 3, 1) := by decide +kernel
theorem dX8_copy_156 : decode cX8_copy 156 = .ok (.imul, 1) := by decide +kernel
theorem dX8_copy_157 : decode cX8_copy 157 = .ok (.iload 4, 2) := by decide +kernel
theorem dX8_copy_159 : decode cX8_copy 159 = .ok (.iadd, 1) := by decide +kernel
theorem dX8_copy_160 : decode cX8_copy 160 = .ok (.iload 7, 2) := by decide +kernel
theorem dX8_copy_162 : decode cX8_copy 162 = .ok (.iadd, 1) := by decide +kernel
theorem dX8_copy_163 : decode cX8_copy 163 = .ok (.aload_n 0, 1) := by decide +kernel
theorem dX8_copy_164 : decode cX8_copy 164 = .ok (.getfield 31, 3) := by decide +kernel
theorem dX8_copy_167 : decode cX8_copy 167 = .ok (.bipush 100, 2) := by decide +kernel
theorem dX8_copy_169 : decode cX8_copy 169 = .ok (.iload_n 1, 1) := by decide +kernel
theorem dX8_copy_170 : decode cX8_copy 170 = .ok (.imul, 1) := by decide +kernel
theorem dX8_copy_171 : decode cX8_copy 171 = .ok (.iload_n 2, 1) := by decide +kernel
theorem dX8_copy_172 : decode cX8_copy 172 = .ok (.iadd, 1) := by decide +kernel
theorem dX8_copy_173 : decode cX8_copy 173 = .ok (.iload 7, 2) := by decide +kernel
theorem dX8_copy_175 : decode cX8_copy 175 = .ok (.iadd, 1) := by decide +kernel
theorem dX8_copy_176 : decode cX8_copy 176 = .ok (.iaload, 1) := by decide +kernel
theorem dX8_copy_177 : decode cX8_copy 177 = .ok (.iastore, 1) := by decide +kernel
theorem dX8_copy_178 : decode cX8_copy 178 = .ok (.iinc 6 1, 3) := by decide +kernel
theorem dX8_copy_181 : decode cX8_copy 181 = .ok (.goto (-59), 3) := by decide +kernel
theorem dX8_copy_184 : decode cX8_copy 184 = .ok (.iload 5, 2) := by decide +kernel
theorem dX8_copy_186 : decode cX8_copy 186 = .ok (.ireturn, 1) := by decide +kernel
theorem dX8_wrongKept_0 : decode cX8_wrongKept 0 = .ok (.iload_n 1, 1) := by decide +kernel
theorem dX8_wrongKept_1 : decode cX8_wrongKept 1 = .ok (.invokestatic 111, 3) := by decide +kernel
theorem dX8_wrongKept_4 : decode cX8_wrongKept 4 = .ok (.ifCond .ne 7, 3) := by decide +kernel
theorem dX8_wrongKept_7 : decode cX8_wrongKept 7 = .ok (.iconst (-1), 1) := by decide +kernel
theorem dX8_wrongKept_8 : decode cX8_wrongKept 8 = .ok (.goto 33, 3) := by decide +kernel
theorem dX8_wrongKept_11 : decode cX8_wrongKept 11 = .ok (.aload_n 0, 1) := by decide +kernel
theorem dX8_wrongKept_12 : decode cX8_wrongKept 12 = .ok (.getfield 22, 3) := by decide +kernel
theorem dX8_wrongKept_15 : decode cX8_wrongKept 15 = .ok (.iload_n 1, 1) := by decide +kernel
theorem dX8_wrongKept_16 : decode cX8_wrongKept 16 = .ok (.iaload, 1) := by decide +kernel
theorem dX8_wrongKept_17 : decode cX8_wrongKept 17 = .ok (.ifCond .ne 8, 3) := by decide +kernel
theorem dX8_wrongKept_20 : decode cX8_wrongKept 20 = .ok (.bipush (-11), 2) := by decide +kernel
theorem dX8_wrongKept_22 : decode cX8_wrongKept 22 = .ok (.goto 19, 3) := by decide +kernel
theorem dX8_wrongKept_25 : decode cX8_wrongKept 25 = .ok (.aload_n 0, 1) := by decide +kernel
theorem dX8_wrongKept_26 : decode cX8_wrongKept 26 = .ok (.getfield 22, 3) := by decide +kernel
theorem dX8_wrongKept_29 : decode cX8_wrongKept 29 = .ok (.iload_n 1, 1) := by decide +kernel
theorem dX8_wrongKept_30 : decode cX8_wrongKept 30 = .ok (.iaload, 1) := by decide +kernel
theorem dX8_wrongKept_31 : decode cX8_wrongKept 31 = .ok (.iconst 1, 1) := by decide +kernel
theorem dX8_wrongKept_32 : decode cX8_wrongKept 32 = .ok (.if_icmp .ne 7, 3) := by decide +kernel
theorem dX8_wrongKept_35 : decode cX8_wrongKept 35 = .ok (.iconst 0, 1) := by decide +kernel
theorem dX8_wrongKept_36 : decode cX8_wrongKept 36 = .ok (.goto 5, 3) := by decide +kernel
theorem dX8_wrongKept_39 : decode cX8_wrongKept 39 = .ok (.bipush (-12), 2) := by decide +kernel
theorem dX8_wrongKept_41 : decode cX8_wrongKept 41 = .ok (.ireturn, 1) := by decide +kernel
theorem dX8_price_0 : decode cX8_price 0 = .ok (.aload_n 0, 1) := by decide +kernel
theorem dX8_price_1 : decode cX8_price 1 = .ok (.iload_n 1, 1) := by decide +kernel
theorem dX8_price_2 : decode cX8_price 2 = .ok (.invokevirtual 263, 3) := by decide +kernel
theorem dX8_price_5 : decode cX8_price 5 = .ok (.istore_n 2, 1) := by decide +kernel
theorem dX8_price_6 : decode cX8_price 6 = .ok (.iload_n 2, 1) := by decide +kernel
theorem dX8_price_7 : decode cX8_price 7 = .ok (.ifCond .eq 7, 3) := by decide +kernel
theorem dX8_price_10 : decode cX8_price 10 = .ok (.iload_n 2, 1) := by decide +kernel
theorem dX8_price_11 : decode cX8_price 11 = .ok (.goto 9, 3) := by decide +kernel
theorem dX8_price_14 : decode cX8_price 14 = .ok (.aload_n 0, 1) := by decide +kernel
theorem dX8_price_15 : decode cX8_price 15 = .ok (.getfield 34, 3) := by decide +kernel
theorem dX8_price_18 : decode cX8_price 18 = .ok (.iload_n 1, 1) := by decide +kernel
theorem dX8_price_19 : decode cX8_price 19 = .ok (.iaload, 1) := by decide +kernel
theorem dX8_price_20 : decode cX8_price 20 = .ok (.ireturn, 1) := by decide +kernel
theorem dX8_toss_0 : decode cX8_toss 0 = .ok (.aload_n 0, 1) := by decide +kernel
theorem dX8_toss_1 : decode cX8_toss 1 = .ok (.iload_n 1, 1) := by decide +kernel
theorem dX8_toss_2 : decode cX8_toss 2 = .ok (.invokevirtual 263, 3) := by decide +kernel
theorem dX8_toss_5 : decode cX8_toss 5 = .ok (.istore_n 2, 1) := by decide +kernel
theorem dX8_toss_6 : decode cX8_toss 6 = .ok (.iload_n 2, 1) := by decide +kernel
theorem dX8_toss_7 : decode cX8_toss 7 = .ok (.ifCond .eq 7, 3) := by decide +kernel
theorem dX8_toss_10 : decode cX8_toss 10 = .ok (.iload_n 2, 1) := by decide +kernel
theorem dX8_toss_11 : decode cX8_toss 11 = .ok (.goto 9, 3) := by decide +kernel
theorem dX8_toss_14 : decode cX8_toss 14 = .ok (.aload_n 0, 1) := by decide +kernel
theorem dX8_toss_15 : decode cX8_toss 15 = .ok (.getfield 37, 3) := by decide +kernel
theorem dX8_toss_18 : decode cX8_toss 18 = .ok (.iload_n 1, 1) := by decide +kernel
theorem dX8_toss_19 : decode cX8_toss 19 = .ok (.iaload, 1) := by decide +kernel
theorem dX8_toss_20 : decode cX8_toss 20 = .ok (.ireturn, 1) := by decide +kernel
