theorem dX0_init_0 : decode cX0_init 0 = .ok (.aload_n 0, 1) := by decide +kernel
theorem dX0_init_1 : decode cX0_init 1 = .ok (.invokespecial 1, 3) := by decide +kernel
theorem dX0_init_4 : decode cX0_init 4 = .ok (.aload_n 0, 1) := by decide +kernel
theorem dX0_init_5 : decode cX0_init 5 = .ok (.iload_n 1, 1) := by decide +kernel
theorem dX0_init_6 : decode cX0_init 6 = .ok (.putfield 7, 3) := by decide +kernel
theorem dX0_init_9 : decode cX0_init 9 = .ok (.aload_n 0, 1) := by decide +kernel
theorem dX0_init_10 : decode cX0_init 10 = .ok (.iload_n 2, 1) := by decide +kernel
theorem dX0_init_11 : decode cX0_init 11 = .ok (.putfield 13, 3) := by decide +kernel
theorem dX0_init_14 : decode cX0_init 14 = .ok (.aload_n 0, 1) := by decide +kernel
theorem dX0_init_15 : decode cX0_init 15 = .ok (.iload_n 3, 1) := by decide +kernel
theorem dX0_init_16 : decode cX0_init 16 = .ok (.putfield 16, 3) := by decide +kernel
theorem dX0_init_19 : decode cX0_init 19 = .ok (.aload_n 0, 1) := by decide +kernel
theorem dX0_init_20 : decode cX0_init 20 = .ok (.iload 4, 2) := by decide +kernel
theorem dX0_init_22 : decode cX0_init 22 = .ok (.putfield 20, 3) := by decide +kernel
theorem dX0_init_25 : decode cX0_init 25 = .ok (.aload_n 0, 1) := by decide +kernel
theorem dX0_init_26 : decode cX0_init 26 = .ok (.aload 5, 2) := by decide +kernel
theorem dX0_init_28 : decode cX0_init 28 = .ok (.putfield 23, 3) := by decide +kernel
theorem dX0_init_31 : decode cX0_init 31 = .ok (.return_, 1) := by decide +kernel
theorem dX0_isFit_0 : decode cX0_isFit 0 = .ok (.aload_n 0, 1) := by decide +kernel
theorem dX0_isFit_1 : decode cX0_isFit 1 = .ok (.getfield 20, 3) := by decide +kernel
theorem dX0_isFit_4 : decode cX0_isFit 4 = .ok (.iload_n 1, 1) := by decide +kernel
theorem dX0_isFit_5 : decode cX0_isFit 5 = .ok (.iand, 1) := by decide +kernel
theorem dX0_isFit_6 : decode cX0_isFit 6 = .ok (.ifCond .eq 7, 3) := by decide +kernel
theorem dX0_isFit_9 : decode cX0_isFit 9 = .ok (.iconst 1, 1) := by decide +kernel
theorem dX0_isFit_10 : decode cX0_isFit 10 = .ok (.goto 4, 3) := by decide +kernel
theorem dX0_isFit_13 : decode cX0_isFit 13 = .ok (.iconst 0, 1) := by decide +kernel
theorem dX0_isFit_14 : decode cX0_isFit 14 = .ok (.aload_n 0, 1) := by decide +kernel
theorem dX0_isFit_15 : decode cX0_isFit 15 = .ok (.getfield 16, 3) := by decide +kernel
theorem dX0_isFit_18 : decode cX0_isFit 18 = .ok (.if_icmp .ne 7, 3) := by decide +kernel
theorem dX0_isFit_21 : decode cX0_isFit 21 = .ok (.iconst 1, 1) := by decide +kernel
theorem dX0_isFit_22 : decode cX0_isFit 22 = .ok (.goto 4, 3) := by decide +kernel
theorem dX0_isFit_25 : decode cX0_isFit 25 = .ok (.iconst 0, 1) := by decide +kernel
theorem dX0_isFit_26 : decode cX0_isFit 26 = .ok (.ireturn, 1) := by decide +kernel
theorem dX1_init_0 : decode cX1_init 0 = .ok (.aload_n 0, 1) := by decide +kernel
theorem dX1_init_1 : decode cX1_init 1 = .ok (.invokespecial 3, 3) := by decide +kernel
theorem dX1_init_4 : decode cX1_init 4 = .ok (.aload_n 0, 1) := by decide +kernel
theorem dX1_init_5 : decode cX1_init 5 = .ok (.new 9, 3) := by decide +kernel
theorem dX1_init_8 : decode cX1_init 8 = .ok (.dup, 1) := by decide +kernel
theorem dX1_init_9 : decode cX1_init 9 = .ok (.invokespecial 11, 3) := by decide +kernel
theorem dX1_init_12 : decode cX1_init 12 = .ok (.putfield 12, 3) := by decide +kernel
theorem dX1_init_15 : decode cX1_init 15 = .ok (.aload_n 0, 1) := by decide +kernel
theorem dX1_init_16 : decode cX1_init 16 = .ok (.bipush 10, 2) := by decide +kernel
theorem dX1_init_18 : decode cX1_init 18 = .ok (.anewarray 18, 3) := by decide +kernel
theorem dX1_init_21 : decode cX1_init 21 = .ok (.putfield 20, 3) := by decide +kernel
theorem dX1_init_24 : decode cX1_init 24 = .ok (.aload_n 0, 1) := by decide +kernel
theorem dX1_init_25 : decode cX1_init 25 = .ok (.bipush 7, 2) := by decide +kernel
theorem dX1_init_27 : decode cX1_init 27 = .ok (.anewarray 24, 3) := by decide +kernel
theorem dX1_init_30 : decode cX1_init 30 = .ok (.putfield 26, 3) := by decide +kernel
theorem dX1_init_33 : decode cX1_init 33 = .ok (.aload_n 0, 1) := by decide +kernel
theorem dX1_init_34 : decode cX1_init 34 = .ok (.bipush 24, 2) := by decide +kernel
theorem dX1_init_36 : decode cX1_init 36 = .ok (.anewarray 30, 3) := by decide +kernel
theorem dX1_init_39 : decode cX1_init 39 = .ok (.putfield 32, 3) := by decide +kernel
theorem dX1_init_42 : decode cX1_init 42 = .ok (.aload_n 0, 1) := by decide +kernel
theorem dX1_init_43 : decode cX1_init 43 = .ok (.bipush 10, 2) := by decide +kernel
theorem dX1_init_45 : decode cX1_init 45 = .ok (.newarray .int, 2) := by decide +kernel
theorem dX1_init_47 : decode cX1_init 47 = .ok (.putfield 36, 3) := by decide +kernel
theorem dX1_init_50 : decode cX1_init 50 = .ok (.return_, 1) := by decide +kernel
theorem dX1_become_0 : decode cX1_become 0 = .ok (.aload_n 0, 1) := by decide +kernel
theorem dX1_become_1 : decode cX1_become 1 = .ok (.aload_n 1, 1) := by decide +kernel
theorem dX1_become_2 : decode cX1_become 2 = .ok (.getfield 40, 3) := by decide +kernel
theorem dX1_become_5 : decode cX1_become 5 = .ok (.putfield 40, 3) := by decide +kernel
theorem dX1_become_8 : decode cX1_become 8 = .ok (.aload_n 0, 1) := by decide +kernel
theorem dX1_become_9 : decode cX1_become 9 = .ok (.aload_n 1, 1) := by decide +kernel
theorem dX1_become_10 : decode cX1_become 10 = .ok (.getfield 44, 3) := by decide +kernel
theorem dX1_become_13 : decode cX1_become 13 = .ok (.putfield 44, 3) := by decide +kernel
theorem dX1_become_16 : decode cX1_become 16 = .ok (.aload_n 0, 1) := by decide +kernel
theorem dX1_become_17 : decode cX1_become 17 = .ok (.aload_n 1, 1) := by decide +kernel
theorem dX1_become_18 : decode cX1_become 18 = .ok (.getfield 47, 3) := by decide +kernel
theorem dX1_become_21 : decode cX1_become 21 = .ok (.putfield 47, 3) := by decide +kernel
theorem dX1_become_24 : decode cX1_become 24 = .ok (.aload_n 0, 1) := by decide +kernel
theorem dX1_become_25 : decode cX1_become 25 = .ok (.getfield 12, 3) := by decide +kernel
theorem dX1_become_28 : decode cX1_become 28 = .ok (.aload_n 1, 1) := by decide +kernel
theorem dX1_become_29 : decode cX1_become 29 = .ok (.getfield 12, 3) := by decide +kernel
theorem dX1_become_32 : decode cX1_become 32 = .ok (.invokevirtual 50, 3) := by decide +kernel
theorem dX1_become_35 : decode cX1_become 35 = .ok (.iconst 0, 1) := by decide +kernel
theorem dX1_become_36 : decode cX1_become 36 = .ok (.istore_n 2, 1) := by decide +kernel
theorem dX1_become_37 : decode cX1_become 37 = .ok (.iload_n 2, 1) := by decide +kernel
theorem dX1_become_38 : decode cX1_become 38 = .ok (.bipush 10, 2) := by decide +kernel
theorem dX1_become_40 : decode cX1_become 40 = .ok (.if_icmp .ge 21, 3) := by decide +kernel
theorem dX1_become_43 : decode cX1_become 43 = .ok (.aload_n 0, 1) := by decide +kernel
theorem dX1_become_44 : decode cX1_become 44 = .ok (.getfield 20, 3) := by decide +kernel
theorem dX1_become_47 : decode cX1_become 47 = .ok (.iload_n 2, 1) := by decide +kernel
theorem dX1_become_48 : decode cX1_become 48 = .ok (.aload_n 1, 1) := by decide +kernel
theorem dX1_become_49 : decode cX1_become 49 = .ok (.getfield 20, 3) := by decide +kernel
theorem dX1_become_52 : decode cX1_become 52 = .ok (.iload_n 2, 1) := by decide +kernel
theorem dX1_become_53 : decode cX1_become 53 = .ok (.aaload, 1) := by decide +kernel
theorem dX1_become_54 : decode cX1_become 54 = .ok (.aastore, 1) := by decide +kernel
theorem dX1_become_55 : decode cX1_become 55 = .ok (.iinc 2 1, 3) := by decide +kernel
theorem dX1_become_58 : decode cX1_become 58 = .ok (.goto (-21), 3) := by decide +kernel
theorem dX1_become_61 : decode cX1_become 61 = .ok (.iconst 0, 1) := by decide +kernel
theorem dX1_become_62 : decode cX1_become 62 = .ok (.istore_n 2, 1) := by decide +kernel
theorem dX1_become_63 : decode cX1_become 63 = .ok (.iload_n 2, 1) := by decide +kernel
theorem dX1_become_64 : decode cX1_become 64 = .ok (.bipush 7, 2) := by decide +kernel
theorem dX1_become_66 : decode cX1_become 66 = .ok (.if_icmp .ge 21, 3) := by decide +kernel
theorem dX1_become_69 : decode cX1_become 69 = .ok (.aload_n 0, 1) := by decide +kernel
theorem dX1_become_70 : decode cX1_become 70 = .ok (.getfield 26, 3) := by decide +kernel
theorem dX1_become_73 : decode cX1_become 73 = .ok (.iload_n 2, 1) := by decide +kernel
theorem dX1_become_74 : decode cX1_become 74 = .ok (.aload_n 1, 1) := by decide +kernel
theorem dX1_become_75 : decode cX1_become 75 = .ok (.getfield 26, 3) := by decide +kernel
theorem dX1_become_78 : decode cX1_become 78 = .ok (.iload_n 2, 1) := by decide +kernel
theorem dX1_become_79 : decode cX1_become 79 = .ok (.aaload, 1) := by decide +kernel
theorem dX1_become_80 : decode cX1_become 80 = .ok (.aastore, 1) := by decide +kernel
theorem dX1_become_81 : decode cX1_become 81 = .ok (.iinc 2 1, 3) := by decide +kernel
theorem dX1_become_84 : decode cX1_become 84 = .ok (.goto (-21), 3) := by decide +kernel
theorem dX1_become_87 : decode cX1_become 87 = .ok (.iconst 0, 1) := by decide +kernel
theorem dX1_become_88 : decode cX1_become 88 = .ok (.istore_n 2, 1) := by decide +kernel
theorem dX1_become_89 : decode cX1_become 89 = .ok (.iload_n 2, 1) := by decide +kernel
theorem dX1_become_90 : decode cX1_become 90 = .ok (.bipush 24, 2) := by decide +kernel
theorem dX1_become_92 : decode cX1_become 92 = .ok (.if_icmp .ge 21, 3) := by decide +kernel
theorem dX1_become_95 : decode cX1_become 95 = .ok (.aload_n 0, 1) := by decide +kernel
theorem dX1_become_96 : decode cX1_become 96 = .ok (.getfield 32, 3) := by decide +kernel
theorem dX1_become_99 : decode cX1_become 99 = .ok (.iload_n 2, 1) := by decide +kernel
theorem dX1_become_100 : decode cX1_become 100 = .ok (.aload_n 1, 1) := by decide +kernel
theorem dX1_become_101 : decode cX1_become 101 = .ok (.getfield 32, 3) := by decide +kernel
theorem dX1_become_104 : decode cX1_become 104 = .ok (.iload_n 2, 1) := by decide +kernel
theorem dX1_become_105 : decode cX1_become 105 = .ok (.aaload, 1) := by decide +kernel
theorem dX1_become_106 : decode cX1_become 106 = .ok (.aastore, 1) := by decide +kernel
theorem dX1_become_107 : decode cX1_become 107 = .ok (.iinc 2 1, 3) := by decide +kernel
theorem dX1_become_110 : decode cX1_become 110 = .ok (.goto (-21), 3) := by decide +kernel
theorem dX1_become_113 : decode cX1_become 113 = .ok (.return_, 1) := by decide +kernel
theorem dX1_isPiece_0 : decode cX1_isPiece 0 = .ok (.iload_n 1, 1) := by decide +kernel
theorem dX1_isPiece_1 : decode cX1_isPiece 1 = .ok (.ifCond .lt 21, 3) := by decide +kernel
theorem dX1_isPiece_4 : decode cX1_isPiece 4 = .ok (.iload_n 1, 1) := by decide +kernel
theorem dX1_isPiece_5 : decode cX1_isPiece 5 = .ok (.aload_n 0, 1) := by decide +kernel
theorem dX1_isPiece_6 : decode cX1_isPiece 6 = .ok (.getfield 40, 3) := by decide +kernel
theorem dX1_isPiece_9 : decode cX1_isPiece 9 = .ok (.if_icmp .ge 13, 3) := by decide +kernel
theorem dX1_isPiece_12 : decode cX1_isPiece 12 = .ok (.iload_n 1, 1) := by decide +kernel
theorem dX1_isPiece_13 : decode cX1_isPiece 13 = .ok (.bipush 10, 2) := by decide +kernel
theorem dX1_isPiece_15 : decode cX1_isPiece 15 = .ok (.if_icmp .ge 7, 3) := by decide +kernel
theorem dX1_isPiece_18 : decode cX1_isPiece 18 = .ok (.iconst 1, 1) := by decide +kernel
theorem dX1_isPiece_19 : decode cX1_isPiece 19 = .ok (.goto 4, 3) := by decide +kernel
theorem dX1_isPiece_22 : decode cX1_isPiece 22 = .ok (.iconst 0, 1) := by decide +kernel
theorem dX1_isPiece_23 : decode cX1_isPiece 23 = .ok (.ireturn, 1) := by decide +kernel
theorem dX1_isThing_0 : decode cX1_isThing 0 = .ok (.iload_n 1, 1) := by decide +kernel
theorem dX1_isThing_1 : decode cX1_isThing 1 = .ok (.ifCond .lt 21, 3) := by decide +kernel
theorem dX1_isThing_4 : decode cX1_isThing 4 = .ok (.iload_n 1, 1) := by decide +kernel
theorem dX1_isThing_5 : decode cX1_isThing 5 = .ok (.aload_n 0, 1) := by decide +kernel
theorem dX1_isThing_6 : decode cX1_isThing 6 = .ok (.getfield 44, 3) := by decide +kernel
theorem dX1_isThing_9 : decode cX1_isThing 9 = .ok (.if_icmp .ge 13, 3) := by decide +kernel
theorem dX1_isThing_12 : decode cX1_isThing 12 = .ok (.iload_n 1, 1) := by decide +kernel
theorem dX1_isThing_13 : decode cX1_isThing 13 = .ok (.bipush 7, 2) := by decide +kernel
theorem dX1_isThing_15 : decode cX1_isThing 15 = .ok (.if_icmp .ge 7, 3) := by decide +kernel
theorem dX1_isThing_18 : decode cX1_isThing 18 = .ok (.iconst 1, 1) := by decide +kernel
theorem dX1_isThing_19 : decode cX1_isThing 19 = .ok (.goto 4, 3) := by decide +kernel
theorem dX1_isThing_22 : decode cX1_isThing 22 = .ok (.iconst 0, 1) := by decide +kernel
theorem dX1_isThing_23 : decode cX1_isThing 23 = .ok (.ireturn, 1) := by decide +kernel
theorem dX1_pieceAt_0 : decode cX1_pieceAt 0 = .ok (.aload_n 0, 1) := by decide +kernel
theorem dX1_pieceAt_1 : decode cX1_pieceAt 1 = .ok (.iload_n 1, 1) := by decide +kernel
theorem dX1_pieceAt_2 : decode cX1_pieceAt 2 = .ok (.invokevirtual 54, 3) := by decide +kernel
theorem dX1_pieceAt_5 : decode cX1_pieceAt 5 = .ok (.ifCond .eq 12, 3) := by decide +kernel
theorem dX1_pieceAt_8 : decode cX1_pieceAt 8 = .ok (.aload_n 0, 1) := by decide +kernel
theorem dX1_pieceAt_9 : decode cX1_pieceAt 9 = .ok (.getfield 20, 3) := by decide +kernel
theorem dX1_pieceAt_12 : decode cX1_pieceAt 12 = .ok (.iload_n 1, 1) := by decide +kernel
theorem dX1_pieceAt_13 : decode cX1_pieceAt 13 = .ok (.aaload, 1) := by decide +kernel
theorem dX1_pieceAt_14 : decode cX1_pieceAt 14 = .ok (.goto 4, 3) := by decide +kernel
theorem dX1_pieceAt_17 : decode cX1_pieceAt 17 = .ok (.aconst_null, 1) := by decide +kernel
theorem dX1_pieceAt_18 : decode cX1_pieceAt 18 = .ok (.areturn, 1) := by decide +kernel
theorem dX1_thingAt_0 : decode cX1_thingAt 0 = .ok (.aload_n 0, 1) := by decide +kernel
theorem dX1_thingAt_1 : decode cX1_thingAt 1 = .ok (.iload_n 1, 1) := by decide +kernel
theorem dX1_thingAt_2 : decode cX1_thingAt 2 = .ok (.invokevirtual 58, 3) := by decide +kernel
theorem dX1_thingAt_5 : decode cX1_thingAt 5 = .ok (.ifCond .eq 12, 3) := by decide +kernel
theorem dX1_thingAt_8 : decode cX1_thingAt 8 = .ok (.aload_n 0, 1) := by decide +kernel
theorem dX1_thingAt_9 : decode cX1_thingAt 9 = .ok (.getfield 26, 3) := by decide +kernel
theorem dX1_thingAt_12 : decode cX1_thingAt 12 = .ok (.iload_n 1, 1) := by decide +kernel
theorem dX1_thingAt_13 : decode cX1_thingAt 13 = .ok (.aaload, 1) := by decide +kernel
theorem dX1_thingAt_14 : decode cX1_thingAt 14 = .ok (.goto 4, 3) := by decide +kernel
theorem dX1_thingAt_17 : decode cX1_thingAt 17 = .ok (.aconst_null, 1) := by decide +kernel
theorem dX1_thingAt_18 : decode cX1_thingAt 18 = .ok (.areturn, 1) := by decide +kernel
theorem dX1_askAt_0 : decode cX1_askAt 0 = .ok (.iload_n 1, 1) := by decide +kernel
theorem dX1_askAt_1 : decode cX1_askAt 1 = .ok (.ifCond .lt 26, 3) := by decide +kernel
theorem dX1_askAt_4 : decode cX1_askAt 4 = .ok (.iload_n 1, 1) := by decide +kernel
theorem dX1_askAt_5 : decode cX1_askAt 5 = .ok (.aload_n 0, 1) := by decide +kernel
theorem dX1_askAt_6 : decode cX1_askAt 6 = .ok (.getfield 47, 3) := by decide +kernel
theorem dX1_askAt_9 : decode cX1_askAt 9 = .ok (.if_icmp .ge 18, 3) := by decide +kernel
theorem dX1_askAt_12 : decode cX1_askAt 12 = .ok (.iload_n 1, 1) := by decide +kernel
theorem dX1_askAt_13 : decode cX1_askAt 13 = .ok (.bipush 24, 2) := by decide +kernel
theorem dX1_askAt_15 : decode cX1_askAt 15 = .ok (.if_icmp .ge 12, 3) := by decide +kernel
theorem dX1_askAt_18 : decode cX1_askAt 18 = .ok (.aload_n 0, 1) := by decide +kernel
theorem dX1_askAt_19 : decode cX1_askAt 19 = .ok (.getfield 32, 3) := by decide +kernel
theorem dX1_askAt_22 : decode cX1_askAt 22 = .ok (.iload_n 1, 1) := by decide +kernel
theorem dX1_askAt_23 : decode cX1_askAt 23 = .ok (.aaload, 1) := by decide +kernel
theorem dX1_askAt_24 : decode cX1_askAt 24 = .ok (.goto 4, 3) := by decide +kernel
theorem dX1_askAt_27 : decode cX1_askAt 27 = .ok (.aconst_null, 1) := by decide +kernel
theorem dX1_askAt_28 : decode cX1_askAt 28 = .ok (.areturn, 1) := by decide +kernel
theorem dX1_follow_0 : decode cX1_follow 0 = .ok (.aload_n 1, 1) := by decide +kernel
theorem dX1_follow_1 : decode cX1_follow 1 = .ok (.iconst 0, 1) := by decide +kernel
theorem dX1_follow_2 : decode cX1_follow 2 = .ok (.invokevirtual 61, 3) := by decide +kernel
theorem dX1_follow_5 : decode cX1_follow 5 = .ok (.istore_n 2, 1) := by decide +kernel
theorem dX1_follow_6 : decode cX1_follow 6 = .ok (.aload_n 1, 1) := by decide +kernel
theorem dX1_follow_7 : decode cX1_follow 7 = .ok (.getfield 67, 3) := by decide +kernel
theorem dX1_follow_10 : decode cX1_follow 10 = .ok (.lookupswitch 92 #[(100, 62), (112, 50), (114, 82), (116, 56), (119, 72)], 50) := by decide +kernel
theorem dX1_follow_60 : decode cX1_follow 60 = .ok (.aload_n 0, 1) := by decide +kernel
theorem dX1_follow_61 : decode cX1_follow 61 = .ok (.aload_n 1, 1) := by decide +kernel
theorem dX1_follow_62 : decode cX1_follow 62 = .ok (.invokevirtual 70, 3) := by decide +kernel
theorem dX1_follow_65 : decode cX1_follow 65 = .ok (.ireturn, 1) := by decide +kernel
theorem dX1_follow_66 : decode cX1_follow 66 = .ok (.aload_n 0, 1) := by decide +kernel
theorem dX1_follow_67 : decode cX1_follow 67 = .ok (.aload_n 1, 1) := by decide +kernel
theorem dX1_follow_68 : decode cX1_follow 68 = .ok (.invokevirtual 74, 3) := by decide +kernel
theorem dX1_follow_71 : decode cX1_follow 71 = .ok (.ireturn, 1) := by decide +kernel
theorem dX1_follow_72 : decode cX1_follow 72 = .ok (.aload_n 0, 1) := by decide +kernel
theorem dX1_follow_73 : decode cX1_follow 73 = .ok (.getfield 12, 3) := by decide +kernel
theorem dX1_follow_76 : decode cX1_follow 76 = .ok (.iconst 0, 1) := by decide +kernel
theorem dX1_follow_77 : decode cX1_follow 77 = .ok (.iload_n 2, 1) := by decide +kernel
theorem dX1_follow_78 : decode cX1_follow 78 = .ok (.invokevirtual 77, 3) := by decide +kernel
theorem dX1_follow_81 : decode cX1_follow 81 = .ok (.ireturn, 1) := by decide +kernel
theorem dX1_follow_82 : decode cX1_follow 82 = .ok (.aload_n 0, 1) := by decide +kernel
theorem dX1_follow_83 : decode cX1_follow 83 = .ok (.getfield 12, 3) := by decide +kernel
theorem dX1_follow_86 : decode cX1_follow 86 = .ok (.iconst 1, 1) := by decide +kernel
theorem dX1_follow_87 : decode cX1_follow 87 = .ok (.iload_n 2, 1) := by decide +kernel
theorem dX1_follow_88 : decode cX1_follow 88 = .ok (.invokevirtual 77, 3) := by decide +kernel
theorem dX1_follow_91 : decode cX1_follow 91 = .ok (.ireturn, 1) := by decide +kernel
theorem dX1_follow_92 : decode cX1_follow 92 = .ok (.aload_n 0, 1) := by decide +kernel
theorem dX1_follow_93 : decode cX1_follow 93 = .ok (.getfield 12, 3) := by decide +kernel
theorem dX1_follow_96 : decode cX1_follow 96 = .ok (.iconst 2, 1) := by decide +kernel
theorem dX1_follow_97 : decode cX1_follow 97 = .ok (.iload_n 2, 1) := by decide +kernel
theorem dX1_follow_98 : decode cX1_follow 98 = .ok (.invokevirtual 77, 3) := by decide +kernel
theorem dX1_follow_101 : decode cX1_follow 101 = .ok (.ireturn, 1) := by decide +kernel
theorem dX1_follow_102 : decode cX1_follow 102 = .ok (.iconst 0, 1) := by decide +kernel
theorem dX1_follow_103 : decode cX1_follow 103 = .ok (.ireturn, 1) := by decide +kernel
theorem dX1_joinPiece_0 : decode cX1_joinPiece 0 = .ok (.aload_n 1, 1) := by decide +kernel
theorem dX1_joinPiece_1 : decode cX1_joinPiece 1 = .ok (.iconst 0, 1) := by decide +kernel
theorem dX1_joinPiece_2 : decode cX1_joinPiece 2 = .ok (.invokevirtual 61, 3) := by decide +kernel
theorem dX1_joinPiece_5 : decode cX1_joinPiece 5 = .ok (.istore_n 2, 1) := by decide +kernel
theorem dX1_joinPiece_6 : decode cX1_joinPiece 6 = .ok (.aload_n 1, 1) := by decide +kernel
theorem dX1_joinPiece_7 : decode cX1_joinPiece 7 = .ok (.iconst 1, 1) := by decide +kernel
theorem dX1_joinPiece_8 : decode cX1_joinPiece 8 = .ok (.invokevirtual 61, 3) := by decide +kernel
theorem dX1_joinPiece_11 : decode cX1_joinPiece 11 = .ok (.istore_n 3, 1) := by decide +kernel
theorem dX1_joinPiece_12 : decode cX1_joinPiece 12 = .ok (.aload_n 1, 1) := by decide +kernel
theorem dX1_joinPiece_13 : decode cX1_joinPiece 13 = .ok (.iconst 2, 1) := by decide +kernel
theorem dX1_joinPiece_14 : decode cX1_joinPiece 14 = .ok (.invokevirtual 61, 3) := by decide +kernel
theorem dX1_joinPiece_17 : decode cX1_joinPiece 17 = .ok (.istore 4, 2) := by decide +kernel
theorem dX1_joinPiece_19 : decode cX1_joinPiece 19 = .ok (.aload_n 1, 1) := by decide +kernel
theorem dX1_joinPiece_20 : decode cX1_joinPiece 20 = .ok (.getfield 81, 3) := by decide +kernel
theorem dX1_joinPiece_23 : decode cX1_joinPiece 23 = .ok (.ifCond .eq 11, 3) := by decide +kernel
theorem dX1_joinPiece_26 : decode cX1_joinPiece 26 = .ok (.aload_n 1, 1) := by decide +kernel
theorem dX1_joinPiece_27 : decode cX1_joinPiece 27 = .ok (.iconst 3, 1) := by decide +kernel
theorem dX1_joinPiece_28 : decode cX1_joinPiece 28 = .ok (.invokevirtual 61, 3) := by decide +kernel
theorem dX1_joinPiece_31 : decode cX1_joinPiece 31 = .ok (.goto 4, 3) := by decide +kernel
theorem dX1_joinPiece_34 : decode cX1_joinPiece 34 = .ok (.iconst (-1), 1) := by decide +kernel
theorem dX1_joinPiece_35 : decode cX1_joinPiece 35 = .ok (.istore 5, 2) := by decide +kernel
theorem dX1_joinPiece_37 : decode cX1_joinPiece 37 = .ok (.aload_n 1, 1) := by decide +kernel
theorem dX1_joinPiece_38 : decode cX1_joinPiece 38 = .ok (.getfield 81, 3) := by decide +kernel
theorem dX1_joinPiece_41 : decode cX1_joinPiece 41 = .ok (.ifCond .eq 11, 3) := by decide +kernel
theorem dX1_joinPiece_44 : decode cX1_joinPiece 44 = .ok (.aload_n 1, 1) := by decide +kernel
theorem dX1_joinPiece_45 : decode cX1_joinPiece 45 = .ok (.iconst 4, 1) := by decide +kernel
theorem dX1_joinPiece_46 : decode cX1_joinPiece 46 = .ok (.invokevirtual 61, 3) := by decide +kernel
theorem dX1_joinPiece_49 : decode cX1_joinPiece 49 = .ok (.goto 4, 3) := by decide +kernel
theorem dX1_joinPiece_52 : decode cX1_joinPiece 52 = .ok (.iconst 0, 1) := by decide +kernel
theorem dX1_joinPiece_53 : decode cX1_joinPiece 53 = .ok (.istore 6, 2) := by decide +kernel
theorem dX1_joinPiece_55 : decode cX1_joinPiece 55 = .ok (.aload_n 0, 1) := by decide +kernel
theorem dX1_joinPiece_56 : decode cX1_joinPiece 56 = .ok (.getfield 47, 3) := by decide +kernel
theorem dX1_joinPiece_59 : decode cX1_joinPiece 59 = .ok (.ifCond .gt 12, 3) := by decide +kernel
theorem dX1_joinPiece_62 : decode cX1_joinPiece 62 = .ok (.aload_n 0, 1) := by decide +kernel
theorem dX1_joinPiece_63 : decode cX1_joinPiece 63 = .ok (.getfield 40, 3) := by decide +kernel
theorem dX1_joinPiece_66 : decode cX1_joinPiece 66 = .ok (.bipush 10, 2) := by decide +kernel
theorem dX1_joinPiece_68 : decode cX1_joinPiece 68 = .ok (.if_icmp .lt 5, 3) := by decide +kernel
theorem dX1_joinPiece_71 : decode cX1_joinPiece 71 = .ok (.iconst 0, 1) := by decide +kernel
theorem dX1_joinPiece_72 : decode cX1_joinPiece 72 = .ok (.ireturn, 1) := by decide +kernel
theorem dX1_joinPiece_73 : decode cX1_joinPiece 73 = .ok (.iload_n 2, 1) := by decide +kernel
theorem dX1_joinPiece_74 : decode cX1_joinPiece 74 = .ok (.bipush 10, 2) := by decide +kernel
theorem dX1_joinPiece_76 : decode cX1_joinPiece 76 = .ok (.sipush 600, 3) := by decide +kernel
theorem dX1_joinPiece_79 : decode cX1_joinPiece 79 = .ok (.invokestatic 85, 3) := by decide +kernel
theorem dX1_joinPiece_82 : decode cX1_joinPiece 82 = .ok (.ifCond .eq 24, 3) := by decide +kernel
theorem dX1_joinPiece_85 : decode cX1_joinPiece 85 = .ok (.iload_n 3, 1) := by decide +kernel
theorem dX1_joinPiece_86 : decode cX1_joinPiece 86 = .ok (.iconst 1, 1) := by decide +kernel
theorem dX1_joinPiece_87 : decode cX1_joinPiece 87 = .ok (.bipush 99, 2) := by decide +kernel
theorem dX1_joinPiece_89 : decode cX1_joinPiece 89 = .ok (.invokestatic 85, 3) := by decide +kernel
theorem dX1_joinPiece_92 : decode cX1_joinPiece 92 = .ok (.ifCond .eq 14, 3) := by decide +kernel
theorem dX1_joinPiece_95 : decode cX1_joinPiece 95 = .ok (.iload 4, 2) := by decide +kernel
theorem dX1_joinPiece_97 : decode cX1_joinPiece 97 = .ok (.iconst 1, 1) := by decide +kernel
theorem dX1_joinPiece_98 : decode cX1_joinPiece 98 = .ok (.bipush 99, 2) := by decide +kernel
theorem dX1_joinPiece_100 : decode cX1_joinPiece 100 = .ok (.invokestatic 85, 3) := by decide +kernel
theorem dX1_joinPiece_103 : decode cX1_joinPiece 103 = .ok (.ifCond .ne 5, 3) := by decide +kernel
theorem dX1_joinPiece_106 : decode cX1_joinPiece 106 = .ok (.iconst 0, 1) := by decide +kernel
theorem dX1_joinPiece_107 : decode cX1_joinPiece 107 = .ok (.ireturn, 1) := by decide +kernel
theorem dX1_joinPiece_108 : decode cX1_joinPiece 108 = .ok (.iload 5, 2) := by decide +kernel
theorem dX1_joinPiece_110 : decode cX1_joinPiece 110 = .ok (.iconst (-1), 1) := by decide +kernel
theorem dX1_joinPiece_111 : decode cX1_joinPiece 111 = .ok (.if_icmp .eq 12, 3) := by decide +kernel
theorem dX1_joinPiece_114 : decode cX1_joinPiece 114 = .ok (.aload_n 0, 1) := by decide +kernel
theorem dX1_joinPiece_115 : decode cX1_joinPiece 115 = .ok (.iload 5, 2) := by decide +kernel
theorem dX1_joinPiece_117 : decode cX1_joinPiece 117 = .ok (.invokevirtual 54, 3) := by decide +kernel
theorem dX1_joinPiece_120 : decode cX1_joinPiece 120 = .ok (.ifCond .eq 14, 3) := by decide +kernel
theorem dX1_joinPiece_123 : decode cX1_joinPiece 123 = .ok (.iload 6, 2) := by decide +kernel
theorem dX1_joinPiece_125 : decode cX1_joinPiece 125 = .ok (.iconst 0, 1) := by decide +kernel
theorem dX1_joinPiece_126 : decode cX1_joinPiece 126 = .ok (.bipush 99, 2) := by decide +kernel
theorem dX1_joinPiece_128 : decode cX1_joinPiece 128 = .ok (.invokestatic 85, 3) := by decide +kernel
theorem dX1_joinPiece_131 : decode cX1_joinPiece 131 = .ok (.ifCond .ne 5, 3) := by decide +kernel
theorem dX1_joinPiece_134 : decode cX1_joinPiece 134 = .ok (.iconst 0, 1) := by decide +kernel
theorem dX1_joinPiece_135 : decode cX1_joinPiece 135 = .ok (.ireturn, 1) := by decide +kernel
theorem dX1_joinPiece_136 : decode cX1_joinPiece 136 = .ok (.aload_n 0, 1) := by decide +kernel
theorem dX1_joinPiece_137 : decode cX1_joinPiece 137 = .ok (.getfield 20, 3) := by decide +kernel
theorem dX1_joinPiece_140 : decode cX1_joinPiece 140 = .ok (.aload_n 0, 1) := by decide +kernel
theorem dX1_joinPiece_141 : decode cX1_joinPiece 141 = .ok (.getfield 40, 3) := by decide +kernel
theorem dX1_joinPiece_144 : decode cX1_joinPiece 144 = .ok (.new 18, 3) := by decide +kernel
theorem dX1_joinPiece_147 : decode cX1_joinPiece 147 = .ok (.dup, 1) := by decide +kernel
theorem dX1_joinPiece_148 : decode cX1_joinPiece 148 = .ok (.iload_n 2, 1) := by decide +kernel
theorem dX1_joinPiece_149 : decode cX1_joinPiece 149 = .ok (.iload_n 3, 1) := by decide +kernel
theorem dX1_joinPiece_150 : decode cX1_joinPiece 150 = .ok (.iload 4, 2) := by decide +kernel
theorem dX1_joinPiece_152 : decode cX1_joinPiece 152 = .ok (.iload 5, 2) := by decide +kernel
theorem dX1_joinPiece_154 : decode cX1_joinPiece 154 = .ok (.iload 6, 2) := by decide +kernel
theorem dX1_joinPiece_156 : decode cX1_joinPiece 156 = .ok (.invokespecial 89, 3) := by decide +kernel
theorem dX1_joinPiece_159 : decode cX1_joinPiece 159 = .ok (.aastore, 1) := by decide +kernel
theorem dX1_joinPiece_160 : decode cX1_joinPiece 160 = .ok (.aload_n 0, 1) := by decide +kernel
theorem dX1_joinPiece_161 : decode cX1_joinPiece 161 = .ok (.getfield 12, 3) := by decide +kernel
theorem dX1_joinPiece_164 : decode cX1_joinPiece 164 = .ok (.aload_n 0, 1) := by decide +kernel
theorem dX1_joinPiece_165 : decode cX1_joinPiece 165 = .ok (.getfield 40, 3) := by decide +kernel
theorem dX1_joinPiece_168 : decode cX1_joinPiece 168 = .ok (.iconst 0, 1) := by decide +kernel
theorem dX1_joinPiece_169 : decode cX1_joinPiece 169 = .ok (.invokevirtual 92, 3) := by decide +kernel
theorem dX1_joinPiece_172 : decode cX1_joinPiece 172 = .ok (.aload_n 0, 1) := by decide +kernel
theorem dX1_joinPiece_173 : decode cX1_joinPiece 173 = .ok (.dup, 1) := by decide +kernel
theorem dX1_joinPiece_174 : decode cX1_joinPiece 174 = .ok (.getfield 40, 3) := by decide +kernel
theorem dX1_joinPiece_177 : decode cX1_joinPiece 177 = .ok (.iconst 1, 1) := by decide +kernel
theorem dX1_joinPiece_178 : decode cX1_joinPiece 178 = .ok (.iadd, 1) := by decide +kernel
theorem dX1_joinPiece_179 : decode cX1_joinPiece 179 = .ok (.putfield 40, 3) := by decide +kernel
theorem dX1_joinPiece_182 : decode cX1_joinPiece 182 = .ok (.iconst 1, 1) := by decide +kernel
theorem dX1_joinPiece_183 : decode cX1_joinPiece 183 = .ok (.ireturn, 1) := by decide +kernel
theorem dX1_hangThing_0 : decode cX1_hangThing 0 = .ok (.aload_n 1, 1) := by decide +kernel
theorem dX1_hangThing_1 : decode cX1_hangThing 1 = .ok (.iconst 0, 1) := by decide +kernel
theorem dX1_hangThing_2 : decode cX1_hangThing 2 = .ok (.invokevirtual 61, 3) := by decide +kernel
theorem dX1_hangThing_5 : decode cX1_hangThing 5 = .ok (.istore_n 2, 1) := by decide +kernel
theorem dX1_hangThing_6 : decode cX1_hangThing 6 = .ok (.aload_n 1, 1) := by decide +kernel
theorem dX1_hangThing_7 : decode cX1_hangThing 7 = .ok (.iconst 1, 1) := by decide +kernel
theorem dX1_hangThing_8 : decode cX1_hangThing 8 = .ok (.invokevirtual 61, 3) := by decide +kernel
theorem dX1_hangThing_11 : decode cX1_hangThing 11 = .ok (.istore_n 3, 1) := by decide +kernel
theorem dX1_hangThing_12 : decode cX1_hangThing 12 = .ok (.aload_n 1, 1) := by decide +kernel
theorem dX1_hangThing_13 : decode cX1_hangThing 13 = .ok (.iconst 2, 1) := by decide +kernel
theorem dX1_hangThing_14 : decode cX1_hangThing 14 = .ok (.invokevirtual 61, 3) := by decide +kernel
theorem dX1_hangThing_17 : decode cX1_hangThing 17 = .ok (.istore 4, 2) := by decide +kernel
theorem dX1_hangThing_19 : decode cX1_hangThing 19 = .ok (.aload_n 1, 1) := by decide +kernel
theorem dX1_hangThing_20 : decode cX1_hangThing 20 = .ok (.iconst 3, 1) := by decide +kernel
theorem dX1_hangThing_21 : decode cX1_hangThing 21 = .ok (.invokevirtual 61, 3) := by decide +kernel
theorem dX1_hangThing_24 : decode cX1_hangThing 24 = .ok (.istore 5, 2) := by decide +kernel
theorem dX1_hangThing_26 : decode cX1_hangThing 26 = .ok (.aload_n 1, 1) := by decide +kernel
theorem dX1_hangThing_27 : decode cX1_hangThing 27 = .ok (.iconst 4, 1) := by decide +kernel
theorem dX1_hangThing_28 : decode cX1_hangThing 28 = .ok (.invokevirtual 61, 3) := by decide +kernel
theorem dX1_hangThing_31 : decode cX1_hangThing 31 = .ok (.istore 6, 2) := by decide +kernel
theorem dX1_hangThing_33 : decode cX1_hangThing 33 = .ok (.aload_n 0, 1) := by decide +kernel
theorem dX1_hangThing_34 : decode cX1_hangThing 34 = .ok (.getfield 47, 3) := by decide +kernel
theorem dX1_hangThing_37 : decode cX1_hangThing 37 = .ok (.ifCond .gt 12, 3) := by decide +kernel
theorem dX1_hangThing_40 : decode cX1_hangThing 40 = .ok (.aload_n 0, 1) := by decide +kernel
theorem dX1_hangThing_41 : decode cX1_hangThing 41 = .ok (.getfield 44, 3) := by decide +kernel
theorem dX1_hangThing_44 : decode cX1_hangThing 44 = .ok (.bipush 7, 2) := by decide +kernel
theorem dX1_hangThing_46 : decode cX1_hangThing 46 = .ok (.if_icmp .lt 5, 3) := by decide +kernel
theorem dX1_hangThing_49 : decode cX1_hangThing 49 = .ok (.iconst 0, 1) := by decide +kernel
theorem dX1_hangThing_50 : decode cX1_hangThing 50 = .ok (.ireturn, 1) := by decide +kernel
theorem dX1_hangThing_51 : decode cX1_hangThing 51 = .ok (.iload_n 2, 1) := by decide +kernel
theorem dX1_hangThing_52 : decode cX1_hangThing 52 = .ok (.iconst 0, 1) := by decide +kernel
theorem dX1_hangThing_53 : decode cX1_hangThing 53 = .ok (.bipush 7, 2) := by decide +kernel
theorem dX1_hangThing_55 : decode cX1_hangThing 55 = .ok (.invokestatic 85, 3) := by decide +kernel
theorem dX1_hangThing_58 : decode cX1_hangThing 58 = .ok (.ifCond .eq 11, 3) := by decide +kernel
theorem dX1_hangThing_61 : decode cX1_hangThing 61 = .ok (.aload_n 0, 1) := by decide +kernel
theorem dX1_hangThing_62 : decode cX1_hangThing 62 = .ok (.iload_n 3, 1) := by decide +kernel
theorem dX1_hangThing_63 : decode cX1_hangThing 63 = .ok (.invokevirtual 54, 3) := by decide +kernel
theorem dX1_hangThing_66 : decode cX1_hangThing 66 = .ok (.ifCond .ne 5, 3) := by decide +kernel
theorem dX1_hangThing_69 : decode cX1_hangThing 69 = .ok (.iconst 0, 1) := by decide +kernel
theorem dX1_hangThing_70 : decode cX1_hangThing 70 = .ok (.ireturn, 1) := by decide +kernel
theorem dX1_hangThing_71 : decode cX1_hangThing 71 = .ok (.iload 4, 2) := by decide +kernel
theorem dX1_hangThing_73 : decode cX1_hangThing 73 = .ok (.iconst 1, 1) := by decide +kernel
theorem dX1_hangThing_74 : decode cX1_hangThing 74 = .ok (.sipush 999, 3) := by decide +kernel
theorem dX1_hangThing_77 : decode cX1_hangThing 77 = .ok (.invokestatic 85, 3) := by decide +kernel
theorem dX1_hangThing_80 : decode cX1_hangThing 80 = .ok (.ifCond .eq 14, 3) := by decide +kernel
theorem dX1_hangThing_83 : decode cX1_hangThing 83 = .ok (.iload 6, 2) := by decide +kernel
theorem dX1_hangThing_85 : decode cX1_hangThing 85 = .ok (.iconst 1, 1) := by decide +kernel
theorem dX1_hangThing_86 : decode cX1_hangThing 86 = .ok (.bipush 99, 2) := by decide +kernel
theorem dX1_hangThing_88 : decode cX1_hangThing 88 = .ok (.invokestatic 85, 3) := by decide +kernel
theorem dX1_hangThing_91 : decode cX1_hangThing 91 = .ok (.ifCond .ne 5, 3) := by decide +kernel
theorem dX1_hangThing_94 : decode cX1_hangThing 94 = .ok (.iconst 0, 1) := by decide +kernel
theorem dX1_hangThing_95 : decode cX1_hangThing 95 = .ok (.ireturn, 1) := by decide +kernel
theorem dX1_hangThing_96 : decode cX1_hangThing 96 = .ok (.aload_n 0, 1) := by decide +kernel
theorem dX1_hangThing_97 : decode cX1_hangThing 97 = .ok (.getfield 26, 3) := by decide +kernel
theorem dX1_hangThing_100 : decode cX1_hangThing 100 = .ok (.aload_n 0, 1) := by decide +kernel
theorem dX1_hangThing_101 : decode cX1_hangThing 101 = .ok (.getfield 44, 3) := by decide +kernel
theorem dX1_hangThing_104 : decode cX1_hangThing 104 = .ok (.new 24, 3) := by decide +kernel
theorem dX1_hangThing_107 : decode cX1_hangThing 107 = .ok (.dup, 1) := by decide +kernel
theorem dX1_hangThing_108 : decode cX1_hangThing 108 = .ok (.aload_n 0, 1) := by decide +kernel
theorem dX1_hangThing_109 : decode cX1_hangThing 109 = .ok (.getfield 44, 3) := by decide +kernel
theorem dX1_hangThing_112 : decode cX1_hangThing 112 = .ok (.iload_n 2, 1) := by decide +kernel
theorem dX1_hangThing_113 : decode cX1_hangThing 113 = .ok (.iload_n 3, 1) := by decide +kernel
theorem dX1_hangThing_114 : decode cX1_hangThing 114 = .ok (.iload 4, 2) := by decide +kernel
theorem dX1_hangThing_116 : decode cX1_hangThing 116 = .ok (.iload 5, 2) := by decide +kernel
theorem dX1_hangThing_118 : decode cX1_hangThing 118 = .ok (.iload 6, 2) := by decide +kernel
theorem dX1_hangThing_120 : decode cX1_hangThing 120 = .ok (.invokespecial 96, 3) := by decide +kernel
theorem dX1_hangThing_123 : decode cX1_hangThing 123 = .ok (.aastore, 1) := by decide +kernel
theorem dX1_hangThing_124 : decode cX1_hangThing 124 = .ok (.aload_n 0, 1) := by decide +kernel
theorem dX1_hangThing_125 : decode cX1_hangThing 125 = .ok (.dup, 1) := by decide +kernel
theorem dX1_hangThing_126 : decode cX1_hangThing 126 = .ok (.getfield 44, 3) := by decide +kernel
theorem dX1_hangThing_129 : decode cX1_hangThing 129 = .ok (.iconst 1, 1) := by decide +kernel
theorem dX1_hangThing_130 : decode cX1_hangThing 130 = .ok (.iadd, 1) := by decide +kernel
theorem dX1_hangThing_131 : decode cX1_hangThing 131 = .ok (.putfield 44, 3) := by decide +kernel
theorem dX1_hangThing_134 : decode cX1_hangThing 134 = .ok (.iconst 1, 1) := by decide +kernel
theorem dX1_hangThing_135 : decode cX1_hangThing 135 = .ok (.ireturn, 1) := by decide +kernel
theorem dX1_keepAsk_0 : decode cX1_keepAsk 0 = .ok (.aload_n 0, 1) := by decide +kernel
theorem dX1_keepAsk_1 : decode cX1_keepAsk 1 = .ok (.getfield 47, 3) := by decide +kernel
theorem dX1_keepAsk_4 : decode cX1_keepAsk 4 = .ok (.bipush 24, 2) := by decide +kernel
theorem dX1_keepAsk_6 : decode cX1_keepAsk 6 = .ok (.if_icmp .ge 58, 3) := by decide +kernel
theorem dX1_keepAsk_9 : decode cX1_keepAsk 9 = .ok (.new 9, 3) := by decide +kernel
theorem dX1_keepAsk_12 : decode cX1_keepAsk 12 = .ok (.dup, 1) := by decide +kernel
theorem dX1_keepAsk_13 : decode cX1_keepAsk 13 = .ok (.invokespecial 11, 3) := by decide +kernel
theorem dX1_keepAsk_16 : decode cX1_keepAsk 16 = .ok (.astore 4, 2) := by decide +kernel
theorem dX1_keepAsk_18 : decode cX1_keepAsk 18 = .ok (.aload 4, 2) := by decide +kernel
theorem dX1_keepAsk_20 : decode cX1_keepAsk 20 = .ok (.aload_n 0, 1) := by decide +kernel
theorem dX1_keepAsk_21 : decode cX1_keepAsk 21 = .ok (.getfield 12, 3) := by decide +kernel
theorem dX1_keepAsk_24 : decode cX1_keepAsk 24 = .ok (.invokevirtual 50, 3) := by decide +kernel
theorem dX1_keepAsk_27 : decode cX1_keepAsk 27 = .ok (.aload_n 0, 1) := by decide +kernel
theorem dX1_keepAsk_28 : decode cX1_keepAsk 28 = .ok (.getfield 32, 3) := by decide +kernel
theorem dX1_keepAsk_31 : decode cX1_keepAsk 31 = .ok (.aload_n 0, 1) := by decide +kernel
theorem dX1_keepAsk_32 : decode cX1_keepAsk 32 = .ok (.getfield 47, 3) := by decide +kernel
theorem dX1_keepAsk_35 : decode cX1_keepAsk 35 = .ok (.new 30, 3) := by decide +kernel
theorem dX1_keepAsk_38 : decode cX1_keepAsk 38 = .ok (.dup, 1) := by decide +kernel
theorem dX1_keepAsk_39 : decode cX1_keepAsk 39 = .ok (.iload_n 1, 1) := by decide +kernel
theorem dX1_keepAsk_40 : decode cX1_keepAsk 40 = .ok (.iload_n 2, 1) := by decide +kernel
theorem dX1_keepAsk_41 : decode cX1_keepAsk 41 = .ok (.iload_n 3, 1) := by decide +kernel
theorem dX1_keepAsk_42 : decode cX1_keepAsk 42 = .ok (.aload_n 0, 1) := by decide +kernel
theorem dX1_keepAsk_43 : decode cX1_keepAsk 43 = .ok (.iload_n 1, 1) := by decide +kernel
theorem dX1_keepAsk_44 : decode cX1_keepAsk 44 = .ok (.iload_n 2, 1) := by decide +kernel
theorem dX1_keepAsk_45 : decode cX1_keepAsk 45 = .ok (.invokevirtual 99, 3) := by decide +kernel
theorem dX1_keepAsk_48 : decode cX1_keepAsk 48 = .ok (.aload 4, 2) := by decide +kernel
theorem dX1_keepAsk_50 : decode cX1_keepAsk 50 = .ok (.invokespecial 103, 3) := by decide +kernel
theorem dX1_keepAsk_53 : decode cX1_keepAsk 53 = .ok (.aastore, 1) := by decide +kernel
theorem dX1_keepAsk_54 : decode cX1_keepAsk 54 = .ok (.aload_n 0, 1) := by decide +kernel
theorem dX1_keepAsk_55 : decode cX1_keepAsk 55 = .ok (.dup, 1) := by decide +kernel
theorem dX1_keepAsk_56 : decode cX1_keepAsk 56 = .ok (.getfield 47, 3) := by decide +kernel
theorem dX1_keepAsk_59 : decode cX1_keepAsk 59 = .ok (.iconst 1, 1) := by decide +kernel
theorem dX1_keepAsk_60 : decode cX1_keepAsk 60 = .ok (.iadd, 1) := by decide +kernel
theorem dX1_keepAsk_61 : decode cX1_keepAsk 61 = .ok (.putfield 47, 3) := by decide +kernel
theorem dX1_keepAsk_64 : decode cX1_keepAsk 64 = .ok (.aload_n 0, 1) := by decide +kernel
theorem dX1_keepAsk_65 : decode cX1_keepAsk 65 = .ok (.getfield 47, 3) := by decide +kernel
theorem dX1_keepAsk_68 : decode cX1_keepAsk 68 = .ok (.ireturn, 1) := by decide +kernel
theorem dX1_swingOf_0 : decode cX1_swingOf 0 = .ok (.aload_n 0, 1) := by decide +kernel
theorem dX1_swingOf_1 : decode cX1_swingOf 1 = .ok (.iload_n 1, 1) := by decide +kernel
theorem dX1_swingOf_2 : decode cX1_swingOf 2 = .ok (.invokevirtual 54, 3) := by decide +kernel
theorem dX1_swingOf_5 : decode cX1_swingOf 5 = .ok (.ifCond .ne 5, 3) := by decide +kernel
theorem dX1_swingOf_8 : decode cX1_swingOf 8 = .ok (.iconst 0, 1) := by decide +kernel
theorem dX1_swingOf_9 : decode cX1_swingOf 9 = .ok (.ireturn, 1) := by decide +kernel
theorem dX1_swingOf_10 : decode cX1_swingOf 10 = .ok (.iconst 0, 1) := by decide +kernel
theorem dX1_swingOf_11 : decode cX1_swingOf 11 = .ok (.istore 5, 2) := by decide +kernel
theorem dX1_swingOf_13 : decode cX1_swingOf 13 = .ok (.iload 5, 2) := by decide +kernel
theorem dX1_swingOf_15 : decode cX1_swingOf 15 = .ok (.iload_n 1, 1) := by decide +kernel
theorem dX1_swingOf_16 : decode cX1_swingOf 16 = .ok (.if_icmp .gt 141, 3) := by decide +kernel
theorem dX1_swingOf_19 : decode cX1_swingOf 19 = .ok (.aload_n 0, 1) := by decide +kernel
theorem dX1_swingOf_20 : decode cX1_swingOf 20 = .ok (.getfield 20, 3) := by decide +kernel
theorem dX1_swingOf_23 : decode cX1_swingOf 23 = .ok (.iload 5, 2) := by decide +kernel
theorem dX1_swingOf_25 : decode cX1_swingOf 25 = .ok (.aaload, 1) := by decide +kernel
theorem dX1_swingOf_26 : decode cX1_swingOf 26 = .ok (.astore 6, 2) := by decide +kernel
theorem dX1_swingOf_28 : decode cX1_swingOf 28 = .ok (.aload 6, 2) := by decide +kernel
theorem dX1_swingOf_30 : decode cX1_swingOf 30 = .ok (.ifnonnull 5, 3) := by decide +kernel
theorem dX1_swingOf_33 : decode cX1_swingOf 33 = .ok (.iconst 0, 1) := by decide +kernel
theorem dX1_swingOf_34 : decode cX1_swingOf 34 = .ok (.ireturn, 1) := by decide +kernel
theorem dX1_swingOf_35 : decode cX1_swingOf 35 = .ok (.aload 6, 2) := by decide +kernel
theorem dX1_swingOf_37 : decode cX1_swingOf 37 = .ok (.aload_n 2, 1) := by decide +kernel
theorem dX1_swingOf_38 : decode cX1_swingOf 38 = .ok (.getfield 106, 3) := by decide +kernel
theorem dX1_swingOf_41 : decode cX1_swingOf 41 = .ok (.iload 5, 2) := by decide +kernel
theorem dX1_swingOf_43 : decode cX1_swingOf 43 = .ok (.if_icmp .ne 7, 3) := by decide +kernel
theorem dX1_swingOf_46 : decode cX1_swingOf 46 = .ok (.iconst 1, 1) := by decide +kernel
theorem dX1_swingOf_47 : decode cX1_swingOf 47 = .ok (.goto 4, 3) := by decide +kernel
theorem dX1_swingOf_50 : decode cX1_swingOf 50 = .ok (.iconst 0, 1) := by decide +kernel
theorem dX1_swingOf_51 : decode cX1_swingOf 51 = .ok (.invokevirtual 109, 3) := by decide +kernel
theorem dX1_swingOf_54 : decode cX1_swingOf 54 = .ok (.iload_n 3, 1) := by decide +kernel
theorem dX1_swingOf_55 : decode cX1_swingOf 55 = .ok (.aload 6, 2) := by decide +kernel
theorem dX1_swingOf_57 : decode cX1_swingOf 57 = .ok (.aload_n 2, 1) := by decide +kernel
theorem dX1_swingOf_58 : decode cX1_swingOf 58 = .ok (.iload 5, 2) := by decide +kernel
theorem dX1_swingOf_60 : decode cX1_swingOf 60 = .ok (.invokevirtual 113, 3) := by decide +kernel
theorem dX1_swingOf_63 : decode cX1_swingOf 63 = .ok (.invokevirtual 116, 3) := by decide +kernel
theorem dX1_swingOf_66 : decode cX1_swingOf 66 = .ok (.isub, 1) := by decide +kernel
theorem dX1_swingOf_67 : decode cX1_swingOf 67 = .ok (.invokestatic 119, 3) := by decide +kernel
theorem dX1_swingOf_70 : decode cX1_swingOf 70 = .ok (.iadd, 1) := by decide +kernel
theorem dX1_swingOf_71 : decode cX1_swingOf 71 = .ok (.istore 7, 2) := by decide +kernel
theorem dX1_swingOf_73 : decode cX1_swingOf 73 = .ok (.iload 7, 2) := by decide +kernel
theorem dX1_swingOf_75 : decode cX1_swingOf 75 = .ok (.ifCond .le 14, 3) := by decide +kernel
theorem dX1_swingOf_78 : decode cX1_swingOf 78 = .ok (.iload 4, 2) := by decide +kernel
theorem dX1_swingOf_80 : decode cX1_swingOf 80 = .ok (.bipush 100, 2) := by decide +kernel
theorem dX1_swingOf_82 : decode cX1_swingOf 82 = .ok (.imul, 1) := by decide +kernel
theorem dX1_swingOf_83 : decode cX1_swingOf 83 = .ok (.iload 7, 2) := by decide +kernel
theorem dX1_swingOf_85 : decode cX1_swingOf 85 = .ok (.idiv, 1) := by decide +kernel
theorem dX1_swingOf_86 : decode cX1_swingOf 86 = .ok (.goto 4, 3) := by decide +kernel
theorem dX1_swingOf_89 : decode cX1_swingOf 89 = .ok (.iconst 0, 1) := by decide +kernel
theorem dX1_swingOf_90 : decode cX1_swingOf 90 = .ok (.istore 8, 2) := by decide +kernel
theorem dX1_swingOf_92 : decode cX1_swingOf 92 = .ok (.aload 6, 2) := by decide +kernel
theorem dX1_swingOf_94 : decode cX1_swingOf 94 = .ok (.getfield 124, 3) := by decide +kernel
theorem dX1_swingOf_97 : decode cX1_swingOf 97 = .ok (.ifCond .lt 39, 3) := by decide +kernel
theorem dX1_swingOf_100 : decode cX1_swingOf 100 = .ok (.aload 6, 2) := by decide +kernel
theorem dX1_swingOf_102 : decode cX1_swingOf 102 = .ok (.getfield 124, 3) := by decide +kernel
theorem dX1_swingOf_105 : decode cX1_swingOf 105 = .ok (.iload 5, 2) := by decide +kernel
theorem dX1_swingOf_107 : decode cX1_swingOf 107 = .ok (.if_icmp .ge 29, 3) := by decide +kernel
theorem dX1_swingOf_110 : decode cX1_swingOf 110 = .ok (.aload 6, 2) := by decide +kernel
theorem dX1_swingOf_112 : decode cX1_swingOf 112 = .ok (.aload_n 2, 1) := by decide +kernel
theorem dX1_swingOf_113 : decode cX1_swingOf 113 = .ok (.getfield 126, 3) := by decide +kernel
theorem dX1_swingOf_116 : decode cX1_swingOf 116 = .ok (.invokevirtual 129, 3) := by decide +kernel
theorem dX1_swingOf_119 : decode cX1_swingOf 119 = .ok (.aload_n 0, 1) := by decide +kernel
theorem dX1_swingOf_120 : decode cX1_swingOf 120 = .ok (.getfield 36, 3) := by decide +kernel
theorem dX1_swingOf_123 : decode cX1_swingOf 123 = .ok (.aload 6, 2) := by decide +kernel
theorem dX1_swingOf_125 : decode cX1_swingOf 125 = .ok (.getfield 124, 3) := by decide +kernel
theorem dX1_swingOf_128 : decode cX1_swingOf 128 = .ok (.iaload, 1) := by decide +kernel
theorem dX1_swingOf_129 : decode cX1_swingOf 129 = .ok (.imul, 1) := by decide +kernel
theorem dX1_swingOf_130 : decode cX1_swingOf 130 = .ok (.bipush 100, 2) := by decide +kernel
theorem dX1_swingOf_132 : decode cX1_swingOf 132 = .ok (.idiv, 1) := by decide +kernel
theorem dX1_swingOf_133 : decode cX1_swingOf 133 = .ok (.goto 4, 3) := by decide +kernel
theorem dX1_swingOf_136 : decode cX1_swingOf 136 = .ok (.iconst 0, 1) := by decide +kernel
theorem dX1_swingOf_137 : decode cX1_swingOf 137 = .ok (.istore 9, 2) := by decide +kernel
theorem dX1_swingOf_139 : decode cX1_swingOf 139 = .ok (.aload_n 0, 1) := by decide +kernel
theorem dX1_swingOf_140 : decode cX1_swingOf 140 = .ok (.getfield 36, 3) := by decide +kernel
theorem dX1_swingOf_143 : decode cX1_swingOf 143 = .ok (.iload 5, 2) := by decide +kernel
theorem dX1_swingOf_145 : decode cX1_swingOf 145 = .ok (.iload 8, 2) := by decide +kernel
theorem dX1_swingOf_147 : decode cX1_swingOf 147 = .ok (.iload 9, 2) := by decide +kernel
theorem dX1_swingOf_149 : decode cX1_swingOf 149 = .ok (.iadd, 1) := by decide +kernel
theorem dX1_swingOf_150 : decode cX1_swingOf 150 = .ok (.iastore, 1) := by decide +kernel
theorem dX1_swingOf_151 : decode cX1_swingOf 151 = .ok (.iinc 5 1, 3) := by decide +kernel
theorem dX1_swingOf_154 : decode cX1_swingOf 154 = .ok (.goto (-141), 3) := by decide +kernel
theorem dX1_swingOf_157 : decode cX1_swingOf 157 = .ok (.aload_n 0, 1) := by decide +kernel
theorem dX1_swingOf_158 : decode cX1_swingOf 158 = .ok (.getfield 36, 3) := by decide +kernel
theorem dX1_swingOf_161 : decode cX1_swingOf 161 = .ok (.iload_n 1, 1) := by decide +kernel
theorem dX1_swingOf_162 : decode cX1_swingOf 162 = .ok (.iaload, 1) := by decide +kernel
theorem dX1_swingOf_163 : decode cX1_swingOf 163 = .ok (.ireturn, 1) := by decide +kernel
theorem dX1_swingsInRow_0 : decode cX1_swingsInRow 0 = .ok (.iconst 0, 1) := by decide +kernel
theorem dX1_swingsInRow_1 : decode cX1_swingsInRow 1 = .ok (.istore_n 1, 1) := by decide +kernel
theorem dX1_swingsInRow_2 : decode cX1_swingsInRow 2 = .ok (.iconst 0, 1) := by decide +kernel
theorem dX1_swingsInRow_3 : decode cX1_swingsInRow 3 = .ok (.istore_n 2, 1) := by decide +kernel
theorem dX1_swingsInRow_4 : decode cX1_swingsInRow 4 = .ok (.iload_n 2, 1) := by decide +kernel
theorem dX1_swingsInRow_5 : decode cX1_swingsInRow 5 = .ok (.aload_n 0, 1) := by decide +kernel
theorem dX1_swingsInRow_6 : decode cX1_swingsInRow 6 = .ok (.getfield 40, 3) := by decide +kernel
theorem dX1_swingsInRow_9 : decode cX1_swingsInRow 9 = .ok (.if_icmp .ge 24, 3) := by decide +kernel
theorem dX1_swingsInRow_12 : decode cX1_swingsInRow 12 = .ok (.iload_n 2, 1) := by decide +kernel
theorem dX1_swingsInRow_13 : decode cX1_swingsInRow 13 = .ok (.bipush 10, 2) := by decide +kernel
theorem dX1_swingsInRow_15 : decode cX1_swingsInRow 15 = .ok (.if_icmp .ge 18, 3) := by decide +kernel
theorem dX1_swingsInRow_18 : decode cX1_swingsInRow 18 = .ok (.iload_n 1, 1) := by decide +kernel
theorem dX1_swingsInRow_19 : decode cX1_swingsInRow 19 = .ok (.aload_n 0, 1) := by decide +kernel
theorem dX1_swingsInRow_20 : decode cX1_swingsInRow 20 = .ok (.getfield 36, 3) := by decide +kernel
theorem dX1_swingsInRow_23 : decode cX1_swingsInRow 23 = .ok (.iload_n 2, 1) := by decide +kernel
theorem dX1_swingsInRow_24 : decode cX1_swingsInRow 24 = .ok (.iaload, 1) := by decide +kernel
theorem dX1_swingsInRow_25 : decode cX1_swingsInRow 25 = .ok (.iadd, 1) := by decide +kernel
theorem dX1_swingsInRow_26 : decode cX1_swingsInRow 26 = .ok (.istore_n 1, 1) := by decide +kernel
theorem dX1_swingsInRow_27 : decode cX1_swingsInRow 27 = .ok (.iinc 2 1, 3) := by decide +kernel
theorem dX1_swingsInRow_30 : decode cX1_swingsInRow 30 = .ok (.goto (-26), 3) := by decide +kernel
theorem dX1_swingsInRow_33 : decode cX1_swingsInRow 33 = .ok (.iload_n 1, 1) := by decide +kernel
theorem dX1_swingsInRow_34 : decode cX1_swingsInRow 34 = .ok (.ireturn, 1) := by decide +kernel
theorem dX1_swingsOf_0 : decode cX1_swingsOf 0 = .ok (.aload_n 1, 1) := by decide +kernel
theorem dX1_swingsOf_1 : decode cX1_swingsOf 1 = .ok (.getfield 132, 3) := by decide +kernel
theorem dX1_swingsOf_4 : decode cX1_swingsOf 4 = .ok (.tableswitch 144 2 7 #[40, 144, 144, 70, 92, 117], 40) := by decide +kernel
theorem dX1_swingsOf_44 : decode cX1_swingsOf 44 = .ok (.aload_n 0, 1) := by decide +kernel
theorem dX1_swingsOf_45 : decode cX1_swingsOf 45 = .ok (.aload_n 1, 1) := by decide +kernel
theorem dX1_swingsOf_46 : decode cX1_swingsOf 46 = .ok (.getfield 135, 3) := by decide +kernel
theorem dX1_swingsOf_49 : decode cX1_swingsOf 49 = .ok (.aload_n 2, 1) := by decide +kernel
theorem dX1_swingsOf_50 : decode cX1_swingsOf 50 = .ok (.iload_n 3, 1) := by decide +kernel
theorem dX1_swingsOf_51 : decode cX1_swingsOf 51 = .ok (.iload 4, 2) := by decide +kernel
theorem dX1_swingsOf_53 : decode cX1_swingsOf 53 = .ok (.invokevirtual 138, 3) := by decide +kernel
theorem dX1_swingsOf_56 : decode cX1_swingsOf 56 = .ok (.aload_n 0, 1) := by decide +kernel
theorem dX1_swingsOf_57 : decode cX1_swingsOf 57 = .ok (.aload_n 1, 1) := by decide +kernel
theorem dX1_swingsOf_58 : decode cX1_swingsOf 58 = .ok (.getfield 135, 3) := by decide +kernel
theorem dX1_swingsOf_61 : decode cX1_swingsOf 61 = .ok (.aload_n 2, 1) := by decide +kernel
theorem dX1_swingsOf_62 : decode cX1_swingsOf 62 = .ok (.iconst 2, 1) := by decide +kernel
theorem dX1_swingsOf_63 : decode cX1_swingsOf 63 = .ok (.iload_n 3, 1) := by decide +kernel
theorem dX1_swingsOf_64 : decode cX1_swingsOf 64 = .ok (.imul, 1) := by decide +kernel
theorem dX1_swingsOf_65 : decode cX1_swingsOf 65 = .ok (.iload 4, 2) := by decide +kernel
theorem dX1_swingsOf_67 : decode cX1_swingsOf 67 = .ok (.invokevirtual 138, 3) := by decide +kernel
theorem dX1_swingsOf_70 : decode cX1_swingsOf 70 = .ok (.invokestatic 142, 3) := by decide +kernel
theorem dX1_swingsOf_73 : decode cX1_swingsOf 73 = .ok (.ireturn, 1) := by decide +kernel
theorem dX1_swingsOf_74 : decode cX1_swingsOf 74 = .ok (.aload_n 0, 1) := by decide +kernel
theorem dX1_swingsOf_75 : decode cX1_swingsOf 75 = .ok (.aload_n 0, 1) := by decide +kernel
theorem dX1_swingsOf_76 : decode cX1_swingsOf 76 = .ok (.getfield 40, 3) := by decide +kernel
theorem dX1_swingsOf_79 : decode cX1_swingsOf 79 = .ok (.iconst 1, 1) := by decide +kernel
theorem dX1_swingsOf_80 : decode cX1_swingsOf 80 = .ok (.isub, 1) := by decide +kernel
theorem dX1_swingsOf_81 : decode cX1_swingsOf 81 = .ok (.aload_n 2, 1) := by decide +kernel
theorem dX1_swingsOf_82 : decode cX1_swingsOf 82 = .ok (.iload_n 3, 1) := by decide +kernel
theorem dX1_swingsOf_83 : decode cX1_swingsOf 83 = .ok (.iload 4, 2) := by decide +kernel
theorem dX1_swingsOf_85 : decode cX1_swingsOf 85 = .ok (.invokevirtual 138, 3) := by decide +kernel
theorem dX1_swingsOf_88 : decode cX1_swingsOf 88 = .ok (.pop, 1) := by decide +kernel
theorem dX1_swingsOf_89 : decode cX1_swingsOf 89 = .ok (.aload_n 0, 1) := by decide +kernel
theorem dX1_swingsOf_90 : decode cX1_swingsOf 90 = .ok (.invokevirtual 145, 3) := by decide +kernel
theorem dX1_swingsOf_93 : decode cX1_swingsOf 93 = .ok (.iconst 4, 1) := by decide +kernel
theorem dX1_swingsOf_94 : decode cX1_swingsOf 94 = .ok (.idiv, 1) := by decide +kernel
theorem dX1_swingsOf_95 : decode cX1_swingsOf 95 = .ok (.ireturn, 1) := by decide +kernel
theorem dX1_swingsOf_96 : decode cX1_swingsOf 96 = .ok (.aload_n 2, 1) := by decide +kernel
theorem dX1_swingsOf_97 : decode cX1_swingsOf 97 = .ok (.getfield 149, 3) := by decide +kernel
theorem dX1_swingsOf_100 : decode cX1_swingsOf 100 = .ok (.iconst 1, 1) := by decide +kernel
theorem dX1_swingsOf_101 : decode cX1_swingsOf 101 = .ok (.if_icmp .ne 18, 3) := by decide +kernel
theorem dX1_swingsOf_104 : decode cX1_swingsOf 104 = .ok (.aload_n 0, 1) := by decide +kernel
theorem dX1_swingsOf_105 : decode cX1_swingsOf 105 = .ok (.aload_n 1, 1) := by decide +kernel
theorem dX1_swingsOf_106 : decode cX1_swingsOf 106 = .ok (.getfield 135, 3) := by decide +kernel
theorem dX1_swingsOf_109 : decode cX1_swingsOf 109 = .ok (.aload_n 2, 1) := by decide +kernel
theorem dX1_swingsOf_110 : decode cX1_swingsOf 110 = .ok (.iload_n 3, 1) := by decide +kernel
theorem dX1_swingsOf_111 : decode cX1_swingsOf 111 = .ok (.iload 4, 2) := by decide +kernel
theorem dX1_swingsOf_113 : decode cX1_swingsOf 113 = .ok (.invokevirtual 138, 3) := by decide +kernel
theorem dX1_swingsOf_116 : decode cX1_swingsOf 116 = .ok (.goto 4, 3) := by decide +kernel
theorem dX1_swingsOf_119 : decode cX1_swingsOf 119 = .ok (.iconst 0, 1) := by decide +kernel
theorem dX1_swingsOf_120 : decode cX1_swingsOf 120 = .ok (.ireturn, 1) := by decide +kernel
theorem dX1_swingsOf_121 : decode cX1_swingsOf 121 = .ok (.aload_n 2, 1) := by decide +kernel
theorem dX1_swingsOf_122 : decode cX1_swingsOf 122 = .ok (.getfield 152, 3) := by decide +kernel
theorem dX1_swingsOf_125 : decode cX1_swingsOf 125 = .ok (.aload_n 1, 1) := by decide +kernel
theorem dX1_swingsOf_126 : decode cX1_swingsOf 126 = .ok (.getfield 155, 3) := by decide +kernel
theorem dX1_swingsOf_129 : decode cX1_swingsOf 129 = .ok (.iconst 4, 1) := by decide +kernel
theorem dX1_swingsOf_130 : decode cX1_swingsOf 130 = .ok (.irem, 1) := by decide +kernel
theorem dX1_swingsOf_131 : decode cX1_swingsOf 131 = .ok (.if_icmp .ne 15, 3) := by decide +kernel
theorem dX1_swingsOf_134 : decode cX1_swingsOf 134 = .ok (.iload 4, 2) := by decide +kernel
theorem dX1_swingsOf_136 : decode cX1_swingsOf 136 = .ok (.aload_n 1, 1) := by decide +kernel
theorem dX1_swingsOf_137 : decode cX1_swingsOf 137 = .ok (.getfield 155, 3) := by decide +kernel
theorem dX1_swingsOf_140 : decode cX1_swingsOf 140 = .ok (.iconst 1, 1) := by decide +kernel
theorem dX1_swingsOf_141 : decode cX1_swingsOf 141 = .ok (.iadd, 1) := by decide +kernel
theorem dX1_swingsOf_142 : decode cX1_swingsOf 142 = .ok (.imul, 1) := by decide +kernel
theorem dX1_swingsOf_143 : decode cX1_swingsOf 143 = .ok (.goto 4, 3) := by decide +kernel
theorem dX1_swingsOf_146 : decode cX1_swingsOf 146 = .ok (.iconst 0, 1) := by decide +kernel
theorem dX1_swingsOf_147 : decode cX1_swingsOf 147 = .ok (.ireturn, 1) := by decide +kernel
theorem dX1_swingsOf_148 : decode cX1_swingsOf 148 = .ok (.aload_n 0, 1) := by decide +kernel
theorem dX1_swingsOf_149 : decode cX1_swingsOf 149 = .ok (.aload_n 1, 1) := by decide +kernel
theorem dX1_swingsOf_150 : decode cX1_swingsOf 150 = .ok (.getfield 135, 3) := by decide +kernel
theorem dX1_swingsOf_153 : decode cX1_swingsOf 153 = .ok (.aload_n 2, 1) := by decide +kernel
theorem dX1_swingsOf_154 : decode cX1_swingsOf 154 = .ok (.iload_n 3, 1) := by decide +kernel
theorem dX1_swingsOf_155 : decode cX1_swingsOf 155 = .ok (.iload 4, 2) := by decide +kernel
theorem dX1_swingsOf_157 : decode cX1_swingsOf 157 = .ok (.invokevirtual 138, 3) := by decide +kernel
theorem dX1_swingsOf_160 : decode cX1_swingsOf 160 = .ok (.ireturn, 1) := by decide +kernel
theorem dX1_strikesOf_0 : decode cX1_strikesOf 0 = .ok (.iconst 1, 1) := by decide +kernel
theorem dX1_strikesOf_1 : decode cX1_strikesOf 1 = .ok (.iload_n 2, 1) := by decide +kernel
theorem dX1_strikesOf_2 : decode cX1_strikesOf 2 = .ok (.aload_n 3, 1) := by decide +kernel
theorem dX1_strikesOf_3 : decode cX1_strikesOf 3 = .ok (.getfield 158, 3) := by decide +kernel
theorem dX1_strikesOf_6 : decode cX1_strikesOf 6 = .ok (.aload_n 1, 1) := by decide +kernel
theorem dX1_strikesOf_7 : decode cX1_strikesOf 7 = .ok (.getfield 155, 3) := by decide +kernel
theorem dX1_strikesOf_10 : decode cX1_strikesOf 10 = .ok (.imul, 1) := by decide +kernel
theorem dX1_strikesOf_11 : decode cX1_strikesOf 11 = .ok (.isub, 1) := by decide +kernel
theorem dX1_strikesOf_12 : decode cX1_strikesOf 12 = .ok (.invokestatic 142, 3) := by decide +kernel
theorem dX1_strikesOf_15 : decode cX1_strikesOf 15 = .ok (.istore 4, 2) := by decide +kernel
theorem dX1_strikesOf_17 : decode cX1_strikesOf 17 = .ok (.aload_n 1, 1) := by decide +kernel
theorem dX1_strikesOf_18 : decode cX1_strikesOf 18 = .ok (.getfield 132, 3) := by decide +kernel
theorem dX1_strikesOf_21 : decode cX1_strikesOf 21 = .ok (.tableswitch 73 1 6 #[39, 73, 42, 52, 73, 61], 39) := by decide +kernel
theorem dX1_strikesOf_60 : decode cX1_strikesOf 60 = .ok (.iload 4, 2) := by decide +kernel
theorem dX1_strikesOf_62 : decode cX1_strikesOf 62 = .ok (.ireturn, 1) := by decide +kernel
theorem dX1_strikesOf_63 : decode cX1_strikesOf 63 = .ok (.iload_n 2, 1) := by decide +kernel
theorem dX1_strikesOf_64 : decode cX1_strikesOf 64 = .ok (.bipush 10, 2) := by decide +kernel
theorem dX1_strikesOf_66 : decode cX1_strikesOf 66 = .ok (.aload_n 1, 1) := by decide +kernel
theorem dX1_strikesOf_67 : decode cX1_strikesOf 67 = .ok (.getfield 155, 3) := by decide +kernel
theorem dX1_strikesOf_70 : decode cX1_strikesOf 70 = .ok (.imul, 1) := by decide +kernel
theorem dX1_strikesOf_71 : decode cX1_strikesOf 71 = .ok (.iadd, 1) := by decide +kernel
theorem dX1_strikesOf_72 : decode cX1_strikesOf 72 = .ok (.ireturn, 1) := by decide +kernel
theorem dX1_strikesOf_73 : decode cX1_strikesOf 73 = .ok (.iconst 1, 1) := by decide +kernel
theorem dX1_strikesOf_74 : decode cX1_strikesOf 74 = .ok (.iload 4, 2) := by decide +kernel
theorem dX1_strikesOf_76 : decode cX1_strikesOf 76 = .ok (.iconst 2, 1) := by decide +kernel
theorem dX1_strikesOf_77 : decode cX1_strikesOf 77 = .ok (.idiv, 1) := by decide +kernel
theorem dX1_strikesOf_78 : decode cX1_strikesOf 78 = .ok (.invokestatic 142, 3) := by decide +kernel
theorem dX1_strikesOf_81 : decode cX1_strikesOf 81 = .ok (.ireturn, 1) := by decide +kernel
theorem dX1_strikesOf_82 : decode cX1_strikesOf 82 = .ok (.iload_n 2, 1) := by decide +kernel
theorem dX1_strikesOf_83 : decode cX1_strikesOf 83 = .ok (.aload_n 0, 1) := by decide +kernel
theorem dX1_strikesOf_84 : decode cX1_strikesOf 84 = .ok (.aload_n 1, 1) := by decide +kernel
theorem dX1_strikesOf_85 : decode cX1_strikesOf 85 = .ok (.getfield 135, 3) := by decide +kernel
theorem dX1_strikesOf_88 : decode cX1_strikesOf 88 = .ok (.aload_n 3, 1) := by decide +kernel
theorem dX1_strikesOf_89 : decode cX1_strikesOf 89 = .ok (.invokevirtual 161, 3) := by decide +kernel
theorem dX1_strikesOf_92 : decode cX1_strikesOf 92 = .ok (.iadd, 1) := by decide +kernel
theorem dX1_strikesOf_93 : decode cX1_strikesOf 93 = .ok (.ireturn, 1) := by decide +kernel
theorem dX1_strikesOf_94 : decode cX1_strikesOf 94 = .ok (.iload_n 2, 1) := by decide +kernel
theorem dX1_strikesOf_95 : decode cX1_strikesOf 95 = .ok (.ireturn, 1) := by decide +kernel
theorem dX1_lossNow_0 : decode cX1_lossNow 0 = .ok (.aload_n 0, 1) := by decide +kernel
theorem dX1_lossNow_1 : decode cX1_lossNow 1 = .ok (.iload_n 1, 1) := by decide +kernel
theorem dX1_lossNow_2 : decode cX1_lossNow 2 = .ok (.invokevirtual 54, 3) := by decide +kernel
theorem dX1_lossNow_5 : decode cX1_lossNow 5 = .ok (.ifCond .eq 12, 3) := by decide +kernel
theorem dX1_lossNow_8 : decode cX1_lossNow 8 = .ok (.aload_n 0, 1) := by decide +kernel
theorem dX1_lossNow_9 : decode cX1_lossNow 9 = .ok (.getfield 20, 3) := by decide +kernel
theorem dX1_lossNow_12 : decode cX1_lossNow 12 = .ok (.iload_n 1, 1) := by decide +kernel
theorem dX1_lossNow_13 : decode cX1_lossNow 13 = .ok (.aaload, 1) := by decide +kernel
theorem dX1_lossNow_14 : decode cX1_lossNow 14 = .ok (.goto 4, 3) := by decide +kernel
theorem dX1_lossNow_17 : decode cX1_lossNow 17 = .ok (.aconst_null, 1) := by decide +kernel
theorem dX1_lossNow_18 : decode cX1_lossNow 18 = .ok (.astore_n 3, 1) := by decide +kernel
theorem dX1_lossNow_19 : decode cX1_lossNow 19 = .ok (.aload_n 3, 1) := by decide +kernel
theorem dX1_lossNow_20 : decode cX1_lossNow 20 = .ok (.ifnonnull 7, 3) := by decide +kernel
theorem dX1_lossNow_23 : decode cX1_lossNow 23 = .ok (.iconst 0, 1) := by decide +kernel
theorem dX1_lossNow_24 : decode cX1_lossNow 24 = .ok (.goto 20, 3) := by decide +kernel
theorem dX1_lossNow_27 : decode cX1_lossNow 27 = .ok (.aload_n 3, 1) := by decide +kernel
theorem dX1_lossNow_28 : decode cX1_lossNow 28 = .ok (.aload_n 2, 1) := by decide +kernel
theorem dX1_lossNow_29 : decode cX1_lossNow 29 = .ok (.getfield 106, 3) := by decide +kernel
theorem dX1_lossNow_32 : decode cX1_lossNow 32 = .ok (.iload_n 1, 1) := by decide +kernel
theorem dX1_lossNow_33 : decode cX1_lossNow 33 = .ok (.if_icmp .ne 7, 3) := by decide +kernel
theorem dX1_lossNow_36 : decode cX1_lossNow 36 = .ok (.iconst 1, 1) := by decide +kernel
theorem dX1_lossNow_37 : decode cX1_lossNow 37 = .ok (.goto 4, 3) := by decide +kernel
theorem dX1_lossNow_40 : decode cX1_lossNow 40 = .ok (.iconst 0, 1) := by decide +kernel
theorem dX1_lossNow_41 : decode cX1_lossNow 41 = .ok (.invokevirtual 109, 3) := by decide +kernel
theorem dX1_lossNow_44 : decode cX1_lossNow 44 = .ok (.ireturn, 1) := by decide +kernel
theorem dX1_isBuzzing_0 : decode cX1_isBuzzing 0 = .ok (.aload_n 0, 1) := by decide +kernel
theorem dX1_isBuzzing_1 : decode cX1_isBuzzing 1 = .ok (.aload_n 1, 1) := by decide +kernel
theorem dX1_isBuzzing_2 : decode cX1_isBuzzing 2 = .ok (.aload_n 2, 1) := by decide +kernel
theorem dX1_isBuzzing_3 : decode cX1_isBuzzing 3 = .ok (.iload_n 3, 1) := by decide +kernel
theorem dX1_isBuzzing_4 : decode cX1_isBuzzing 4 = .ok (.iload 4, 2) := by decide +kernel
theorem dX1_isBuzzing_6 : decode cX1_isBuzzing 6 = .ok (.invokevirtual 165, 3) := by decide +kernel
theorem dX1_isBuzzing_9 : decode cX1_isBuzzing 9 = .ok (.aload_n 0, 1) := by decide +kernel
theorem dX1_isBuzzing_10 : decode cX1_isBuzzing 10 = .ok (.aload_n 1, 1) := by decide +kernel
theorem dX1_isBuzzing_11 : decode cX1_isBuzzing 11 = .ok (.aload_n 1, 1) := by decide +kernel
theorem dX1_isBuzzing_12 : decode cX1_isBuzzing 12 = .ok (.getfield 169, 3) := by decide +kernel
theorem dX1_isBuzzing_15 : decode cX1_isBuzzing 15 = .ok (.aload_n 2, 1) := by decide +kernel
theorem dX1_isBuzzing_16 : decode cX1_isBuzzing 16 = .ok (.invokevirtual 172, 3) := by decide +kernel
theorem dX1_isBuzzing_19 : decode cX1_isBuzzing 19 = .ok (.if_icmp .le 7, 3) := by decide +kernel
theorem dX1_isBuzzing_22 : decode cX1_isBuzzing 22 = .ok (.iconst 1, 1) := by decide +kernel
theorem dX1_isBuzzing_23 : decode cX1_isBuzzing 23 = .ok (.goto 4, 3) := by decide +kernel
theorem dX1_isBuzzing_26 : decode cX1_isBuzzing 26 = .ok (.iconst 0, 1) := by decide +kernel
theorem dX1_isBuzzing_27 : decode cX1_isBuzzing 27 = .ok (.ireturn, 1) := by decide +kernel
theorem dX1_buzzingAt_0 : decode cX1_buzzingAt 0 = .ok (.iconst 0, 1) := by decide +kernel
theorem dX1_buzzingAt_1 : decode cX1_buzzingAt 1 = .ok (.istore_n 3, 1) := by decide +kernel
theorem dX1_buzzingAt_2 : decode cX1_buzzingAt 2 = .ok (.iconst 0, 1) := by decide +kernel
theorem dX1_buzzingAt_3 : decode cX1_buzzingAt 3 = .ok (.istore 4, 2) := by decide +kernel
theorem dX1_buzzingAt_5 : decode cX1_buzzingAt 5 = .ok (.iload 4, 2) := by decide +kernel
theorem dX1_buzzingAt_7 : decode cX1_buzzingAt 7 = .ok (.aload_n 0, 1) := by decide +kernel
theorem dX1_buzzingAt_8 : decode cX1_buzzingAt 8 = .ok (.getfield 44, 3) := by decide +kernel
theorem dX1_buzzingAt_11 : decode cX1_buzzingAt 11 = .ok (.if_icmp .ge 44, 3) := by decide +kernel
theorem dX1_buzzingAt_14 : decode cX1_buzzingAt 14 = .ok (.aload_n 0, 1) := by decide +kernel
theorem dX1_buzzingAt_15 : decode cX1_buzzingAt 15 = .ok (.iload 4, 2) := by decide +kernel
theorem dX1_buzzingAt_17 : decode cX1_buzzingAt 17 = .ok (.invokevirtual 176, 3) := by decide +kernel
theorem dX1_buzzingAt_20 : decode cX1_buzzingAt 20 = .ok (.astore 5, 2) := by decide +kernel
theorem dX1_buzzingAt_22 : decode cX1_buzzingAt 22 = .ok (.aload 5, 2) := by decide +kernel
theorem dX1_buzzingAt_24 : decode cX1_buzzingAt 24 = .ok (.ifnull 25, 3) := by decide +kernel
theorem dX1_buzzingAt_27 : decode cX1_buzzingAt 27 = .ok (.aload_n 0, 1) := by decide +kernel
theorem dX1_buzzingAt_28 : decode cX1_buzzingAt 28 = .ok (.aload 5, 2) := by decide +kernel
theorem dX1_buzzingAt_30 : decode cX1_buzzingAt 30 = .ok (.aload_n 0, 1) := by decide +kernel
theorem dX1_buzzingAt_31 : decode cX1_buzzingAt 31 = .ok (.getfield 12, 3) := by decide +kernel
theorem dX1_buzzingAt_34 : decode cX1_buzzingAt 34 = .ok (.iload_n 1, 1) := by decide +kernel
theorem dX1_buzzingAt_35 : decode cX1_buzzingAt 35 = .ok (.iload_n 2, 1) := by decide +kernel
theorem dX1_buzzingAt_36 : decode cX1_buzzingAt 36 = .ok (.invokevirtual 180, 3) := by decide +kernel
theorem dX1_buzzingAt_39 : decode cX1_buzzingAt 39 = .ok (.ifCond .eq 10, 3) := by decide +kernel
theorem dX1_buzzingAt_42 : decode cX1_buzzingAt 42 = .ok (.iload_n 3, 1) := by decide +kernel
theorem dX1_buzzingAt_43 : decode cX1_buzzingAt 43 = .ok (.iconst 1, 1) := by decide +kernel
theorem dX1_buzzingAt_44 : decode cX1_buzzingAt 44 = .ok (.iload 4, 2) := by decide +kernel
theorem dX1_buzzingAt_46 : decode cX1_buzzingAt 46 = .ok (.ishl, 1) := by decide +kernel
theorem dX1_buzzingAt_47 : decode cX1_buzzingAt 47 = .ok (.ior, 1) := by decide +kernel
theorem dX1_buzzingAt_48 : decode cX1_buzzingAt 48 = .ok (.istore_n 3, 1) := by decide +kernel
theorem dX1_buzzingAt_49 : decode cX1_buzzingAt 49 = .ok (.iinc 4 1, 3) := by decide +kernel
theorem dX1_buzzingAt_52 : decode cX1_buzzingAt 52 = .ok (.goto (-47), 3) := by decide +kernel
theorem dX1_buzzingAt_55 : decode cX1_buzzingAt 55 = .ok (.iload_n 3, 1) := by decide +kernel
theorem dX1_buzzingAt_56 : decode cX1_buzzingAt 56 = .ok (.ireturn, 1) := by decide +kernel
theorem dX1_isFit_0 : decode cX1_isFit 0 = .ok (.iconst 0, 1) := by decide +kernel
theorem dX1_isFit_1 : decode cX1_isFit 1 = .ok (.istore_n 2, 1) := by decide +kernel
theorem dX1_isFit_2 : decode cX1_isFit 2 = .ok (.iload_n 2, 1) := by decide +kernel
theorem dX1_isFit_3 : decode cX1_isFit 3 = .ok (.aload_n 0, 1) := by decide +kernel
theorem dX1_isFit_4 : decode cX1_isFit 4 = .ok (.getfield 47, 3) := by decide +kernel
theorem dX1_isFit_7 : decode cX1_isFit 7 = .ok (.if_icmp .ge 29, 3) := by decide +kernel
theorem dX1_isFit_10 : decode cX1_isFit 10 = .ok (.aload_n 0, 1) := by decide +kernel
theorem dX1_isFit_11 : decode cX1_isFit 11 = .ok (.iload_n 2, 1) := by decide +kernel
theorem dX1_isFit_12 : decode cX1_isFit 12 = .ok (.invokevirtual 184, 3) := by decide +kernel
theorem dX1_isFit_15 : decode cX1_isFit 15 = .ok (.astore_n 3, 1) := by decide +kernel
theorem dX1_isFit_16 : decode cX1_isFit 16 = .ok (.aload_n 3, 1) := by decide +kernel
theorem dX1_isFit_17 : decode cX1_isFit 17 = .ok (.ifnull 13, 3) := by decide +kernel
theorem dX1_isFit_20 : decode cX1_isFit 20 = .ok (.aload_n 3, 1) := by decide +kernel
theorem dX1_isFit_21 : decode cX1_isFit 21 = .ok (.iload_n 1, 1) := by decide +kernel
theorem dX1_isFit_22 : decode cX1_isFit 22 = .ok (.invokevirtual 188, 3) := by decide +kernel
theorem dX1_isFit_25 : decode cX1_isFit 25 = .ok (.ifCond .ne 5, 3) := by decide +kernel
theorem dX1_isFit_28 : decode cX1_isFit 28 = .ok (.iconst 0, 1) := by decide +kernel
theorem dX1_isFit_29 : decode cX1_isFit 29 = .ok (.ireturn, 1) := by decide +kernel
theorem dX1_isFit_30 : decode cX1_isFit 30 = .ok (.iinc 2 1, 3) := by decide +kernel
theorem dX1_isFit_33 : decode cX1_isFit 33 = .ok (.goto (-31), 3) := by decide +kernel
theorem dX1_isFit_36 : decode cX1_isFit 36 = .ok (.iconst 1, 1) := by decide +kernel
theorem dX1_isFit_37 : decode cX1_isFit 37 = .ok (.ireturn, 1) := by decide +kernel
theorem dX1_fitting_0 : decode cX1_fitting 0 = .ok (.iconst 0, 1) := by decide +kernel
theorem dX1_fitting_1 : decode cX1_fitting 1 = .ok (.istore_n 1, 1) := by decide +kernel
theorem dX1_fitting_2 : decode cX1_fitting 2 = .ok (.iconst 0, 1) := by decide +kernel
theorem dX1_fitting_3 : decode cX1_fitting 3 = .ok (.istore_n 2, 1) := by decide +kernel
theorem dX1_fitting_4 : decode cX1_fitting 4 = .ok (.iload_n 2, 1) := by decide +kernel
theorem dX1_fitting_5 : decode cX1_fitting 5 = .ok (.aload_n 0, 1) := by decide +kernel
theorem dX1_fitting_6 : decode cX1_fitting 6 = .ok (.getfield 44, 3) := by decide +kernel
theorem dX1_fitting_9 : decode cX1_fitting 9 = .ok (.if_icmp .ge 25, 3) := by decide +kernel
theorem dX1_fitting_12 : decode cX1_fitting 12 = .ok (.aload_n 0, 1) := by decide +kernel
theorem dX1_fitting_13 : decode cX1_fitting 13 = .ok (.iconst 1, 1) := by decide +kernel
theorem dX1_fitting_14 : decode cX1_fitting 14 = .ok (.iload_n 2, 1) := by decide +kernel
theorem dX1_fitting_15 : decode cX1_fitting 15 = .ok (.ishl, 1) := by decide +kernel
theorem dX1_fitting_16 : decode cX1_fitting 16 = .ok (.invokevirtual 191, 3) := by decide +kernel
theorem dX1_fitting_19 : decode cX1_fitting 19 = .ok (.ifCond .eq 9, 3) := by decide +kernel
theorem dX1_fitting_22 : decode cX1_fitting 22 = .ok (.iload_n 1, 1) := by decide +kernel
theorem dX1_fitting_23 : decode cX1_fitting 23 = .ok (.iconst 1, 1) := by decide +kernel
theorem dX1_fitting_24 : decode cX1_fitting 24 = .ok (.iload_n 2, 1) := by decide +kernel
theorem dX1_fitting_25 : decode cX1_fitting 25 = .ok (.ishl, 1) := by decide +kernel
theorem dX1_fitting_26 : decode cX1_fitting 26 = .ok (.ior, 1) := by decide +kernel
theorem dX1_fitting_27 : decode cX1_fitting 27 = .ok (.istore_n 1, 1) := by decide +kernel
theorem dX1_fitting_28 : decode cX1_fitting 28 = .ok (.iinc 2 1, 3) := by decide +kernel
theorem dX1_fitting_31 : decode cX1_fitting 31 = .ok (.goto (-27), 3) := by decide +kernel
theorem dX1_fitting_34 : decode cX1_fitting 34 = .ok (.iload_n 1, 1) := by decide +kernel
theorem dX1_fitting_35 : decode cX1_fitting 35 = .ok (.ireturn, 1) := by decide +kernel
theorem dX1_chancesOf_0 : decode cX1_chancesOf 0 = .ok (.iconst 0, 1) := by decide +kernel
theorem dX1_chancesOf_1 : decode cX1_chancesOf 1 = .ok (.istore_n 2, 1) := by decide +kernel
theorem dX1_chancesOf_2 : decode cX1_chancesOf 2 = .ok (.iconst 0, 1) := by decide +kernel
theorem dX1_chancesOf_3 : decode cX1_chancesOf 3 = .ok (.istore_n 3, 1) := by decide +kernel
theorem dX1_chancesOf_4 : decode cX1_chancesOf 4 = .ok (.iload_n 3, 1) := by decide +kernel
theorem dX1_chancesOf_5 : decode cX1_chancesOf 5 = .ok (.aload_n 0, 1) := by decide +kernel
theorem dX1_chancesOf_6 : decode cX1_chancesOf 6 = .ok (.getfield 44, 3) := by decide +kernel
theorem dX1_chancesOf_9 : decode cX1_chancesOf 9 = .ok (.if_icmp .ge 37, 3) := by decide +kernel
theorem dX1_chancesOf_12 : decode cX1_chancesOf 12 = .ok (.aload_n 0, 1) := by decide +kernel
theorem dX1_chancesOf_13 : decode cX1_chancesOf 13 = .ok (.iload_n 3, 1) := by decide +kernel
theorem dX1_chancesOf_14 : decode cX1_chancesOf 14 = .ok (.invokevirtual 176, 3) := by decide +kernel
theorem dX1_chancesOf_17 : decode cX1_chancesOf 17 = .ok (.astore 4, 2) := by decide +kernel
theorem dX1_chancesOf_19 : decode cX1_chancesOf 19 = .ok (.aload 4, 2) := by decide +kernel
theorem dX1_chancesOf_21 : decode cX1_chancesOf 21 = .ok (.ifnull 19, 3) := by decide +kernel
theorem dX1_chancesOf_24 : decode cX1_chancesOf 24 = .ok (.iload_n 1, 1) := by decide +kernel
theorem dX1_chancesOf_25 : decode cX1_chancesOf 25 = .ok (.iload_n 3, 1) := by decide +kernel
theorem dX1_chancesOf_26 : decode cX1_chancesOf 26 = .ok (.ishr, 1) := by decide +kernel
theorem dX1_chancesOf_27 : decode cX1_chancesOf 27 = .ok (.iconst 1, 1) := by decide +kernel
theorem dX1_chancesOf_28 : decode cX1_chancesOf 28 = .ok (.iand, 1) := by decide +kernel
theorem dX1_chancesOf_29 : decode cX1_chancesOf 29 = .ok (.ifCond .eq 11, 3) := by decide +kernel
theorem dX1_chancesOf_32 : decode cX1_chancesOf 32 = .ok (.iload_n 2, 1) := by decide +kernel
theorem dX1_chancesOf_33 : decode cX1_chancesOf 33 = .ok (.aload 4, 2) := by decide +kernel
theorem dX1_chancesOf_35 : decode cX1_chancesOf 35 = .ok (.getfield 192, 3) := by decide +kernel
theorem dX1_chancesOf_38 : decode cX1_chancesOf 38 = .ok (.iadd, 1) := by decide +kernel
theorem dX1_chancesOf_39 : decode cX1_chancesOf 39 = .ok (.istore_n 2, 1) := by decide +kernel
theorem dX1_chancesOf_40 : decode cX1_chancesOf 40 = .ok (.iinc 3 1, 3) := by decide +kernel
theorem dX1_chancesOf_43 : decode cX1_chancesOf 43 = .ok (.goto (-39), 3) := by decide +kernel
theorem dX1_chancesOf_46 : decode cX1_chancesOf 46 = .ok (.iload_n 2, 1) := by decide +kernel
theorem dX1_chancesOf_47 : decode cX1_chancesOf 47 = .ok (.ireturn, 1) := by decide +kernel
theorem dX1_costsOf_0 : decode cX1_costsOf 0 = .ok (.iconst 0, 1) := by decide +kernel
theorem dX1_costsOf_1 : decode cX1_costsOf 1 = .ok (.istore_n 2, 1) := by decide +kernel
theorem dX1_costsOf_2 : decode cX1_costsOf 2 = .ok (.iconst 0, 1) := by decide +kernel
theorem dX1_costsOf_3 : decode cX1_costsOf 3 = .ok (.istore_n 3, 1) := by decide +kernel
theorem dX1_costsOf_4 : decode cX1_costsOf 4 = .ok (.iload_n 3, 1) := by decide +kernel
theorem dX1_costsOf_5 : decode cX1_costsOf 5 = .ok (.aload_n 0, 1) := by decide +kernel
theorem dX1_costsOf_6 : decode cX1_costsOf 6 = .ok (.getfield 44, 3) := by decide +kernel
theorem dX1_costsOf_9 : decode cX1_costsOf 9 = .ok (.if_icmp .ge 37, 3) := by decide +kernel
theorem dX1_costsOf_12 : decode cX1_costsOf 12 = .ok (.aload_n 0, 1) := by decide +kernel
theorem dX1_costsOf_13 : decode cX1_costsOf 13 = .ok (.iload_n 3, 1) := by decide +kernel
theorem dX1_costsOf_14 : decode cX1_costsOf 14 = .ok (.invokevirtual 176, 3) := by decide +kernel
theorem dX1_costsOf_17 : decode cX1_costsOf 17 = .ok (.astore 4, 2) := by decide +kernel
theorem dX1_costsOf_19 : decode cX1_costsOf 19 = .ok (.aload 4, 2) := by decide +kernel
theorem dX1_costsOf_21 : decode cX1_costsOf 21 = .ok (.ifnull 19, 3) := by decide +kernel
theorem dX1_costsOf_24 : decode cX1_costsOf 24 = .ok (.iload_n 1, 1) := by decide +kernel
theorem dX1_costsOf_25 : decode cX1_costsOf 25 = .ok (.iload_n 3, 1) := by decide +kernel
theorem dX1_costsOf_26 : decode cX1_costsOf 26 = .ok (.ishr, 1) := by decide +kernel
theorem dX1_costsOf_27 : decode cX1_costsOf 27 = .ok (.iconst 1, 1) := by decide +kernel
theorem dX1_costsOf_28 : decode cX1_costsOf 28 = .ok (.iand, 1) := by decide +kernel
theorem dX1_costsOf_29 : decode cX1_costsOf 29 = .ok (.ifCond .eq 11, 3) := by decide +kernel
theorem dX1_costsOf_32 : decode cX1_costsOf 32 = .ok (.iload_n 2, 1) := by decide +kernel
theorem dX1_costsOf_33 : decode cX1_costsOf 33 = .ok (.aload 4, 2) := by decide +kernel
theorem dX1_costsOf_35 : decode cX1_costsOf 35 = .ok (.invokevirtual 195, 3) := by decide +kernel
theorem dX1_costsOf_38 : decode cX1_costsOf 38 = .ok (.iadd, 1) := by decide +kernel
theorem dX1_costsOf_39 : decode cX1_costsOf 39 = .ok (.istore_n 2, 1) := by decide +kernel
theorem dX1_costsOf_40 : decode cX1_costsOf 40 = .ok (.iinc 3 1, 3) := by decide +kernel
theorem dX1_costsOf_43 : decode cX1_costsOf 43 = .ok (.goto (-39), 3) := by decide +kernel
theorem dX1_costsOf_46 : decode cX1_costsOf 46 = .ok (.iload_n 2, 1) := by decide +kernel
theorem dX1_costsOf_47 : decode cX1_costsOf 47 = .ok (.ireturn, 1) := by decide +kernel
theorem dX1_seamStrikes_0 : decode cX1_seamStrikes 0 = .ok (.iconst 0, 1) := by decide +kernel
theorem dX1_seamStrikes_1 : decode cX1_seamStrikes 1 = .ok (.istore_n 2, 1) := by decide +kernel
theorem dX1_seamStrikes_2 : decode cX1_seamStrikes 2 = .ok (.iconst 0, 1) := by decide +kernel
theorem dX1_seamStrikes_3 : decode cX1_seamStrikes 3 = .ok (.istore_n 3, 1) := by decide +kernel
theorem dX1_seamStrikes_4 : decode cX1_seamStrikes 4 = .ok (.iload_n 3, 1) := by decide +kernel
theorem dX1_seamStrikes_5 : decode cX1_seamStrikes 5 = .ok (.aload_n 0, 1) := by decide +kernel
theorem dX1_seamStrikes_6 : decode cX1_seamStrikes 6 = .ok (.getfield 44, 3) := by decide +kernel
theorem dX1_seamStrikes_9 : decode cX1_seamStrikes 9 = .ok (.if_icmp .ge 44, 3) := by decide +kernel
theorem dX1_seamStrikes_12 : decode cX1_seamStrikes 12 = .ok (.aload_n 0, 1) := by decide +kernel
theorem dX1_seamStrikes_13 : decode cX1_seamStrikes 13 = .ok (.iload_n 3, 1) := by decide +kernel
theorem dX1_seamStrikes_14 : decode cX1_seamStrikes 14 = .ok (.invokevirtual 176, 3) := by decide +kernel
theorem dX1_seamStrikes_17 : decode cX1_seamStrikes 17 = .ok (.astore 4, 2) := by decide +kernel
theorem dX1_seamStrikes_19 : decode cX1_seamStrikes 19 = .ok (.aload 4, 2) := by decide +kernel
theorem dX1_seamStrikes_21 : decode cX1_seamStrikes 21 = .ok (.ifnull 26, 3) := by decide +kernel
theorem dX1_seamStrikes_24 : decode cX1_seamStrikes 24 = .ok (.aload 4, 2) := by decide +kernel
theorem dX1_seamStrikes_26 : decode cX1_seamStrikes 26 = .ok (.invokevirtual 198, 3) := by decide +kernel
theorem dX1_seamStrikes_29 : decode cX1_seamStrikes 29 = .ok (.ifCond .eq 18, 3) := by decide +kernel
theorem dX1_seamStrikes_32 : decode cX1_seamStrikes 32 = .ok (.iload_n 2, 1) := by decide +kernel
theorem dX1_seamStrikes_33 : decode cX1_seamStrikes 33 = .ok (.aload_n 0, 1) := by decide +kernel
theorem dX1_seamStrikes_34 : decode cX1_seamStrikes 34 = .ok (.aload 4, 2) := by decide +kernel
theorem dX1_seamStrikes_36 : decode cX1_seamStrikes 36 = .ok (.aload 4, 2) := by decide +kernel
theorem dX1_seamStrikes_38 : decode cX1_seamStrikes 38 = .ok (.getfield 169, 3) := by decide +kernel
theorem dX1_seamStrikes_41 : decode cX1_seamStrikes 41 = .ok (.aload_n 1, 1) := by decide +kernel
theorem dX1_seamStrikes_42 : decode cX1_seamStrikes 42 = .ok (.invokevirtual 172, 3) := by decide +kernel
theorem dX1_seamStrikes_45 : decode cX1_seamStrikes 45 = .ok (.iadd, 1) := by decide +kernel
theorem dX1_seamStrikes_46 : decode cX1_seamStrikes 46 = .ok (.istore_n 2, 1) := by decide +kernel
theorem dX1_seamStrikes_47 : decode cX1_seamStrikes 47 = .ok (.iinc 3 1, 3) := by decide +kernel
theorem dX1_seamStrikes_50 : decode cX1_seamStrikes 50 = .ok (.goto (-46), 3) := by decide +kernel
theorem dX1_seamStrikes_53 : decode cX1_seamStrikes 53 = .ok (.iload_n 2, 1) := by decide +kernel
theorem dX1_seamStrikes_54 : decode cX1_seamStrikes 54 = .ok (.ireturn, 1) := by decide +kernel
theorem dX1_toneIn_0 : decode cX1_toneIn 0 = .ok (.aload_n 0, 1) := by decide +kernel
theorem dX1_toneIn_1 : decode cX1_toneIn 1 = .ok (.iload_n 1, 1) := by decide +kernel
theorem dX1_toneIn_2 : decode cX1_toneIn 2 = .ok (.invokevirtual 202, 3) := by decide +kernel
theorem dX1_toneIn_5 : decode cX1_toneIn 5 = .ok (.astore_n 3, 1) := by decide +kernel
theorem dX1_toneIn_6 : decode cX1_toneIn 6 = .ok (.aload_n 3, 1) := by decide +kernel
theorem dX1_toneIn_7 : decode cX1_toneIn 7 = .ok (.ifnonnull 7, 3) := by decide +kernel
theorem dX1_toneIn_10 : decode cX1_toneIn 10 = .ok (.iconst 0, 1) := by decide +kernel
theorem dX1_toneIn_11 : decode cX1_toneIn 11 = .ok (.goto 12, 3) := by decide +kernel
theorem dX1_toneIn_14 : decode cX1_toneIn 14 = .ok (.aload_n 3, 1) := by decide +kernel
theorem dX1_toneIn_15 : decode cX1_toneIn 15 = .ok (.aload_n 2, 1) := by decide +kernel
theorem dX1_toneIn_16 : decode cX1_toneIn 16 = .ok (.iload_n 1, 1) := by decide +kernel
theorem dX1_toneIn_17 : decode cX1_toneIn 17 = .ok (.invokevirtual 113, 3) := by decide +kernel
theorem dX1_toneIn_20 : decode cX1_toneIn 20 = .ok (.invokevirtual 116, 3) := by decide +kernel
theorem dX1_toneIn_23 : decode cX1_toneIn 23 = .ok (.ireturn, 1) := by decide +kernel
theorem dX1_shiftBy_0 : decode cX1_shiftBy 0 = .ok (.aload_n 0, 1) := by decide +kernel
theorem dX1_shiftBy_1 : decode cX1_shiftBy 1 = .ok (.iload_n 1, 1) := by decide +kernel
theorem dX1_shiftBy_2 : decode cX1_shiftBy 2 = .ok (.invokevirtual 202, 3) := by decide +kernel
theorem dX1_shiftBy_5 : decode cX1_shiftBy 5 = .ok (.astore_n 3, 1) := by decide +kernel
theorem dX1_shiftBy_6 : decode cX1_shiftBy 6 = .ok (.aload_n 3, 1) := by decide +kernel
theorem dX1_shiftBy_7 : decode cX1_shiftBy 7 = .ok (.ifnonnull 7, 3) := by decide +kernel
theorem dX1_shiftBy_10 : decode cX1_shiftBy 10 = .ok (.iconst 0, 1) := by decide +kernel
theorem dX1_shiftBy_11 : decode cX1_shiftBy 11 = .ok (.goto 27, 3) := by decide +kernel
theorem dX1_shiftBy_14 : decode cX1_shiftBy 14 = .ok (.aload_n 0, 1) := by decide +kernel
theorem dX1_shiftBy_15 : decode cX1_shiftBy 15 = .ok (.iload_n 1, 1) := by decide +kernel
theorem dX1_shiftBy_16 : decode cX1_shiftBy 16 = .ok (.aload_n 0, 1) := by decide +kernel
theorem dX1_shiftBy_17 : decode cX1_shiftBy 17 = .ok (.getfield 12, 3) := by decide +kernel
theorem dX1_shiftBy_20 : decode cX1_shiftBy 20 = .ok (.invokevirtual 206, 3) := by decide +kernel
theorem dX1_shiftBy_23 : decode cX1_shiftBy 23 = .ok (.aload_n 3, 1) := by decide +kernel
theorem dX1_shiftBy_24 : decode cX1_shiftBy 24 = .ok (.aload_n 0, 1) := by decide +kernel
theorem dX1_shiftBy_25 : decode cX1_shiftBy 25 = .ok (.getfield 12, 3) := by decide +kernel
theorem dX1_shiftBy_28 : decode cX1_shiftBy 28 = .ok (.iload_n 1, 1) := by decide +kernel
theorem dX1_shiftBy_29 : decode cX1_shiftBy 29 = .ok (.invokevirtual 113, 3) := by decide +kernel
theorem dX1_shiftBy_32 : decode cX1_shiftBy 32 = .ok (.iload_n 2, 1) := by decide +kernel
theorem dX1_shiftBy_33 : decode cX1_shiftBy 33 = .ok (.iadd, 1) := by decide +kernel
theorem dX1_shiftBy_34 : decode cX1_shiftBy 34 = .ok (.invokevirtual 116, 3) := by decide +kernel
theorem dX1_shiftBy_37 : decode cX1_shiftBy 37 = .ok (.isub, 1) := by decide +kernel
theorem dX1_shiftBy_38 : decode cX1_shiftBy 38 = .ok (.ireturn, 1) := by decide +kernel
theorem dX1_apart_0 : decode cX1_apart 0 = .ok (.aload_n 0, 1) := by decide +kernel
theorem dX1_apart_1 : decode cX1_apart 1 = .ok (.iload_n 1, 1) := by decide +kernel
theorem dX1_apart_2 : decode cX1_apart 2 = .ok (.aload_n 3, 1) := by decide +kernel
theorem dX1_apart_3 : decode cX1_apart 3 = .ok (.invokevirtual 206, 3) := by decide +kernel
theorem dX1_apart_6 : decode cX1_apart 6 = .ok (.aload_n 0, 1) := by decide +kernel
theorem dX1_apart_7 : decode cX1_apart 7 = .ok (.iload_n 2, 1) := by decide +kernel
theorem dX1_apart_8 : decode cX1_apart 8 = .ok (.aload_n 3, 1) := by decide +kernel
theorem dX1_apart_9 : decode cX1_apart 9 = .ok (.invokevirtual 206, 3) := by decide +kernel
theorem dX1_apart_12 : decode cX1_apart 12 = .ok (.isub, 1) := by decide +kernel
theorem dX1_apart_13 : decode cX1_apart 13 = .ok (.invokestatic 119, 3) := by decide +kernel
theorem dX1_apart_16 : decode cX1_apart 16 = .ok (.ireturn, 1) := by decide +kernel
theorem dX1_isWolf_0 : decode cX1_isWolf 0 = .ok (.aload_n 0, 1) := by decide +kernel
theorem dX1_isWolf_1 : decode cX1_isWolf 1 = .ok (.iload_n 2, 1) := by decide +kernel
theorem dX1_isWolf_2 : decode cX1_isWolf 2 = .ok (.invokevirtual 202, 3) := by decide +kernel
theorem dX1_isWolf_5 : decode cX1_isWolf 5 = .ok (.astore 4, 2) := by decide +kernel
theorem dX1_isWolf_7 : decode cX1_isWolf 7 = .ok (.aload 4, 2) := by decide +kernel
theorem dX1_isWolf_9 : decode cX1_isWolf 9 = .ok (.ifnull 28, 3) := by decide +kernel
theorem dX1_isWolf_12 : decode cX1_isWolf 12 = .ok (.aload 4, 2) := by decide +kernel
theorem dX1_isWolf_14 : decode cX1_isWolf 14 = .ok (.getfield 124, 3) := by decide +kernel
theorem dX1_isWolf_17 : decode cX1_isWolf 17 = .ok (.iload_n 1, 1) := by decide +kernel
theorem dX1_isWolf_18 : decode cX1_isWolf 18 = .ok (.if_icmp .ne 19, 3) := by decide +kernel
theorem dX1_isWolf_21 : decode cX1_isWolf 21 = .ok (.aload_n 0, 1) := by decide +kernel
theorem dX1_isWolf_22 : decode cX1_isWolf 22 = .ok (.iload_n 1, 1) := by decide +kernel
theorem dX1_isWolf_23 : decode cX1_isWolf 23 = .ok (.iload_n 2, 1) := by decide +kernel
theorem dX1_isWolf_24 : decode cX1_isWolf 24 = .ok (.aload_n 3, 1) := by decide +kernel
theorem dX1_isWolf_25 : decode cX1_isWolf 25 = .ok (.invokevirtual 209, 3) := by decide +kernel
theorem dX1_isWolf_28 : decode cX1_isWolf 28 = .ok (.bipush 6, 2) := by decide +kernel
theorem dX1_isWolf_30 : decode cX1_isWolf 30 = .ok (.if_icmp .ge 7, 3) := by decide +kernel
theorem dX1_isWolf_33 : decode cX1_isWolf 33 = .ok (.iconst 1, 1) := by decide +kernel
theorem dX1_isWolf_34 : decode cX1_isWolf 34 = .ok (.goto 4, 3) := by decide +kernel
theorem dX1_isWolf_37 : decode cX1_isWolf 37 = .ok (.iconst 0, 1) := by decide +kernel
theorem dX1_isWolf_38 : decode cX1_isWolf 38 = .ok (.ireturn, 1) := by decide +kernel
theorem dX1_wolves_0 : decode cX1_wolves 0 = .ok (.iconst 0, 1) := by decide +kernel
theorem dX1_wolves_1 : decode cX1_wolves 1 = .ok (.istore_n 2, 1) := by decide +kernel
theorem dX1_wolves_2 : decode cX1_wolves 2 = .ok (.iconst 0, 1) := by decide +kernel
theorem dX1_wolves_3 : decode cX1_wolves 3 = .ok (.istore_n 3, 1) := by decide +kernel
theorem dX1_wolves_4 : decode cX1_wolves 4 = .ok (.iload_n 3, 1) := by decide +kernel
theorem dX1_wolves_5 : decode cX1_wolves 5 = .ok (.aload_n 0, 1) := by decide +kernel
theorem dX1_wolves_6 : decode cX1_wolves 6 = .ok (.getfield 40, 3) := by decide +kernel
theorem dX1_wolves_9 : decode cX1_wolves 9 = .ok (.if_icmp .ge 46, 3) := by decide +kernel
theorem dX1_wolves_12 : decode cX1_wolves 12 = .ok (.aload_n 0, 1) := by decide +kernel
theorem dX1_wolves_13 : decode cX1_wolves 13 = .ok (.iload_n 3, 1) := by decide +kernel
theorem dX1_wolves_14 : decode cX1_wolves 14 = .ok (.invokevirtual 202, 3) := by decide +kernel
theorem dX1_wolves_17 : decode cX1_wolves 17 = .ok (.astore 4, 2) := by decide +kernel
theorem dX1_wolves_19 : decode cX1_wolves 19 = .ok (.aload 4, 2) := by decide +kernel
theorem dX1_wolves_21 : decode cX1_wolves 21 = .ok (.ifnull 28, 3) := by decide +kernel
theorem dX1_wolves_24 : decode cX1_wolves 24 = .ok (.aload 4, 2) := by decide +kernel
theorem dX1_wolves_26 : decode cX1_wolves 26 = .ok (.getfield 124, 3) := by decide +kernel
theorem dX1_wolves_29 : decode cX1_wolves 29 = .ok (.ifCond .lt 20, 3) := by decide +kernel
theorem dX1_wolves_32 : decode cX1_wolves 32 = .ok (.aload_n 0, 1) := by decide +kernel
theorem dX1_wolves_33 : decode cX1_wolves 33 = .ok (.aload 4, 2) := by decide +kernel
theorem dX1_wolves_35 : decode cX1_wolves 35 = .ok (.getfield 124, 3) := by decide +kernel
theorem dX1_wolves_38 : decode cX1_wolves 38 = .ok (.iload_n 3, 1) := by decide +kernel
theorem dX1_wolves_39 : decode cX1_wolves 39 = .ok (.aload_n 1, 1) := by decide +kernel
theorem dX1_wolves_40 : decode cX1_wolves 40 = .ok (.invokevirtual 213, 3) := by decide +kernel
theorem dX1_wolves_43 : decode cX1_wolves 43 = .ok (.ifCond .eq 6, 3) := by decide +kernel
theorem dX1_wolves_46 : decode cX1_wolves 46 = .ok (.iinc 2 1, 3) := by decide +kernel
theorem dX1_wolves_49 : decode cX1_wolves 49 = .ok (.iinc 3 1, 3) := by decide +kernel
theorem dX1_wolves_52 : decode cX1_wolves 52 = .ok (.goto (-48), 3) := by decide +kernel
theorem dX1_wolves_55 : decode cX1_wolves 55 = .ok (.iload_n 2, 1) := by decide +kernel
theorem dX1_wolves_56 : decode cX1_wolves 56 = .ok (.ireturn, 1) := by decide +kernel
theorem dX1_wolfAt_0 : decode cX1_wolfAt 0 = .ok (.iconst 0, 1) := by decide +kernel
theorem dX1_wolfAt_1 : decode cX1_wolfAt 1 = .ok (.istore_n 3, 1) := by decide +kernel
theorem dX1_wolfAt_2 : decode cX1_wolfAt 2 = .ok (.iconst 0, 1) := by decide +kernel
theorem dX1_wolfAt_3 : decode cX1_wolfAt 3 = .ok (.istore 4, 2) := by decide +kernel
theorem dX1_wolfAt_5 : decode cX1_wolfAt 5 = .ok (.iload 4, 2) := by decide +kernel
theorem dX1_wolfAt_7 : decode cX1_wolfAt 7 = .ok (.aload_n 0, 1) := by decide +kernel
theorem dX1_wolfAt_8 : decode cX1_wolfAt 8 = .ok (.getfield 40, 3) := by decide +kernel
theorem dX1_wolfAt_11 : decode cX1_wolfAt 11 = .ok (.if_icmp .ge 59, 3) := by decide +kernel
theorem dX1_wolfAt_14 : decode cX1_wolfAt 14 = .ok (.iload 4, 2) := by decide +kernel
theorem dX1_wolfAt_16 : decode cX1_wolfAt 16 = .ok (.iconst 1, 1) := by decide +kernel
theorem dX1_wolfAt_17 : decode cX1_wolfAt 17 = .ok (.iadd, 1) := by decide +kernel
theorem dX1_wolfAt_18 : decode cX1_wolfAt 18 = .ok (.istore 5, 2) := by decide +kernel
theorem dX1_wolfAt_20 : decode cX1_wolfAt 20 = .ok (.iload 5, 2) := by decide +kernel
theorem dX1_wolfAt_22 : decode cX1_wolfAt 22 = .ok (.aload_n 0, 1) := by decide +kernel
theorem dX1_wolfAt_23 : decode cX1_wolfAt 23 = .ok (.getfield 40, 3) := by decide +kernel
theorem dX1_wolfAt_26 : decode cX1_wolfAt 26 = .ok (.if_icmp .ge 38, 3) := by decide +kernel
theorem dX1_wolfAt_29 : decode cX1_wolfAt 29 = .ok (.aload_n 0, 1) := by decide +kernel
theorem dX1_wolfAt_30 : decode cX1_wolfAt 30 = .ok (.iload 4, 2) := by decide +kernel
theorem dX1_wolfAt_32 : decode cX1_wolfAt 32 = .ok (.iload 5, 2) := by decide +kernel
theorem dX1_wolfAt_34 : decode cX1_wolfAt 34 = .ok (.aload_n 2, 1) := by decide +kernel
theorem dX1_wolfAt_35 : decode cX1_wolfAt 35 = .ok (.invokevirtual 213, 3) := by decide +kernel
theorem dX1_wolfAt_38 : decode cX1_wolfAt 38 = .ok (.ifCond .eq 20, 3) := by decide +kernel
theorem dX1_wolfAt_41 : decode cX1_wolfAt 41 = .ok (.iload_n 3, 1) := by decide +kernel
theorem dX1_wolfAt_42 : decode cX1_wolfAt 42 = .ok (.iload_n 1, 1) := by decide +kernel
theorem dX1_wolfAt_43 : decode cX1_wolfAt 43 = .ok (.if_icmp .ne 12, 3) := by decide +kernel
theorem dX1_wolfAt_46 : decode cX1_wolfAt 46 = .ok (.bipush 10, 2) := by decide +kernel
theorem dX1_wolfAt_48 : decode cX1_wolfAt 48 = .ok (.iload 4, 2) := by decide +kernel
theorem dX1_wolfAt_50 : decode cX1_wolfAt 50 = .ok (.imul, 1) := by decide +kernel
theorem dX1_wolfAt_51 : decode cX1_wolfAt 51 = .ok (.iload 5, 2) := by decide +kernel
theorem dX1_wolfAt_53 : decode cX1_wolfAt 53 = .ok (.iadd, 1) := by decide +kernel
theorem dX1_wolfAt_54 : decode cX1_wolfAt 54 = .ok (.ireturn, 1) := by decide +kernel
theorem dX1_wolfAt_55 : decode cX1_wolfAt 55 = .ok (.iinc 3 1, 3) := by decide +kernel
theorem dX1_wolfAt_58 : decode cX1_wolfAt 58 = .ok (.iinc 5 1, 3) := by decide +kernel
theorem dX1_wolfAt_61 : decode cX1_wolfAt 61 = .ok (.goto (-41), 3) := by decide +kernel
theorem dX1_wolfAt_64 : decode cX1_wolfAt 64 = .ok (.iinc 4 1, 3) := by decide +kernel
theorem dX1_wolfAt_67 : decode cX1_wolfAt 67 = .ok (.goto (-62), 3) := by decide +kernel
theorem dX1_wolfAt_70 : decode cX1_wolfAt 70 = .ok (.bipush (-4), 2) := by decide +kernel
theorem dX1_wolfAt_72 : decode cX1_wolfAt 72 = .ok (.ireturn, 1) := by decide +kernel
theorem dX1_allWax_0 : decode cX1_allWax 0 = .ok (.iconst 0, 1) := by decide +kernel
theorem dX1_allWax_1 : decode cX1_allWax 1 = .ok (.istore_n 1, 1) := by decide +kernel
theorem dX1_allWax_2 : decode cX1_allWax 2 = .ok (.iconst 0, 1) := by decide +kernel
theorem dX1_allWax_3 : decode cX1_allWax 3 = .ok (.istore_n 2, 1) := by decide +kernel
theorem dX1_allWax_4 : decode cX1_allWax 4 = .ok (.iload_n 2, 1) := by decide +kernel
theorem dX1_allWax_5 : decode cX1_allWax 5 = .ok (.aload_n 0, 1) := by decide +kernel
theorem dX1_allWax_6 : decode cX1_allWax 6 = .ok (.getfield 40, 3) := by decide +kernel
theorem dX1_allWax_9 : decode cX1_allWax 9 = .ok (.if_icmp .ge 20, 3) := by decide +kernel
theorem dX1_allWax_12 : decode cX1_allWax 12 = .ok (.iload_n 1, 1) := by decide +kernel
theorem dX1_allWax_13 : decode cX1_allWax 13 = .ok (.aload_n 0, 1) := by decide +kernel
theorem dX1_allWax_14 : decode cX1_allWax 14 = .ok (.getfield 12, 3) := by decide +kernel
theorem dX1_allWax_17 : decode cX1_allWax 17 = .ok (.iload_n 2, 1) := by decide +kernel
theorem dX1_allWax_18 : decode cX1_allWax 18 = .ok (.invokevirtual 113, 3) := by decide +kernel
theorem dX1_allWax_21 : decode cX1_allWax 21 = .ok (.iadd, 1) := by decide +kernel
theorem dX1_allWax_22 : decode cX1_allWax 22 = .ok (.istore_n 1, 1) := by decide +kernel
theorem dX1_allWax_23 : decode cX1_allWax 23 = .ok (.iinc 2 1, 3) := by decide +kernel
theorem dX1_allWax_26 : decode cX1_allWax 26 = .ok (.goto (-22), 3) := by decide +kernel
theorem dX1_allWax_29 : decode cX1_allWax 29 = .ok (.iload_n 1, 1) := by decide +kernel
theorem dX1_allWax_30 : decode cX1_allWax 30 = .ok (.ireturn, 1) := by decide +kernel
theorem dX1_asksHeard_0 : decode cX1_asksHeard 0 = .ok (.iconst 0, 1) := by decide +kernel
theorem dX1_asksHeard_1 : decode cX1_asksHeard 1 = .ok (.istore_n 1, 1) := by decide +kernel
theorem dX1_asksHeard_2 : decode cX1_asksHeard 2 = .ok (.iconst 0, 1) := by decide +kernel
theorem dX1_asksHeard_3 : decode cX1_asksHeard 3 = .ok (.istore_n 2, 1) := by decide +kernel
theorem dX1_asksHeard_4 : decode cX1_asksHeard 4 = .ok (.iload_n 2, 1) := by decide +kernel
theorem dX1_asksHeard_5 : decode cX1_asksHeard 5 = .ok (.aload_n 0, 1) := by decide +kernel
theorem dX1_asksHeard_6 : decode cX1_asksHeard 6 = .ok (.getfield 47, 3) := by decide +kernel
theorem dX1_asksHeard_9 : decode cX1_asksHeard 9 = .ok (.if_icmp .ge 29, 3) := by decide +kernel
theorem dX1_asksHeard_12 : decode cX1_asksHeard 12 = .ok (.aload_n 0, 1) := by decide +kernel
theorem dX1_asksHeard_13 : decode cX1_asksHeard 13 = .ok (.iload_n 2, 1) := by decide +kernel
theorem dX1_asksHeard_14 : decode cX1_asksHeard 14 = .ok (.invokevirtual 184, 3) := by decide +kernel
theorem dX1_asksHeard_17 : decode cX1_asksHeard 17 = .ok (.astore_n 3, 1) := by decide +kernel
theorem dX1_asksHeard_18 : decode cX1_asksHeard 18 = .ok (.aload_n 3, 1) := by decide +kernel
theorem dX1_asksHeard_19 : decode cX1_asksHeard 19 = .ok (.ifnull 13, 3) := by decide +kernel
theorem dX1_asksHeard_22 : decode cX1_asksHeard 22 = .ok (.aload_n 3, 1) := by decide +kernel
theorem dX1_asksHeard_23 : decode cX1_asksHeard 23 = .ok (.getfield 217, 3) := by decide +kernel
theorem dX1_asksHeard_26 : decode cX1_asksHeard 26 = .ok (.ifCond .eq 6, 3) := by decide +kernel
theorem dX1_asksHeard_29 : decode cX1_asksHeard 29 = .ok (.iinc 1 1, 3) := by decide +kernel
theorem dX1_asksHeard_32 : decode cX1_asksHeard 32 = .ok (.iinc 2 1, 3) := by decide +kernel
theorem dX1_asksHeard_35 : decode cX1_asksHeard 35 = .ok (.goto (-31), 3) := by decide +kernel
theorem dX1_asksHeard_38 : decode cX1_asksHeard 38 = .ok (.iload_n 1, 1) := by decide +kernel
theorem dX1_asksHeard_39 : decode cX1_asksHeard 39 = .ok (.ireturn, 1) := by decide +kernel
theorem dX2_init_0 : decode cX2_init 0 = .ok (.aload_n 0, 1) := by decide +kernel
theorem dX2_init_1 : decode cX2_init 1 = .ok (.invokespecial 3, 3) := by decide +kernel
theorem dX2_init_4 : decode cX2_init 4 = .ok (.aload_n 0, 1) := by decide +kernel
theorem dX2_init_5 : decode cX2_init 5 = .ok (.iload_n 1, 1) := by decide +kernel
theorem dX2_init_6 : decode cX2_init 6 = .ok (.putfield 9, 3) := by decide +kernel
theorem dX2_init_9 : decode cX2_init 9 = .ok (.aload_n 0, 1) := by decide +kernel
theorem dX2_init_10 : decode cX2_init 10 = .ok (.iload_n 2, 1) := by decide +kernel
theorem dX2_init_11 : decode cX2_init 11 = .ok (.putfield 15, 3) := by decide +kernel
theorem dX2_init_14 : decode cX2_init 14 = .ok (.aload_n 0, 1) := by decide +kernel
theorem dX2_init_15 : decode cX2_init 15 = .ok (.iload_n 3, 1) := by decide +kernel
theorem dX2_init_16 : decode cX2_init 16 = .ok (.putfield 18, 3) := by decide +kernel
theorem dX2_init_19 : decode cX2_init 19 = .ok (.aload_n 0, 1) := by decide +kernel
theorem dX2_init_20 : decode cX2_init 20 = .ok (.iload 4, 2) := by decide +kernel
theorem dX2_init_22 : decode cX2_init 22 = .ok (.putfield 21, 3) := by decide +kernel
theorem dX2_init_25 : decode cX2_init 25 = .ok (.aload_n 0, 1) := by decide +kernel
theorem dX2_init_26 : decode cX2_init 26 = .ok (.iload 5, 2) := by decide +kernel
theorem dX2_init_28 : decode cX2_init 28 = .ok (.putfield 24, 3) := by decide +kernel
theorem dX2_init_31 : decode cX2_init 31 = .ok (.return_, 1) := by decide +kernel
theorem dX2_toneWith_0 : decode cX2_toneWith 0 = .ok (.iconst 2, 1) := by decide +kernel
theorem dX2_toneWith_1 : decode cX2_toneWith 1 = .ok (.aload_n 0, 1) := by decide +kernel
theorem dX2_toneWith_2 : decode cX2_toneWith 2 = .ok (.getfield 18, 3) := by decide +kernel
theorem dX2_toneWith_5 : decode cX2_toneWith 5 = .ok (.imul, 1) := by decide +kernel
theorem dX2_toneWith_6 : decode cX2_toneWith 6 = .ok (.iload_n 1, 1) := by decide +kernel
theorem dX2_toneWith_7 : decode cX2_toneWith 7 = .ok (.iadd, 1) := by decide +kernel
theorem dX2_toneWith_8 : decode cX2_toneWith 8 = .ok (.istore_n 2, 1) := by decide +kernel
theorem dX2_toneWith_9 : decode cX2_toneWith 9 = .ok (.iload_n 2, 1) := by decide +kernel
theorem dX2_toneWith_10 : decode cX2_toneWith 10 = .ok (.ifCond .le 19, 3) := by decide +kernel
theorem dX2_toneWith_13 : decode cX2_toneWith 13 = .ok (.aload_n 0, 1) := by decide +kernel
theorem dX2_toneWith_14 : decode cX2_toneWith 14 = .ok (.getfield 9, 3) := by decide +kernel
theorem dX2_toneWith_17 : decode cX2_toneWith 17 = .ok (.aload_n 0, 1) := by decide +kernel
theorem dX2_toneWith_18 : decode cX2_toneWith 18 = .ok (.getfield 9, 3) := by decide +kernel
theorem dX2_toneWith_21 : decode cX2_toneWith 21 = .ok (.iload_n 1, 1) := by decide +kernel
theorem dX2_toneWith_22 : decode cX2_toneWith 22 = .ok (.imul, 1) := by decide +kernel
theorem dX2_toneWith_23 : decode cX2_toneWith 23 = .ok (.iload_n 2, 1) := by decide +kernel
theorem dX2_toneWith_24 : decode cX2_toneWith 24 = .ok (.idiv, 1) := by decide +kernel
theorem dX2_toneWith_25 : decode cX2_toneWith 25 = .ok (.isub, 1) := by decide +kernel
theorem dX2_toneWith_26 : decode cX2_toneWith 26 = .ok (.goto 7, 3) := by decide +kernel
theorem dX2_toneWith_29 : decode cX2_toneWith 29 = .ok (.aload_n 0, 1) := by decide +kernel
theorem dX2_toneWith_30 : decode cX2_toneWith 30 = .ok (.getfield 9, 3) := by decide +kernel
theorem dX2_toneWith_33 : decode cX2_toneWith 33 = .ok (.ireturn, 1) := by decide +kernel
theorem dX2_lossHeld_0 : decode cX2_lossHeld 0 = .ok (.iload_n 1, 1) := by decide +kernel
theorem dX2_lossHeld_1 : decode cX2_lossHeld 1 = .ok (.ifCond .eq 12, 3) := by decide +kernel
theorem dX2_lossHeld_4 : decode cX2_lossHeld 4 = .ok (.iconst 2, 1) := by decide +kernel
theorem dX2_lossHeld_5 : decode cX2_lossHeld 5 = .ok (.aload_n 0, 1) := by decide +kernel
theorem dX2_lossHeld_6 : decode cX2_lossHeld 6 = .ok (.getfield 15, 3) := by decide +kernel
theorem dX2_lossHeld_9 : decode cX2_lossHeld 9 = .ok (.imul, 1) := by decide +kernel
theorem dX2_lossHeld_10 : decode cX2_lossHeld 10 = .ok (.goto 7, 3) := by decide +kernel
theorem dX2_lossHeld_13 : decode cX2_lossHeld 13 = .ok (.aload_n 0, 1) := by decide +kernel
theorem dX2_lossHeld_14 : decode cX2_lossHeld 14 = .ok (.getfield 15, 3) := by decide +kernel
theorem dX2_lossHeld_17 : decode cX2_lossHeld 17 = .ok (.ireturn, 1) := by decide +kernel
theorem dX2_passWith_0 : decode cX2_passWith 0 = .ok (.iconst 0, 1) := by decide +kernel
theorem dX2_passWith_1 : decode cX2_passWith 1 = .ok (.bipush 99, 2) := by decide +kernel
theorem dX2_passWith_3 : decode cX2_passWith 3 = .ok (.aload_n 0, 1) := by decide +kernel
theorem dX2_passWith_4 : decode cX2_passWith 4 = .ok (.getfield 24, 3) := by decide +kernel
theorem dX2_passWith_7 : decode cX2_passWith 7 = .ok (.iload_n 1, 1) := by decide +kernel
theorem dX2_passWith_8 : decode cX2_passWith 8 = .ok (.iadd, 1) := by decide +kernel
theorem dX2_passWith_9 : decode cX2_passWith 9 = .ok (.invokestatic 27, 3) := by decide +kernel
theorem dX2_passWith_12 : decode cX2_passWith 12 = .ok (.invokestatic 33, 3) := by decide +kernel
theorem dX2_passWith_15 : decode cX2_passWith 15 = .ok (.ireturn, 1) := by decide +kernel
theorem dX3_init_0 : decode cX3_init 0 = .ok (.aload_n 0, 1) := by decide +kernel
theorem dX3_init_1 : decode cX3_init 1 = .ok (.invokespecial 3, 3) := by decide +kernel
theorem dX3_init_4 : decode cX3_init 4 = .ok (.aload_n 0, 1) := by decide +kernel
theorem dX3_init_5 : decode cX3_init 5 = .ok (.bipush 100, 2) := by decide +kernel
theorem dX3_init_7 : decode cX3_init 7 = .ok (.newarray .int, 2) := by decide +kernel
theorem dX3_init_9 : decode cX3_init 9 = .ok (.putfield 9, 3) := by decide +kernel
theorem dX3_init_12 : decode cX3_init 12 = .ok (.aload_n 0, 1) := by decide +kernel
theorem dX3_init_13 : decode cX3_init 13 = .ok (.iconst 5, 1) := by decide +kernel
theorem dX3_init_14 : decode cX3_init 14 = .ok (.newarray .int, 2) := by decide +kernel
theorem dX3_init_16 : decode cX3_init 16 = .ok (.putfield 15, 3) := by decide +kernel
theorem dX3_init_19 : decode cX3_init 19 = .ok (.return_, 1) := by decide +kernel
theorem dX3_start_0 : decode cX3_start 0 = .ok (.aload_n 0, 1) := by decide +kernel
theorem dX3_start_1 : decode cX3_start 1 = .ok (.aload_n 1, 1) := by decide +kernel
theorem dX3_start_2 : decode cX3_start 2 = .ok (.invokevirtual 18, 3) := by decide +kernel
theorem dX3_start_5 : decode cX3_start 5 = .ok (.bipush 100, 2) := by decide +kernel
theorem dX3_start_7 : decode cX3_start 7 = .ok (.invokestatic 24, 3) := by decide +kernel
theorem dX3_start_10 : decode cX3_start 10 = .ok (.putfield 30, 3) := by decide +kernel
theorem dX3_start_13 : decode cX3_start 13 = .ok (.iconst 0, 1) := by decide +kernel
theorem dX3_start_14 : decode cX3_start 14 = .ok (.istore_n 2, 1) := by decide +kernel
theorem dX3_start_15 : decode cX3_start 15 = .ok (.iload_n 2, 1) := by decide +kernel
theorem dX3_start_16 : decode cX3_start 16 = .ok (.aload_n 0, 1) := by decide +kernel
theorem dX3_start_17 : decode cX3_start 17 = .ok (.getfield 30, 3) := by decide +kernel
theorem dX3_start_20 : decode cX3_start 20 = .ok (.if_icmp .ge 20, 3) := by decide +kernel
theorem dX3_start_23 : decode cX3_start 23 = .ok (.aload_n 0, 1) := by decide +kernel
theorem dX3_start_24 : decode cX3_start 24 = .ok (.getfield 9, 3) := by decide +kernel
theorem dX3_start_27 : decode cX3_start 27 = .ok (.iload_n 2, 1) := by decide +kernel
theorem dX3_start_28 : decode cX3_start 28 = .ok (.aload_n 1, 1) := by decide +kernel
theorem dX3_start_29 : decode cX3_start 29 = .ok (.iload_n 2, 1) := by decide +kernel
theorem dX3_start_30 : decode cX3_start 30 = .ok (.invokevirtual 33, 3) := by decide +kernel
theorem dX3_start_33 : decode cX3_start 33 = .ok (.iastore, 1) := by decide +kernel
theorem dX3_start_34 : decode cX3_start 34 = .ok (.iinc 2 1, 3) := by decide +kernel
theorem dX3_start_37 : decode cX3_start 37 = .ok (.goto (-22), 3) := by decide +kernel
theorem dX3_start_40 : decode cX3_start 40 = .ok (.aload_n 0, 1) := by decide +kernel
theorem dX3_start_41 : decode cX3_start 41 = .ok (.iconst 0, 1) := by decide +kernel
theorem dX3_start_42 : decode cX3_start 42 = .ok (.putfield 37, 3) := by decide +kernel
theorem dX3_start_45 : decode cX3_start 45 = .ok (.return_, 1) := by decide +kernel
theorem dX3_countStatements_0 : decode cX3_countStatements 0 = .ok (.iconst 0, 1) := by decide +kernel
theorem dX3_countStatements_1 : decode cX3_countStatements 1 = .ok (.istore_n 1, 1) := by decide +kernel
theorem dX3_countStatements_2 : decode cX3_countStatements 2 = .ok (.iconst 0, 1) := by decide +kernel
theorem dX3_countStatements_3 : decode cX3_countStatements 3 = .ok (.istore_n 2, 1) := by decide +kernel
theorem dX3_countStatements_4 : decode cX3_countStatements 4 = .ok (.iload_n 2, 1) := by decide +kernel
theorem dX3_countStatements_5 : decode cX3_countStatements 5 = .ok (.aload_n 0, 1) := by decide +kernel
theorem dX3_countStatements_6 : decode cX3_countStatements 6 = .ok (.getfield 30, 3) := by decide +kernel
theorem dX3_countStatements_9 : decode cX3_countStatements 9 = .ok (.if_icmp .gt 36, 3) := by decide +kernel
theorem dX3_countStatements_12 : decode cX3_countStatements 12 = .ok (.aload_n 0, 1) := by decide +kernel
theorem dX3_countStatements_13 : decode cX3_countStatements 13 = .ok (.getfield 37, 3) := by decide +kernel
theorem dX3_countStatements_16 : decode cX3_countStatements 16 = .ok (.aload_n 0, 1) := by decide +kernel
theorem dX3_countStatements_17 : decode cX3_countStatements 17 = .ok (.getfield 30, 3) := by decide +kernel
theorem dX3_countStatements_20 : decode cX3_countStatements 20 = .ok (.if_icmp .lt 7, 3) := by decide +kernel
theorem dX3_countStatements_23 : decode cX3_countStatements 23 = .ok (.iload_n 1, 1) := by decide +kernel
theorem dX3_countStatements_24 : decode cX3_countStatements 24 = .ok (.ifCond .ne 21, 3) := by decide +kernel
theorem dX3_countStatements_27 : decode cX3_countStatements 27 = .ok (.aload_n 0, 1) := by decide +kernel
theorem dX3_countStatements_28 : decode cX3_countStatements 28 = .ok (.invokevirtual 40, 3) := by decide +kernel
theorem dX3_countStatements_31 : decode cX3_countStatements 31 = .ok (.ifCond .ne 5, 3) := by decide +kernel
theorem dX3_countStatements_34 : decode cX3_countStatements 34 = .ok (.iconst (-1), 1) := by decide +kernel
theorem dX3_countStatements_35 : decode cX3_countStatements 35 = .ok (.ireturn, 1) := by decide +kernel
theorem dX3_countStatements_36 : decode cX3_countStatements 36 = .ok (.iinc 1 1, 3) := by decide +kernel
theorem dX3_countStatements_39 : decode cX3_countStatements 39 = .ok (.iinc 2 1, 3) := by decide +kernel
theorem dX3_countStatements_42 : decode cX3_countStatements 42 = .ok (.goto (-38), 3) := by decide +kernel
theorem dX3_countStatements_45 : decode cX3_countStatements 45 = .ok (.iload_n 1, 1) := by decide +kernel
theorem dX3_countStatements_46 : decode cX3_countStatements 46 = .ok (.ireturn, 1) := by decide +kernel
theorem dX3_readStatement_0 : decode cX3_readStatement 0 = .ok (.aload_n 0, 1) := by decide +kernel
theorem dX3_readStatement_1 : decode cX3_readStatement 1 = .ok (.aload_n 0, 1) := by decide +kernel
theorem dX3_readStatement_2 : decode cX3_readStatement 2 = .ok (.getfield 37, 3) := by decide +kernel
theorem dX3_readStatement_5 : decode cX3_readStatement 5 = .ok (.putfield 44, 3) := by decide +kernel
theorem dX3_readStatement_8 : decode cX3_readStatement 8 = .ok (.aload_n 0, 1) := by decide +kernel
theorem dX3_readStatement_9 : decode cX3_readStatement 9 = .ok (.aload_n 0, 1) := by decide +kernel
theorem dX3_readStatement_10 : decode cX3_readStatement 10 = .ok (.invokevirtual 47, 3) := by decide +kernel
theorem dX3_readStatement_13 : decode cX3_readStatement 13 = .ok (.putfield 50, 3) := by decide +kernel
theorem dX3_readStatement_16 : decode cX3_readStatement 16 = .ok (.aload_n 0, 1) := by decide +kernel
theorem dX3_readStatement_17 : decode cX3_readStatement 17 = .ok (.iconst 0, 1) := by decide +kernel
theorem dX3_readStatement_18 : decode cX3_readStatement 18 = .ok (.putfield 53, 3) := by decide +kernel
theorem dX3_readStatement_21 : decode cX3_readStatement 21 = .ok (.aload_n 0, 1) := by decide +kernel
theorem dX3_readStatement_22 : decode cX3_readStatement 22 = .ok (.iconst 0, 1) := by decide +kernel
theorem dX3_readStatement_23 : decode cX3_readStatement 23 = .ok (.putfield 56, 3) := by decide +kernel
theorem dX3_readStatement_26 : decode cX3_readStatement 26 = .ok (.aload_n 0, 1) := by decide +kernel
theorem dX3_readStatement_27 : decode cX3_readStatement 27 = .ok (.getfield 50, 3) := by decide +kernel
theorem dX3_readStatement_30 : decode cX3_readStatement 30 = .ok (.invokestatic 60, 3) := by decide +kernel
theorem dX3_readStatement_33 : decode cX3_readStatement 33 = .ok (.astore_n 1, 1) := by decide +kernel
theorem dX3_readStatement_34 : decode cX3_readStatement 34 = .ok (.aload_n 1, 1) := by decide +kernel
theorem dX3_readStatement_35 : decode cX3_readStatement 35 = .ok (.invokevirtual 64, 3) := by decide +kernel
theorem dX3_readStatement_38 : decode cX3_readStatement 38 = .ok (.ifCond .eq 5, 3) := by decide +kernel
theorem dX3_readStatement_41 : decode cX3_readStatement 41 = .ok (.iconst 0, 1) := by decide +kernel
theorem dX3_readStatement_42 : decode cX3_readStatement 42 = .ok (.ireturn, 1) := by decide +kernel
theorem dX3_readStatement_43 : decode cX3_readStatement 43 = .ok (.aload_n 0, 1) := by decide +kernel
theorem dX3_readStatement_44 : decode cX3_readStatement 44 = .ok (.dup, 1) := by decide +kernel
theorem dX3_readStatement_45 : decode cX3_readStatement 45 = .ok (.getfield 37, 3) := by decide +kernel
theorem dX3_readStatement_48 : decode cX3_readStatement 48 = .ok (.iconst 1, 1) := by decide +kernel
theorem dX3_readStatement_49 : decode cX3_readStatement 49 = .ok (.iadd, 1) := by decide +kernel
theorem dX3_readStatement_50 : decode cX3_readStatement 50 = .ok (.putfield 37, 3) := by decide +kernel
theorem dX3_readStatement_53 : decode cX3_readStatement 53 = .ok (.aload_n 0, 1) := by decide +kernel
theorem dX3_readStatement_54 : decode cX3_readStatement 54 = .ok (.aload_n 1, 1) := by decide +kernel
theorem dX3_readStatement_55 : decode cX3_readStatement 55 = .ok (.invokevirtual 69, 3) := by decide +kernel
theorem dX3_readStatement_58 : decode cX3_readStatement 58 = .ok (.ifCond .ne 5, 3) := by decide +kernel
theorem dX3_readStatement_61 : decode cX3_readStatement 61 = .ok (.iconst 0, 1) := by decide +kernel
theorem dX3_readStatement_62 : decode cX3_readStatement 62 = .ok (.ireturn, 1) := by decide +kernel
theorem dX3_readStatement_63 : decode cX3_readStatement 63 = .ok (.aload_n 0, 1) := by decide +kernel
theorem dX3_readStatement_64 : decode cX3_readStatement 64 = .ok (.getfield 50, 3) := by decide +kernel
theorem dX3_readStatement_67 : decode cX3_readStatement 67 = .ok (.bipush 112, 2) := by decide +kernel
theorem dX3_readStatement_69 : decode cX3_readStatement 69 = .ok (.if_icmp .ne 28, 3) := by decide +kernel
theorem dX3_readStatement_72 : decode cX3_readStatement 72 = .ok (.aload_n 0, 1) := by decide +kernel
theorem dX3_readStatement_73 : decode cX3_readStatement 73 = .ok (.invokevirtual 47, 3) := by decide +kernel
theorem dX3_readStatement_76 : decode cX3_readStatement 76 = .ok (.bipush 106, 2) := by decide +kernel
theorem dX3_readStatement_78 : decode cX3_readStatement 78 = .ok (.if_icmp .ne 19, 3) := by decide +kernel
theorem dX3_readStatement_81 : decode cX3_readStatement 81 = .ok (.aload_n 0, 1) := by decide +kernel
theorem dX3_readStatement_82 : decode cX3_readStatement 82 = .ok (.iconst 1, 1) := by decide +kernel
theorem dX3_readStatement_83 : decode cX3_readStatement 83 = .ok (.putfield 56, 3) := by decide +kernel
theorem dX3_readStatement_86 : decode cX3_readStatement 86 = .ok (.aload_n 0, 1) := by decide +kernel
theorem dX3_readStatement_87 : decode cX3_readStatement 87 = .ok (.ldc 73, 2) := by decide +kernel
theorem dX3_readStatement_89 : decode cX3_readStatement 89 = .ok (.invokevirtual 69, 3) := by decide +kernel
theorem dX3_readStatement_92 : decode cX3_readStatement 92 = .ok (.ifCond .ne 5, 3) := by decide +kernel
theorem dX3_readStatement_95 : decode cX3_readStatement 95 = .ok (.iconst 0, 1) := by decide +kernel
theorem dX3_readStatement_96 : decode cX3_readStatement 96 = .ok (.ireturn, 1) := by decide +kernel
theorem dX3_readStatement_97 : decode cX3_readStatement 97 = .ok (.aload_n 0, 1) := by decide +kernel
theorem dX3_readStatement_98 : decode cX3_readStatement 98 = .ok (.ldc 75, 2) := by decide +kernel
theorem dX3_readStatement_100 : decode cX3_readStatement 100 = .ok (.invokevirtual 69, 3) := by decide +kernel
theorem dX3_readStatement_103 : decode cX3_readStatement 103 = .ok (.ireturn, 1) := by decide +kernel
theorem dX3_formOf_0 : decode cX3_formOf 0 = .ok (.iload_n 0, 1) := by decide +kernel
theorem dX3_formOf_1 : decode cX3_formOf 1 = .ok (.lookupswitch 66 #[(100, 57), (112, 51), (114, 63), (116, 54), (119, 60)], 51) := by decide +kernel
theorem dX3_formOf_52 : decode cX3_formOf 52 = .ok (.ldc 77, 2) := by decide +kernel
theorem dX3_formOf_54 : decode cX3_formOf 54 = .ok (.areturn, 1) := by decide +kernel
theorem dX3_formOf_55 : decode cX3_formOf 55 = .ok (.ldc 79, 2) := by decide +kernel
theorem dX3_formOf_57 : decode cX3_formOf 57 = .ok (.areturn, 1) := by decide +kernel
theorem dX3_formOf_58 : decode cX3_formOf 58 = .ok (.ldc 81, 2) := by decide +kernel
theorem dX3_formOf_60 : decode cX3_formOf 60 = .ok (.areturn, 1) := by decide +kernel
theorem dX3_formOf_61 : decode cX3_formOf 61 = .ok (.ldc 83, 2) := by decide +kernel
theorem dX3_formOf_63 : decode cX3_formOf 63 = .ok (.areturn, 1) := by decide +kernel
theorem dX3_formOf_64 : decode cX3_formOf 64 = .ok (.ldc 83, 2) := by decide +kernel
theorem dX3_formOf_66 : decode cX3_formOf 66 = .ok (.areturn, 1) := by decide +kernel
theorem dX3_formOf_67 : decode cX3_formOf 67 = .ok (.ldc 85, 2) := by decide +kernel
theorem dX3_formOf_69 : decode cX3_formOf 69 = .ok (.areturn, 1) := by decide +kernel
theorem dX3_readForm_0 : decode cX3_readForm 0 = .ok (.iconst 0, 1) := by decide +kernel
theorem dX3_readForm_1 : decode cX3_readForm 1 = .ok (.istore_n 2, 1) := by decide +kernel
theorem dX3_readForm_2 : decode cX3_readForm 2 = .ok (.iload_n 2, 1) := by decide +kernel
theorem dX3_readForm_3 : decode cX3_readForm 3 = .ok (.aload_n 1, 1) := by decide +kernel
theorem dX3_readForm_4 : decode cX3_readForm 4 = .ok (.invokevirtual 87, 3) := by decide +kernel
theorem dX3_readForm_7 : decode cX3_readForm 7 = .ok (.if_icmp .ge 23, 3) := by decide +kernel
theorem dX3_readForm_10 : decode cX3_readForm 10 = .ok (.aload_n 0, 1) := by decide +kernel
theorem dX3_readForm_11 : decode cX3_readForm 11 = .ok (.aload_n 1, 1) := by decide +kernel
theorem dX3_readForm_12 : decode cX3_readForm 12 = .ok (.iload_n 2, 1) := by decide +kernel
theorem dX3_readForm_13 : decode cX3_readForm 13 = .ok (.invokevirtual 90, 3) := by decide +kernel
theorem dX3_readForm_16 : decode cX3_readForm 16 = .ok (.invokevirtual 94, 3) := by decide +kernel
theorem dX3_readForm_19 : decode cX3_readForm 19 = .ok (.ifCond .ne 5, 3) := by decide +kernel
theorem dX3_readForm_22 : decode cX3_readForm 22 = .ok (.iconst 0, 1) := by decide +kernel
theorem dX3_readForm_23 : decode cX3_readForm 23 = .ok (.ireturn, 1) := by decide +kernel
theorem dX3_readForm_24 : decode cX3_readForm 24 = .ok (.iinc 2 1, 3) := by decide +kernel
theorem dX3_readForm_27 : decode cX3_readForm 27 = .ok (.goto (-25), 3) := by decide +kernel
theorem dX3_readForm_30 : decode cX3_readForm 30 = .ok (.iconst 1, 1) := by decide +kernel
theorem dX3_readForm_31 : decode cX3_readForm 31 = .ok (.ireturn, 1) := by decide +kernel
theorem dX3_readPart_0 : decode cX3_readPart 0 = .ok (.iload_n 1, 1) := by decide +kernel
theorem dX3_readPart_1 : decode cX3_readPart 1 = .ok (.bipush 110, 2) := by decide +kernel
theorem dX3_readPart_3 : decode cX3_readPart 3 = .ok (.if_icmp .ne 9, 3) := by decide +kernel
theorem dX3_readPart_6 : decode cX3_readPart 6 = .ok (.aload_n 0, 1) := by decide +kernel
theorem dX3_readPart_7 : decode cX3_readPart 7 = .ok (.iconst 3, 1) := by decide +kernel
theorem dX3_readPart_8 : decode cX3_readPart 8 = .ok (.invokevirtual 98, 3) := by decide +kernel
theorem dX3_readPart_11 : decode cX3_readPart 11 = .ok (.ireturn, 1) := by decide +kernel
theorem dX3_readPart_12 : decode cX3_readPart 12 = .ok (.iload_n 1, 1) := by decide +kernel
theorem dX3_readPart_13 : decode cX3_readPart 13 = .ok (.bipush 100, 2) := by decide +kernel
theorem dX3_readPart_15 : decode cX3_readPart 15 = .ok (.if_icmp .ne 9, 3) := by decide +kernel
theorem dX3_readPart_18 : decode cX3_readPart 18 = .ok (.aload_n 0, 1) := by decide +kernel
theorem dX3_readPart_19 : decode cX3_readPart 19 = .ok (.iconst 1, 1) := by decide +kernel
theorem dX3_readPart_20 : decode cX3_readPart 20 = .ok (.invokevirtual 98, 3) := by decide +kernel
theorem dX3_readPart_23 : decode cX3_readPart 23 = .ok (.ireturn, 1) := by decide +kernel
theorem dX3_readPart_24 : decode cX3_readPart 24 = .ok (.aload_n 0, 1) := by decide +kernel
theorem dX3_readPart_25 : decode cX3_readPart 25 = .ok (.invokevirtual 47, 3) := by decide +kernel
theorem dX3_readPart_28 : decode cX3_readPart 28 = .ok (.iload_n 1, 1) := by decide +kernel
theorem dX3_readPart_29 : decode cX3_readPart 29 = .ok (.if_icmp .eq 5, 3) := by decide +kernel
theorem dX3_readPart_32 : decode cX3_readPart 32 = .ok (.iconst 0, 1) := by decide +kernel
theorem dX3_readPart_33 : decode cX3_readPart 33 = .ok (.ireturn, 1) := by decide +kernel
theorem dX3_readPart_34 : decode cX3_readPart 34 = .ok (.aload_n 0, 1) := by decide +kernel
theorem dX3_readPart_35 : decode cX3_readPart 35 = .ok (.dup, 1) := by decide +kernel
theorem dX3_readPart_36 : decode cX3_readPart 36 = .ok (.getfield 37, 3) := by decide +kernel
theorem dX3_readPart_39 : decode cX3_readPart 39 = .ok (.iconst 1, 1) := by decide +kernel
theorem dX3_readPart_40 : decode cX3_readPart 40 = .ok (.iadd, 1) := by decide +kernel
theorem dX3_readPart_41 : decode cX3_readPart 41 = .ok (.putfield 37, 3) := by decide +kernel
theorem dX3_readPart_44 : decode cX3_readPart 44 = .ok (.iconst 1, 1) := by decide +kernel
theorem dX3_readPart_45 : decode cX3_readPart 45 = .ok (.ireturn, 1) := by decide +kernel
theorem dX3_readDigits_0 : decode cX3_readDigits 0 = .ok (.aload_n 0, 1) := by decide +kernel
theorem dX3_readDigits_1 : decode cX3_readDigits 1 = .ok (.invokevirtual 47, 3) := by decide +kernel
theorem dX3_readDigits_4 : decode cX3_readDigits 4 = .ok (.invokestatic 102, 3) := by decide +kernel
theorem dX3_readDigits_7 : decode cX3_readDigits 7 = .ok (.ifCond .ne 5, 3) := by decide +kernel
theorem dX3_readDigits_10 : decode cX3_readDigits 10 = .ok (.iconst 0, 1) := by decide +kernel
theorem dX3_readDigits_11 : decode cX3_readDigits 11 = .ok (.ireturn, 1) := by decide +kernel
theorem dX3_readDigits_12 : decode cX3_readDigits 12 = .ok (.iconst 0, 1) := by decide +kernel
theorem dX3_readDigits_13 : decode cX3_readDigits 13 = .ok (.istore_n 2, 1) := by decide +kernel
theorem dX3_readDigits_14 : decode cX3_readDigits 14 = .ok (.iconst 0, 1) := by decide +kernel
theorem dX3_readDigits_15 : decode cX3_readDigits 15 = .ok (.istore_n 3, 1) := by decide +kernel
theorem dX3_readDigits_16 : decode cX3_readDigits 16 = .ok (.iload_n 3, 1) := by decide +kernel
theorem dX3_readDigits_17 : decode cX3_readDigits 17 = .ok (.iload_n 1, 1) := by decide +kernel
theorem dX3_readDigits_18 : decode cX3_readDigits 18 = .ok (.if_icmp .ge 50, 3) := by decide +kernel
theorem dX3_readDigits_21 : decode cX3_readDigits 21 = .ok (.aload_n 0, 1) := by decide +kernel
theorem dX3_readDigits_22 : decode cX3_readDigits 22 = .ok (.invokevirtual 47, 3) := by decide +kernel
theorem dX3_readDigits_25 : decode cX3_readDigits 25 = .ok (.invokestatic 102, 3) := by decide +kernel
theorem dX3_readDigits_28 : decode cX3_readDigits 28 = .ok (.ifCond .eq 40, 3) := by decide +kernel
theorem dX3_readDigits_31 : decode cX3_readDigits 31 = .ok (.iload_n 3, 1) := by decide +kernel
theorem dX3_readDigits_32 : decode cX3_readDigits 32 = .ok (.ifCond .eq 7, 3) := by decide +kernel
theorem dX3_readDigits_35 : decode cX3_readDigits 35 = .ok (.iload_n 2, 1) := by decide +kernel
theorem dX3_readDigits_36 : decode cX3_readDigits 36 = .ok (.ifCond .le 32, 3) := by decide +kernel
theorem dX3_readDigits_39 : decode cX3_readDigits 39 = .ok (.bipush 10, 2) := by decide +kernel
theorem dX3_readDigits_41 : decode cX3_readDigits 41 = .ok (.iload_n 2, 1) := by decide +kernel
theorem dX3_readDigits_42 : decode cX3_readDigits 42 = .ok (.imul, 1) := by decide +kernel
theorem dX3_readDigits_43 : decode cX3_readDigits 43 = .ok (.aload_n 0, 1) := by decide +kernel
theorem dX3_readDigits_44 : decode cX3_readDigits 44 = .ok (.invokevirtual 47, 3) := by decide +kernel
theorem dX3_readDigits_47 : decode cX3_readDigits 47 = .ok (.iadd, 1) := by decide +kernel
theorem dX3_readDigits_48 : decode cX3_readDigits 48 = .ok (.bipush 48, 2) := by decide +kernel
theorem dX3_readDigits_50 : decode cX3_readDigits 50 = .ok (.isub, 1) := by decide +kernel
theorem dX3_readDigits_51 : decode cX3_readDigits 51 = .ok (.istore_n 2, 1) := by decide +kernel
theorem dX3_readDigits_52 : decode cX3_readDigits 52 = .ok (.aload_n 0, 1) := by decide +kernel
theorem dX3_readDigits_53 : decode cX3_readDigits 53 = .ok (.dup, 1) := by decide +kernel
theorem dX3_readDigits_54 : decode cX3_readDigits 54 = .ok (.getfield 37, 3) := by decide +kernel
theorem dX3_readDigits_57 : decode cX3_readDigits 57 = .ok (.iconst 1, 1) := by decide +kernel
theorem dX3_readDigits_58 : decode cX3_readDigits 58 = .ok (.iadd, 1) := by decide +kernel
theorem dX3_readDigits_59 : decode cX3_readDigits 59 = .ok (.putfield 37, 3) := by decide +kernel
theorem dX3_readDigits_62 : decode cX3_readDigits 62 = .ok (.iinc 3 1, 3) := by decide +kernel
theorem dX3_readDigits_65 : decode cX3_readDigits 65 = .ok (.goto (-49), 3) := by decide +kernel
theorem dX3_readDigits_68 : decode cX3_readDigits 68 = .ok (.aload_n 0, 1) := by decide +kernel
theorem dX3_readDigits_69 : decode cX3_readDigits 69 = .ok (.getfield 53, 3) := by decide +kernel
theorem dX3_readDigits_72 : decode cX3_readDigits 72 = .ok (.aload_n 0, 1) := by decide +kernel
theorem dX3_readDigits_73 : decode cX3_readDigits 73 = .ok (.getfield 15, 3) := by decide +kernel
theorem dX3_readDigits_76 : decode cX3_readDigits 76 = .ok (.arraylength, 1) := by decide +kernel
theorem dX3_readDigits_77 : decode cX3_readDigits 77 = .ok (.if_icmp .ge 23, 3) := by decide +kernel
theorem dX3_readDigits_80 : decode cX3_readDigits 80 = .ok (.aload_n 0, 1) := by decide +kernel
theorem dX3_readDigits_81 : decode cX3_readDigits 81 = .ok (.getfield 15, 3) := by decide +kernel
theorem dX3_readDigits_84 : decode cX3_readDigits 84 = .ok (.aload_n 0, 1) := by decide +kernel
theorem dX3_readDigits_85 : decode cX3_readDigits 85 = .ok (.getfield 53, 3) := by decide +kernel
theorem dX3_readDigits_88 : decode cX3_readDigits 88 = .ok (.iload_n 2, 1) := by decide +kernel
theorem dX3_readDigits_89 : decode cX3_readDigits 89 = .ok (.iastore, 1) := by decide +kernel
theorem dX3_readDigits_90 : decode cX3_readDigits 90 = .ok (.aload_n 0, 1) := by decide +kernel
theorem dX3_readDigits_91 : decode cX3_readDigits 91 = .ok (.dup, 1) := by decide +kernel
theorem dX3_readDigits_92 : decode cX3_readDigits 92 = .ok (.getfield 53, 3) := by decide +kernel
theorem dX3_readDigits_95 : decode cX3_readDigits 95 = .ok (.iconst 1, 1) := by decide +kernel
theorem dX3_readDigits_96 : decode cX3_readDigits 96 = .ok (.iadd, 1) := by decide +kernel
theorem dX3_readDigits_97 : decode cX3_readDigits 97 = .ok (.putfield 53, 3) := by decide +kernel
theorem dX3_readDigits_100 : decode cX3_readDigits 100 = .ok (.iconst 1, 1) := by decide +kernel
theorem dX3_readDigits_101 : decode cX3_readDigits 101 = .ok (.ireturn, 1) := by decide +kernel
theorem dX3_isDigit_0 : decode cX3_isDigit 0 = .ok (.iload_n 0, 1) := by decide +kernel
theorem dX3_isDigit_1 : decode cX3_isDigit 1 = .ok (.bipush 48, 2) := by decide +kernel
theorem dX3_isDigit_3 : decode cX3_isDigit 3 = .ok (.if_icmp .lt 13, 3) := by decide +kernel
theorem dX3_isDigit_6 : decode cX3_isDigit 6 = .ok (.iload_n 0, 1) := by decide +kernel
theorem dX3_isDigit_7 : decode cX3_isDigit 7 = .ok (.bipush 57, 2) := by decide +kernel
theorem dX3_isDigit_9 : decode cX3_isDigit 9 = .ok (.if_icmp .gt 7, 3) := by decide +kernel
theorem dX3_isDigit_12 : decode cX3_isDigit 12 = .ok (.iconst 1, 1) := by decide +kernel
theorem dX3_isDigit_13 : decode cX3_isDigit 13 = .ok (.goto 4, 3) := by decide +kernel
theorem dX3_isDigit_16 : decode cX3_isDigit 16 = .ok (.iconst 0, 1) := by decide +kernel
theorem dX3_isDigit_17 : decode cX3_isDigit 17 = .ok (.ireturn, 1) := by decide +kernel
theorem dX3_byteHere_0 : decode cX3_byteHere 0 = .ok (.aload_n 0, 1) := by decide +kernel
theorem dX3_byteHere_1 : decode cX3_byteHere 1 = .ok (.getfield 37, 3) := by decide +kernel
theorem dX3_byteHere_4 : decode cX3_byteHere 4 = .ok (.ifCond .lt 35, 3) := by decide +kernel
theorem dX3_byteHere_7 : decode cX3_byteHere 7 = .ok (.aload_n 0, 1) := by decide +kernel
theorem dX3_byteHere_8 : decode cX3_byteHere 8 = .ok (.getfield 37, 3) := by decide +kernel
theorem dX3_byteHere_11 : decode cX3_byteHere 11 = .ok (.aload_n 0, 1) := by decide +kernel
theorem dX3_byteHere_12 : decode cX3_byteHere 12 = .ok (.getfield 30, 3) := by decide +kernel
theorem dX3_byteHere_15 : decode cX3_byteHere 15 = .ok (.if_icmp .ge 24, 3) := by decide +kernel
theorem dX3_byteHere_18 : decode cX3_byteHere 18 = .ok (.aload_n 0, 1) := by decide +kernel
theorem dX3_byteHere_19 : decode cX3_byteHere 19 = .ok (.getfield 37, 3) := by decide +kernel
theorem dX3_byteHere_22 : decode cX3_byteHere 22 = .ok (.bipush 100, 2) := by decide +kernel
theorem dX3_byteHere_24 : decode cX3_byteHere 24 = .ok (.if_icmp .ge 15, 3) := by decide +kernel
theorem dX3_byteHere_27 : decode cX3_byteHere 27 = .ok (.aload_n 0, 1) := by decide +kernel
theorem dX3_byteHere_28 : decode cX3_byteHere 28 = .ok (.getfield 9, 3) := by decide +kernel
theorem dX3_byteHere_31 : decode cX3_byteHere 31 = .ok (.aload_n 0, 1) := by decide +kernel
theorem dX3_byteHere_32 : decode cX3_byteHere 32 = .ok (.getfield 37, 3) := by decide +kernel
theorem dX3_byteHere_35 : decode cX3_byteHere 35 = .ok (.iaload, 1) := by decide +kernel
theorem dX3_byteHere_36 : decode cX3_byteHere 36 = .ok (.goto 6, 3) := by decide +kernel
theorem dX3_byteHere_39 : decode cX3_byteHere 39 = .ok (.sipush 1000, 3) := by decide +kernel
theorem dX3_byteHere_42 : decode cX3_byteHere 42 = .ok (.ireturn, 1) := by decide +kernel
theorem dX3_numberAt_0 : decode cX3_numberAt 0 = .ok (.iload_n 1, 1) := by decide +kernel
theorem dX3_numberAt_1 : decode cX3_numberAt 1 = .ok (.ifCond .lt 21, 3) := by decide +kernel
theorem dX3_numberAt_4 : decode cX3_numberAt 4 = .ok (.iload_n 1, 1) := by decide +kernel
theorem dX3_numberAt_5 : decode cX3_numberAt 5 = .ok (.aload_n 0, 1) := by decide +kernel
theorem dX3_numberAt_6 : decode cX3_numberAt 6 = .ok (.getfield 15, 3) := by decide +kernel
theorem dX3_numberAt_9 : decode cX3_numberAt 9 = .ok (.arraylength, 1) := by decide +kernel
theorem dX3_numberAt_10 : decode cX3_numberAt 10 = .ok (.if_icmp .ge 12, 3) := by decide +kernel
theorem dX3_numberAt_13 : decode cX3_numberAt 13 = .ok (.aload_n 0, 1) := by decide +kernel
theorem dX3_numberAt_14 : decode cX3_numberAt 14 = .ok (.getfield 15, 3) := by decide +kernel
theorem dX3_numberAt_17 : decode cX3_numberAt 17 = .ok (.iload_n 1, 1) := by decide +kernel
theorem dX3_numberAt_18 : decode cX3_numberAt 18 = .ok (.iaload, 1) := by decide +kernel
theorem dX3_numberAt_19 : decode cX3_numberAt 19 = .ok (.goto 4, 3) := by decide +kernel
theorem dX3_numberAt_22 : decode cX3_numberAt 22 = .ok (.iconst 0, 1) := by decide +kernel
theorem dX3_numberAt_23 : decode cX3_numberAt 23 = .ok (.ireturn, 1) := by decide +kernel
theorem dX4_init_0 : decode cX4_init 0 = .ok (.aload_n 0, 1) := by decide +kernel
theorem dX4_init_1 : decode cX4_init 1 = .ok (.invokespecial 1, 3) := by decide +kernel
theorem dX4_init_4 : decode cX4_init 4 = .ok (.aload_n 0, 1) := by decide +kernel
theorem dX4_init_5 : decode cX4_init 5 = .ok (.iload_n 1, 1) := by decide +kernel
theorem dX4_init_6 : decode cX4_init 6 = .ok (.putfield 7, 3) := by decide +kernel
theorem dX4_init_9 : decode cX4_init 9 = .ok (.aload_n 0, 1) := by decide +kernel
theorem dX4_init_10 : decode cX4_init 10 = .ok (.iload_n 2, 1) := by decide +kernel
theorem dX4_init_11 : decode cX4_init 11 = .ok (.ifCond .ge 7, 3) := by decide +kernel
theorem dX4_init_14 : decode cX4_init 14 = .ok (.iconst 0, 1) := by decide +kernel
theorem dX4_init_15 : decode cX4_init 15 = .ok (.goto 4, 3) := by decide +kernel
theorem dX4_init_18 : decode cX4_init 18 = .ok (.iload_n 2, 1) := by decide +kernel
theorem dX4_init_19 : decode cX4_init 19 = .ok (.newarray .int, 2) := by decide +kernel
theorem dX4_init_21 : decode cX4_init 21 = .ok (.putfield 13, 3) := by decide +kernel
theorem dX4_init_24 : decode cX4_init 24 = .ok (.return_, 1) := by decide +kernel
theorem dX4_size_0 : decode cX4_size 0 = .ok (.aload_n 0, 1) := by decide +kernel
theorem dX4_size_1 : decode cX4_size 1 = .ok (.getfield 13, 3) := by decide +kernel
theorem dX4_size_4 : decode cX4_size 4 = .ok (.arraylength, 1) := by decide +kernel
theorem dX4_size_5 : decode cX4_size 5 = .ok (.ireturn, 1) := by decide +kernel
theorem dX4_isPlace_0 : decode cX4_isPlace 0 = .ok (.iload_n 1, 1) := by decide +kernel
theorem dX4_isPlace_1 : decode cX4_isPlace 1 = .ok (.ifCond .lt 16, 3) := by decide +kernel
theorem dX4_isPlace_4 : decode cX4_isPlace 4 = .ok (.iload_n 1, 1) := by decide +kernel
theorem dX4_isPlace_5 : decode cX4_isPlace 5 = .ok (.aload_n 0, 1) := by decide +kernel
theorem dX4_isPlace_6 : decode cX4_isPlace 6 = .ok (.getfield 13, 3) := by decide +kernel
theorem dX4_isPlace_9 : decode cX4_isPlace 9 = .ok (.arraylength, 1) := by decide +kernel
theorem dX4_isPlace_10 : decode cX4_isPlace 10 = .ok (.if_icmp .ge 7, 3) := by decide +kernel
theorem dX4_isPlace_13 : decode cX4_isPlace 13 = .ok (.iconst 1, 1) := by decide +kernel
theorem dX4_isPlace_14 : decode cX4_isPlace 14 = .ok (.goto 4, 3) := by decide +kernel
theorem dX4_isPlace_17 : decode cX4_isPlace 17 = .ok (.iconst 0, 1) := by decide +kernel
theorem dX4_isPlace_18 : decode cX4_isPlace 18 = .ok (.ireturn, 1) := by decide +kernel
theorem dX4_valueAt_0 : decode cX4_valueAt 0 = .ok (.iload_n 1, 1) := by decide +kernel
theorem dX4_valueAt_1 : decode cX4_valueAt 1 = .ok (.ifCond .lt 21, 3) := by decide +kernel
theorem dX4_valueAt_4 : decode cX4_valueAt 4 = .ok (.iload_n 1, 1) := by decide +kernel
theorem dX4_valueAt_5 : decode cX4_valueAt 5 = .ok (.aload_n 0, 1) := by decide +kernel
theorem dX4_valueAt_6 : decode cX4_valueAt 6 = .ok (.getfield 13, 3) := by decide +kernel
theorem dX4_valueAt_9 : decode cX4_valueAt 9 = .ok (.arraylength, 1) := by decide +kernel
theorem dX4_valueAt_10 : decode cX4_valueAt 10 = .ok (.if_icmp .ge 12, 3) := by decide +kernel
theorem dX4_valueAt_13 : decode cX4_valueAt 13 = .ok (.aload_n 0, 1) := by decide +kernel
theorem dX4_valueAt_14 : decode cX4_valueAt 14 = .ok (.getfield 13, 3) := by decide +kernel
theorem dX4_valueAt_17 : decode cX4_valueAt 17 = .ok (.iload_n 1, 1) := by decide +kernel
theorem dX4_valueAt_18 : decode cX4_valueAt 18 = .ok (.iaload, 1) := by decide +kernel
theorem dX4_valueAt_19 : decode cX4_valueAt 19 = .ok (.goto 4, 3) := by decide +kernel
theorem dX4_valueAt_22 : decode cX4_valueAt 22 = .ok (.iconst 0, 1) := by decide +kernel
theorem dX4_valueAt_23 : decode cX4_valueAt 23 = .ok (.ireturn, 1) := by decide +kernel
theorem dX4_place_0 : decode cX4_place 0 = .ok (.aload_n 0, 1) := by decide +kernel
theorem dX4_place_1 : decode cX4_place 1 = .ok (.iload_n 1, 1) := by decide +kernel
theorem dX4_place_2 : decode cX4_place 2 = .ok (.invokevirtual 17, 3) := by decide +kernel
theorem dX4_place_5 : decode cX4_place 5 = .ok (.ifCond .ne 5, 3) := by decide +kernel
theorem dX4_place_8 : decode cX4_place 8 = .ok (.iconst 0, 1) := by decide +kernel
theorem dX4_place_9 : decode cX4_place 9 = .ok (.ireturn, 1) := by decide +kernel
theorem dX4_place_10 : decode cX4_place 10 = .ok (.aload_n 0, 1) := by decide +kernel
theorem dX4_place_11 : decode cX4_place 11 = .ok (.getfield 13, 3) := by decide +kernel
theorem dX4_place_14 : decode cX4_place 14 = .ok (.iload_n 1, 1) := by decide +kernel
theorem dX4_place_15 : decode cX4_place 15 = .ok (.aload_n 0, 1) := by decide +kernel
theorem dX4_place_16 : decode cX4_place 16 = .ok (.iload_n 2, 1) := by decide +kernel
theorem dX4_place_17 : decode cX4_place 17 = .ok (.invokevirtual 21, 3) := by decide +kernel
theorem dX4_place_20 : decode cX4_place 20 = .ok (.iastore, 1) := by decide +kernel
theorem dX4_place_21 : decode cX4_place 21 = .ok (.iconst 1, 1) := by decide +kernel
theorem dX4_place_22 : decode cX4_place 22 = .ok (.ireturn, 1) := by decide +kernel
theorem dX4_lowestBits_0 : decode cX4_lowestBits 0 = .ok (.aload_n 0, 1) := by decide +kernel
theorem dX4_lowestBits_1 : decode cX4_lowestBits 1 = .ok (.getfield 7, 3) := by decide +kernel
theorem dX4_lowestBits_4 : decode cX4_lowestBits 4 = .ok (.lookupswitch 34 #[(0, 28), (1, 31)], 28) := by decide +kernel
theorem dX4_lowestBits_32 : decode cX4_lowestBits 32 = .ok (.iload_n 1, 1) := by decide +kernel
theorem dX4_lowestBits_33 : decode cX4_lowestBits 33 = .ok (.i2b, 1) := by decide +kernel
theorem dX4_lowestBits_34 : decode cX4_lowestBits 34 = .ok (.ireturn, 1) := by decide +kernel
theorem dX4_lowestBits_35 : decode cX4_lowestBits 35 = .ok (.iload_n 1, 1) := by decide +kernel
theorem dX4_lowestBits_36 : decode cX4_lowestBits 36 = .ok (.i2s, 1) := by decide +kernel
theorem dX4_lowestBits_37 : decode cX4_lowestBits 37 = .ok (.ireturn, 1) := by decide +kernel
theorem dX4_lowestBits_38 : decode cX4_lowestBits 38 = .ok (.iload_n 1, 1) := by decide +kernel
theorem dX4_lowestBits_39 : decode cX4_lowestBits 39 = .ok (.ireturn, 1) := by decide +kernel
theorem dX4_leastNumber_0 : decode cX4_leastNumber 0 = .ok (.aload_n 0, 1) := by decide +kernel
theorem dX4_leastNumber_1 : decode cX4_leastNumber 1 = .ok (.getfield 7, 3) := by decide +kernel
theorem dX4_leastNumber_4 : decode cX4_leastNumber 4 = .ok (.lookupswitch 35 #[(0, 28), (1, 31)], 28) := by decide +kernel
theorem dX4_leastNumber_32 : decode cX4_leastNumber 32 = .ok (.bipush (-128), 2) := by decide +kernel
theorem dX4_leastNumber_34 : decode cX4_leastNumber 34 = .ok (.ireturn, 1) := by decide +kernel
theorem dX4_leastNumber_35 : decode cX4_leastNumber 35 = .ok (.sipush (-32768), 3) := by decide +kernel
theorem dX4_leastNumber_38 : decode cX4_leastNumber 38 = .ok (.ireturn, 1) := by decide +kernel
theorem dX4_leastNumber_39 : decode cX4_leastNumber 39 = .ok (.ldc 25, 2) := by decide +kernel
theorem dX4_leastNumber_41 : decode cX4_leastNumber 41 = .ok (.ireturn, 1) := by decide +kernel
theorem dX4_hasFrom_0 : decode cX4_hasFrom 0 = .ok (.iload_n 1, 1) := by decide +kernel
theorem dX4_hasFrom_1 : decode cX4_hasFrom 1 = .ok (.ifCond .lt 31, 3) := by decide +kernel
theorem dX4_hasFrom_4 : decode cX4_hasFrom 4 = .ok (.iload_n 2, 1) := by decide +kernel
theorem dX4_hasFrom_5 : decode cX4_hasFrom 5 = .ok (.ifCond .lt 27, 3) := by decide +kernel
theorem dX4_hasFrom_8 : decode cX4_hasFrom 8 = .ok (.iload_n 1, 1) := by decide +kernel
theorem dX4_hasFrom_9 : decode cX4_hasFrom 9 = .ok (.aload_n 0, 1) := by decide +kernel
theorem dX4_hasFrom_10 : decode cX4_hasFrom 10 = .ok (.getfield 13, 3) := by decide +kernel
theorem dX4_hasFrom_13 : decode cX4_hasFrom 13 = .ok (.arraylength, 1) := by decide +kernel
theorem dX4_hasFrom_14 : decode cX4_hasFrom 14 = .ok (.if_icmp .gt 18, 3) := by decide +kernel
theorem dX4_hasFrom_17 : decode cX4_hasFrom 17 = .ok (.iload_n 2, 1) := by decide +kernel
theorem dX4_hasFrom_18 : decode cX4_hasFrom 18 = .ok (.aload_n 0, 1) := by decide +kernel
theorem dX4_hasFrom_19 : decode cX4_hasFrom 19 = .ok (.getfield 13, 3) := by decide +kernel
theorem dX4_hasFrom_22 : decode cX4_hasFrom 22 = .ok (.arraylength, 1) := by decide +kernel
theorem dX4_hasFrom_23 : decode cX4_hasFrom 23 = .ok (.iload_n 1, 1) := by decide +kernel
theorem dX4_hasFrom_24 : decode cX4_hasFrom 24 = .ok (.isub, 1) := by decide +kernel
theorem dX4_hasFrom_25 : decode cX4_hasFrom 25 = .ok (.if_icmp .gt 7, 3) := by decide +kernel
theorem dX4_hasFrom_28 : decode cX4_hasFrom 28 = .ok (.iconst 1, 1) := by decide +kernel
theorem dX4_hasFrom_29 : decode cX4_hasFrom 29 = .ok (.goto 4, 3) := by decide +kernel
theorem dX4_hasFrom_32 : decode cX4_hasFrom 32 = .ok (.iconst 0, 1) := by decide +kernel
theorem dX4_hasFrom_33 : decode cX4_hasFrom 33 = .ok (.ireturn, 1) := by decide +kernel
theorem dX4_copyTo_0 : decode cX4_copyTo 0 = .ok (.aload_n 0, 1) := by decide +kernel
theorem dX4_copyTo_1 : decode cX4_copyTo 1 = .ok (.iload_n 2, 1) := by decide +kernel
theorem dX4_copyTo_2 : decode cX4_copyTo 2 = .ok (.iload 4, 2) := by decide +kernel
theorem dX4_copyTo_4 : decode cX4_copyTo 4 = .ok (.invokevirtual 26, 3) := by decide +kernel
theorem dX4_copyTo_7 : decode cX4_copyTo 7 = .ok (.ifCond .eq 13, 3) := by decide +kernel
theorem dX4_copyTo_10 : decode cX4_copyTo 10 = .ok (.aload_n 1, 1) := by decide +kernel
theorem dX4_copyTo_11 : decode cX4_copyTo 11 = .ok (.iload_n 3, 1) := by decide +kernel
theorem dX4_copyTo_12 : decode cX4_copyTo 12 = .ok (.iload 4, 2) := by decide +kernel
theorem dX4_copyTo_14 : decode cX4_copyTo 14 = .ok (.invokevirtual 26, 3) := by decide +kernel
theorem dX4_copyTo_17 : decode cX4_copyTo 17 = .ok (.ifCond .ne 5, 3) := by decide +kernel
theorem dX4_copyTo_20 : decode cX4_copyTo 20 = .ok (.iconst 0, 1) := by decide +kernel
theorem dX4_copyTo_21 : decode cX4_copyTo 21 = .ok (.ireturn, 1) := by decide +kernel
theorem dX4_copyTo_22 : decode cX4_copyTo 22 = .ok (.aload_n 0, 1) := by decide +kernel
theorem dX4_copyTo_23 : decode cX4_copyTo 23 = .ok (.getfield 13, 3) := by decide +kernel
theorem dX4_copyTo_26 : decode cX4_copyTo 26 = .ok (.iload_n 2, 1) := by decide +kernel
theorem dX4_copyTo_27 : decode cX4_copyTo 27 = .ok (.aload_n 1, 1) := by decide +kernel
theorem dX4_copyTo_28 : decode cX4_copyTo 28 = .ok (.getfield 13, 3) := by decide +kernel
theorem dX4_copyTo_31 : decode cX4_copyTo 31 = .ok (.iload_n 3, 1) := by decide +kernel
theorem dX4_copyTo_32 : decode cX4_copyTo 32 = .ok (.iload 4, 2) := by decide +kernel
theorem dX4_copyTo_34 : decode cX4_copyTo 34 = .ok (.invokestatic 30, 3) := by decide +kernel
theorem dX4_copyTo_37 : decode cX4_copyTo 37 = .ok (.iconst 1, 1) := by decide +kernel
theorem dX4_copyTo_38 : decode cX4_copyTo 38 = .ok (.ireturn, 1) := by decide +kernel
theorem dX5_init_0 : decode cX5_init 0 = .ok (.aload_n 0, 1) := by decide +kernel
theorem dX5_init_1 : decode cX5_init 1 = .ok (.invokespecial 3, 3) := by decide +kernel
theorem dX5_init_4 : decode cX5_init 4 = .ok (.aload_n 0, 1) := by decide +kernel
theorem dX5_init_5 : decode cX5_init 5 = .ok (.iconst (-1), 1) := by decide +kernel
theorem dX5_init_6 : decode cX5_init 6 = .ok (.putfield 9, 3) := by decide +kernel
theorem dX5_init_9 : decode cX5_init 9 = .ok (.aload_n 0, 1) := by decide +kernel
theorem dX5_init_10 : decode cX5_init 10 = .ok (.bipush 10, 2) := by decide +kernel
theorem dX5_init_12 : decode cX5_init 12 = .ok (.newarray .int, 2) := by decide +kernel
theorem dX5_init_14 : decode cX5_init 14 = .ok (.putfield 15, 3) := by decide +kernel
theorem dX5_init_17 : decode cX5_init 17 = .ok (.return_, 1) := by decide +kernel
theorem dX5_become_0 : decode cX5_become 0 = .ok (.aload_n 0, 1) := by decide +kernel
theorem dX5_become_1 : decode cX5_become 1 = .ok (.aload_n 1, 1) := by decide +kernel
theorem dX5_become_2 : decode cX5_become 2 = .ok (.getfield 9, 3) := by decide +kernel
theorem dX5_become_5 : decode cX5_become 5 = .ok (.putfield 9, 3) := by decide +kernel
theorem dX5_become_8 : decode cX5_become 8 = .ok (.aload_n 0, 1) := by decide +kernel
theorem dX5_become_9 : decode cX5_become 9 = .ok (.aload_n 1, 1) := by decide +kernel
theorem dX5_become_10 : decode cX5_become 10 = .ok (.getfield 19, 3) := by decide +kernel
theorem dX5_become_13 : decode cX5_become 13 = .ok (.putfield 19, 3) := by decide +kernel
theorem dX5_become_16 : decode cX5_become 16 = .ok (.aload_n 0, 1) := by decide +kernel
theorem dX5_become_17 : decode cX5_become 17 = .ok (.aload_n 1, 1) := by decide +kernel
theorem dX5_become_18 : decode cX5_become 18 = .ok (.getfield 22, 3) := by decide +kernel
theorem dX5_become_21 : decode cX5_become 21 = .ok (.putfield 22, 3) := by decide +kernel
theorem dX5_become_24 : decode cX5_become 24 = .ok (.aload_n 0, 1) := by decide +kernel
theorem dX5_become_25 : decode cX5_become 25 = .ok (.aload_n 1, 1) := by decide +kernel
theorem dX5_become_26 : decode cX5_become 26 = .ok (.getfield 25, 3) := by decide +kernel
theorem dX5_become_29 : decode cX5_become 29 = .ok (.putfield 25, 3) := by decide +kernel
theorem dX5_become_32 : decode cX5_become 32 = .ok (.aload_n 0, 1) := by decide +kernel
theorem dX5_become_33 : decode cX5_become 33 = .ok (.aload_n 1, 1) := by decide +kernel
theorem dX5_become_34 : decode cX5_become 34 = .ok (.getfield 28, 3) := by decide +kernel
theorem dX5_become_37 : decode cX5_become 37 = .ok (.putfield 28, 3) := by decide +kernel
theorem dX5_become_40 : decode cX5_become 40 = .ok (.aload_n 1, 1) := by decide +kernel
theorem dX5_become_41 : decode cX5_become 41 = .ok (.getfield 15, 3) := by decide +kernel
theorem dX5_become_44 : decode cX5_become 44 = .ok (.iconst 0, 1) := by decide +kernel
theorem dX5_become_45 : decode cX5_become 45 = .ok (.aload_n 0, 1) := by decide +kernel
theorem dX5_become_46 : decode cX5_become 46 = .ok (.getfield 15, 3) := by decide +kernel
theorem dX5_become_49 : decode cX5_become 49 = .ok (.iconst 0, 1) := by decide +kernel
theorem dX5_become_50 : decode cX5_become 50 = .ok (.bipush 10, 2) := by decide +kernel
theorem dX5_become_52 : decode cX5_become 52 = .ok (.invokestatic 31, 3) := by decide +kernel
theorem dX5_become_55 : decode cX5_become 55 = .ok (.return_, 1) := by decide +kernel
theorem dX5_waxOn_0 : decode cX5_waxOn 0 = .ok (.iload_n 1, 1) := by decide +kernel
theorem dX5_waxOn_1 : decode cX5_waxOn 1 = .ok (.ifCond .lt 18, 3) := by decide +kernel
theorem dX5_waxOn_4 : decode cX5_waxOn 4 = .ok (.iload_n 1, 1) := by decide +kernel
theorem dX5_waxOn_5 : decode cX5_waxOn 5 = .ok (.bipush 10, 2) := by decide +kernel
theorem dX5_waxOn_7 : decode cX5_waxOn 7 = .ok (.if_icmp .ge 12, 3) := by decide +kernel
theorem dX5_waxOn_10 : decode cX5_waxOn 10 = .ok (.aload_n 0, 1) := by decide +kernel
theorem dX5_waxOn_11 : decode cX5_waxOn 11 = .ok (.getfield 15, 3) := by decide +kernel
theorem dX5_waxOn_14 : decode cX5_waxOn 14 = .ok (.iload_n 1, 1) := by decide +kernel
theorem dX5_waxOn_15 : decode cX5_waxOn 15 = .ok (.iaload, 1) := by decide +kernel
theorem dX5_waxOn_16 : decode cX5_waxOn 16 = .ok (.goto 4, 3) := by decide +kernel
theorem dX5_waxOn_19 : decode cX5_waxOn 19 = .ok (.iconst 0, 1) := by decide +kernel
theorem dX5_waxOn_20 : decode cX5_waxOn 20 = .ok (.ireturn, 1) := by decide +kernel
theorem dX5_layWax_0 : decode cX5_layWax 0 = .ok (.iload_n 1, 1) := by decide +kernel
theorem dX5_layWax_1 : decode cX5_layWax 1 = .ok (.ifCond .lt 16, 3) := by decide +kernel
theorem dX5_layWax_4 : decode cX5_layWax 4 = .ok (.iload_n 1, 1) := by decide +kernel
theorem dX5_layWax_5 : decode cX5_layWax 5 = .ok (.bipush 10, 2) := by decide +kernel
theorem dX5_layWax_7 : decode cX5_layWax 7 = .ok (.if_icmp .ge 10, 3) := by decide +kernel
theorem dX5_layWax_10 : decode cX5_layWax 10 = .ok (.aload_n 0, 1) := by decide +kernel
theorem dX5_layWax_11 : decode cX5_layWax 11 = .ok (.getfield 15, 3) := by decide +kernel
theorem dX5_layWax_14 : decode cX5_layWax 14 = .ok (.iload_n 1, 1) := by decide +kernel
theorem dX5_layWax_15 : decode cX5_layWax 15 = .ok (.iload_n 2, 1) := by decide +kernel
theorem dX5_layWax_16 : decode cX5_layWax 16 = .ok (.iastore, 1) := by decide +kernel
theorem dX5_layWax_17 : decode cX5_layWax 17 = .ok (.return_, 1) := by decide +kernel
theorem dX5_told_0 : decode cX5_told 0 = .ok (.iload_n 1, 1) := by decide +kernel
theorem dX5_told_1 : decode cX5_told 1 = .ok (.tableswitch 42 0 2 #[27, 32, 37], 27) := by decide +kernel
theorem dX5_told_28 : decode cX5_told 28 = .ok (.aload_n 0, 1) := by decide +kernel
theorem dX5_told_29 : decode cX5_told 29 = .ok (.getfield 19, 3) := by decide +kernel
theorem dX5_told_32 : decode cX5_told 32 = .ok (.ireturn, 1) := by decide +kernel
theorem dX5_told_33 : decode cX5_told 33 = .ok (.aload_n 0, 1) := by decide +kernel
theorem dX5_told_34 : decode cX5_told 34 = .ok (.getfield 22, 3) := by decide +kernel
theorem dX5_told_37 : decode cX5_told 37 = .ok (.ireturn, 1) := by decide +kernel
theorem dX5_told_38 : decode cX5_told 38 = .ok (.aload_n 0, 1) := by decide +kernel
theorem dX5_told_39 : decode cX5_told 39 = .ok (.getfield 25, 3) := by decide +kernel
theorem dX5_told_42 : decode cX5_told 42 = .ok (.ireturn, 1) := by decide +kernel
theorem dX5_told_43 : decode cX5_told 43 = .ok (.aload_n 0, 1) := by decide +kernel
theorem dX5_told_44 : decode cX5_told 44 = .ok (.getfield 28, 3) := by decide +kernel
theorem dX5_told_47 : decode cX5_told 47 = .ok (.ireturn, 1) := by decide +kernel
theorem dX5_tell_0 : decode cX5_tell 0 = .ok (.iload_n 1, 1) := by decide +kernel
theorem dX5_tell_1 : decode cX5_tell 1 = .ok (.iconst 0, 1) := by decide +kernel
theorem dX5_tell_2 : decode cX5_tell 2 = .ok (.iconst 3, 1) := by decide +kernel
theorem dX5_tell_3 : decode cX5_tell 3 = .ok (.invokestatic 37, 3) := by decide +kernel
theorem dX5_tell_6 : decode cX5_tell 6 = .ok (.ifCond .eq 20, 3) := by decide +kernel
theorem dX5_tell_9 : decode cX5_tell 9 = .ok (.iload_n 2, 1) := by decide +kernel
theorem dX5_tell_10 : decode cX5_tell 10 = .ok (.getstatic 41, 3) := by decide +kernel
theorem dX5_tell_13 : decode cX5_tell 13 = .ok (.iload_n 1, 1) := by decide +kernel
theorem dX5_tell_14 : decode cX5_tell 14 = .ok (.iaload, 1) := by decide +kernel
theorem dX5_tell_15 : decode cX5_tell 15 = .ok (.getstatic 44, 3) := by decide +kernel
theorem dX5_tell_18 : decode cX5_tell 18 = .ok (.iload_n 1, 1) := by decide +kernel
theorem dX5_tell_19 : decode cX5_tell 19 = .ok (.iaload, 1) := by decide +kernel
theorem dX5_tell_20 : decode cX5_tell 20 = .ok (.invokestatic 37, 3) := by decide +kernel
theorem dX5_tell_23 : decode cX5_tell 23 = .ok (.ifCond .ne 5, 3) := by decide +kernel
theorem dX5_tell_26 : decode cX5_tell 26 = .ok (.iconst 0, 1) := by decide +kernel
theorem dX5_tell_27 : decode cX5_tell 27 = .ok (.ireturn, 1) := by decide +kernel
theorem dX5_tell_28 : decode cX5_tell 28 = .ok (.iload_n 1, 1) := by decide +kernel
theorem dX5_tell_29 : decode cX5_tell 29 = .ok (.tableswitch 51 0 2 #[27, 35, 43], 27) := by decide +kernel
theorem dX5_tell_56 : decode cX5_tell 56 = .ok (.aload_n 0, 1) := by decide +kernel
theorem dX5_tell_57 : decode cX5_tell 57 = .ok (.iload_n 2, 1) := by decide +kernel
theorem dX5_tell_58 : decode cX5_tell 58 = .ok (.putfield 19, 3) := by decide +kernel
theorem dX5_tell_61 : decode cX5_tell 61 = .ok (.goto 24, 3) := by decide +kernel
theorem dX5_tell_64 : decode cX5_tell 64 = .ok (.aload_n 0, 1) := by decide +kernel
theorem dX5_tell_65 : decode cX5_tell 65 = .ok (.iload_n 2, 1) := by decide +kernel
theorem dX5_tell_66 : decode cX5_tell 66 = .ok (.putfield 22, 3) := by decide +kernel
theorem dX5_tell_69 : decode cX5_tell 69 = .ok (.goto 16, 3) := by decide +kernel
theorem dX5_tell_72 : decode cX5_tell 72 = .ok (.aload_n 0, 1) := by decide +kernel
theorem dX5_tell_73 : decode cX5_tell 73 = .ok (.iload_n 2, 1) := by decide +kernel
theorem dX5_tell_74 : decode cX5_tell 74 = .ok (.putfield 25, 3) := by decide +kernel
theorem dX5_tell_77 : decode cX5_tell 77 = .ok (.goto 8, 3) := by decide +kernel
theorem dX5_tell_80 : decode cX5_tell 80 = .ok (.aload_n 0, 1) := by decide +kernel
theorem dX5_tell_81 : decode cX5_tell 81 = .ok (.iload_n 2, 1) := by decide +kernel
theorem dX5_tell_82 : decode cX5_tell 82 = .ok (.putfield 28, 3) := by decide +kernel
theorem dX5_tell_85 : decode cX5_tell 85 = .ok (.iconst 1, 1) := by decide +kernel
theorem dX5_tell_86 : decode cX5_tell 86 = .ok (.ireturn, 1) := by decide +kernel
theorem dX6_init_0 : decode cX6_init 0 = .ok (.aload_n 0, 1) := by decide +kernel
theorem dX6_init_1 : decode cX6_init 1 = .ok (.invokespecial 1, 3) := by decide +kernel
theorem dX6_init_4 : decode cX6_init 4 = .ok (.aload_n 0, 1) := by decide +kernel
theorem dX6_init_5 : decode cX6_init 5 = .ok (.iload_n 1, 1) := by decide +kernel
theorem dX6_init_6 : decode cX6_init 6 = .ok (.putfield 7, 3) := by decide +kernel
theorem dX6_init_9 : decode cX6_init 9 = .ok (.aload_n 0, 1) := by decide +kernel
theorem dX6_init_10 : decode cX6_init 10 = .ok (.iload_n 2, 1) := by decide +kernel
theorem dX6_init_11 : decode cX6_init 11 = .ok (.putfield 13, 3) := by decide +kernel
theorem dX6_init_14 : decode cX6_init 14 = .ok (.aload_n 0, 1) := by decide +kernel
theorem dX6_init_15 : decode cX6_init 15 = .ok (.iload_n 3, 1) := by decide +kernel
theorem dX6_init_16 : decode cX6_init 16 = .ok (.putfield 16, 3) := by decide +kernel
theorem dX6_init_19 : decode cX6_init 19 = .ok (.aload_n 0, 1) := by decide +kernel
theorem dX6_init_20 : decode cX6_init 20 = .ok (.iload 4, 2) := by decide +kernel
theorem dX6_init_22 : decode cX6_init 22 = .ok (.putfield 19, 3) := by decide +kernel
theorem dX6_init_25 : decode cX6_init 25 = .ok (.aload_n 0, 1) := by decide +kernel
theorem dX6_init_26 : decode cX6_init 26 = .ok (.iload 5, 2) := by decide +kernel
theorem dX6_init_28 : decode cX6_init 28 = .ok (.putfield 22, 3) := by decide +kernel
theorem dX6_init_31 : decode cX6_init 31 = .ok (.aload_n 0, 1) := by decide +kernel
theorem dX6_init_32 : decode cX6_init 32 = .ok (.iload 6, 2) := by decide +kernel
theorem dX6_init_34 : decode cX6_init 34 = .ok (.putfield 25, 3) := by decide +kernel
theorem dX6_init_37 : decode cX6_init 37 = .ok (.return_, 1) := by decide +kernel
theorem dX6_cost_0 : decode cX6_cost 0 = .ok (.aload_n 0, 1) := by decide +kernel
theorem dX6_cost_1 : decode cX6_cost 1 = .ok (.getfield 13, 3) := by decide +kernel
theorem dX6_cost_4 : decode cX6_cost 4 = .ok (.tableswitch 78 1 7 #[44, 51, 54, 56, 66, 74, 76], 44) := by decide +kernel
theorem dX6_cost_48 : decode cX6_cost 48 = .ok (.iconst 5, 1) := by decide +kernel
theorem dX6_cost_49 : decode cX6_cost 49 = .ok (.aload_n 0, 1) := by decide +kernel
theorem dX6_cost_50 : decode cX6_cost 50 = .ok (.getfield 22, 3) := by decide +kernel
theorem dX6_cost_53 : decode cX6_cost 53 = .ok (.iadd, 1) := by decide +kernel
theorem dX6_cost_54 : decode cX6_cost 54 = .ok (.ireturn, 1) := by decide +kernel
theorem dX6_cost_55 : decode cX6_cost 55 = .ok (.bipush 15, 2) := by decide +kernel
theorem dX6_cost_57 : decode cX6_cost 57 = .ok (.ireturn, 1) := by decide +kernel
theorem dX6_cost_58 : decode cX6_cost 58 = .ok (.iconst 2, 1) := by decide +kernel
theorem dX6_cost_59 : decode cX6_cost 59 = .ok (.ireturn, 1) := by decide +kernel
theorem dX6_cost_60 : decode cX6_cost 60 = .ok (.iconst 5, 1) := by decide +kernel
theorem dX6_cost_61 : decode cX6_cost 61 = .ok (.aload_n 0, 1) := by decide +kernel
theorem dX6_cost_62 : decode cX6_cost 62 = .ok (.getfield 22, 3) := by decide +kernel
theorem dX6_cost_65 : decode cX6_cost 65 = .ok (.iadd, 1) := by decide +kernel
theorem dX6_cost_66 : decode cX6_cost 66 = .ok (.bipush 40, 2) := by decide +kernel
theorem dX6_cost_68 : decode cX6_cost 68 = .ok (.iadd, 1) := by decide +kernel
theorem dX6_cost_69 : decode cX6_cost 69 = .ok (.ireturn, 1) := by decide +kernel
theorem dX6_cost_70 : decode cX6_cost 70 = .ok (.bipush 10, 2) := by decide +kernel
theorem dX6_cost_72 : decode cX6_cost 72 = .ok (.aload_n 0, 1) := by decide +kernel
theorem dX6_cost_73 : decode cX6_cost 73 = .ok (.getfield 22, 3) := by decide +kernel
theorem dX6_cost_76 : decode cX6_cost 76 = .ok (.iadd, 1) := by decide +kernel
theorem dX6_cost_77 : decode cX6_cost 77 = .ok (.ireturn, 1) := by decide +kernel
theorem dX6_cost_78 : decode cX6_cost 78 = .ok (.iconst 0, 1) := by decide +kernel
theorem dX6_cost_79 : decode cX6_cost 79 = .ok (.ireturn, 1) := by decide +kernel
theorem dX6_cost_80 : decode cX6_cost 80 = .ok (.iconst 1, 1) := by decide +kernel
theorem dX6_cost_81 : decode cX6_cost 81 = .ok (.ireturn, 1) := by decide +kernel
theorem dX6_cost_82 : decode cX6_cost 82 = .ok (.iconst 5, 1) := by decide +kernel
theorem dX6_cost_83 : decode cX6_cost 83 = .ok (.ireturn, 1) := by decide +kernel
theorem dX6_isSeam_0 : decode cX6_isSeam 0 = .ok (.aload_n 0, 1) := by decide +kernel
theorem dX6_isSeam_1 : decode cX6_isSeam 1 = .ok (.getfield 13, 3) := by decide +kernel
theorem dX6_isSeam_4 : decode cX6_isSeam 4 = .ok (.iconst 1, 1) := by decide +kernel
theorem dX6_isSeam_5 : decode cX6_isSeam 5 = .ok (.if_icmp .eq 11, 3) := by decide +kernel
theorem dX6_isSeam_8 : decode cX6_isSeam 8 = .ok (.aload_n 0, 1) := by decide +kernel
theorem dX6_isSeam_9 : decode cX6_isSeam 9 = .ok (.getfield 13, 3) := by decide +kernel
theorem dX6_isSeam_12 : decode cX6_isSeam 12 = .ok (.iconst 4, 1) := by decide +kernel
theorem dX6_isSeam_13 : decode cX6_isSeam 13 = .ok (.if_icmp .ne 7, 3) := by decide +kernel
theorem dX6_isSeam_16 : decode cX6_isSeam 16 = .ok (.iconst 1, 1) := by decide +kernel
theorem dX6_isSeam_17 : decode cX6_isSeam 17 = .ok (.goto 4, 3) := by decide +kernel
theorem dX6_isSeam_20 : decode cX6_isSeam 20 = .ok (.iconst 0, 1) := by decide +kernel
theorem dX6_isSeam_21 : decode cX6_isSeam 21 = .ok (.ireturn, 1) := by decide +kernel
theorem dX6_fail_0 : decode cX6_fail 0 = .ok (.aload_n 0, 1) := by decide +kernel
theorem dX6_fail_1 : decode cX6_fail 1 = .ok (.getfield 13, 3) := by decide +kernel
theorem dX6_fail_4 : decode cX6_fail 4 = .ok (.iconst 3, 1) := by decide +kernel
theorem dX6_fail_5 : decode cX6_fail 5 = .ok (.if_icmp .eq 10, 3) := by decide +kernel
theorem dX6_fail_8 : decode cX6_fail 8 = .ok (.aload_n 0, 1) := by decide +kernel
theorem dX6_fail_9 : decode cX6_fail 9 = .ok (.getfield 22, 3) := by decide +kernel
theorem dX6_fail_12 : decode cX6_fail 12 = .ok (.ifCond .ne 4, 3) := by decide +kernel
theorem dX6_fail_15 : decode cX6_fail 15 = .ok (.return_, 1) := by decide +kernel
theorem dX6_fail_16 : decode cX6_fail 16 = .ok (.aload_n 0, 1) := by decide +kernel
theorem dX6_fail_17 : decode cX6_fail 17 = .ok (.getfield 13, 3) := by decide +kernel
theorem dX6_fail_20 : decode cX6_fail 20 = .ok (.bipush 7, 2) := by decide +kernel
theorem dX6_fail_22 : decode cX6_fail 22 = .ok (.if_icmp .ne 13, 3) := by decide +kernel
theorem dX6_fail_25 : decode cX6_fail 25 = .ok (.new 28, 3) := by decide +kernel
theorem dX6_fail_28 : decode cX6_fail 28 = .ok (.dup, 1) := by decide +kernel
theorem dX6_fail_29 : decode cX6_fail 29 = .ok (.ldc 30, 2) := by decide +kernel
theorem dX6_fail_31 : decode cX6_fail 31 = .ok (.invokespecial 32, 3) := by decide +kernel
theorem dX6_fail_34 : decode cX6_fail 34 = .ok (.athrow, 1) := by decide +kernel
theorem dX6_fail_35 : decode cX6_fail 35 = .ok (.aload_n 0, 1) := by decide +kernel
theorem dX6_fail_36 : decode cX6_fail 36 = .ok (.getfield 13, 3) := by decide +kernel
theorem dX6_fail_39 : decode cX6_fail 39 = .ok (.iconst 4, 1) := by decide +kernel
theorem dX6_fail_40 : decode cX6_fail 40 = .ok (.if_icmp .ne 13, 3) := by decide +kernel
theorem dX6_fail_43 : decode cX6_fail 43 = .ok (.new 35, 3) := by decide +kernel
theorem dX6_fail_46 : decode cX6_fail 46 = .ok (.dup, 1) := by decide +kernel
theorem dX6_fail_47 : decode cX6_fail 47 = .ok (.ldc 37, 2) := by decide +kernel
theorem dX6_fail_49 : decode cX6_fail 49 = .ok (.invokespecial 39, 3) := by decide +kernel
theorem dX6_fail_52 : decode cX6_fail 52 = .ok (.athrow, 1) := by decide +kernel
theorem dX6_fail_53 : decode cX6_fail 53 = .ok (.new 40, 3) := by decide +kernel
theorem dX6_fail_56 : decode cX6_fail 56 = .ok (.dup, 1) := by decide +kernel
theorem dX6_fail_57 : decode cX6_fail 57 = .ok (.ldc 42, 2) := by decide +kernel
theorem dX6_fail_59 : decode cX6_fail 59 = .ok (.invokespecial 44, 3) := by decide +kernel
theorem dX6_fail_62 : decode cX6_fail 62 = .ok (.athrow, 1) := by decide +kernel
theorem dJ6_bitCount_0f7a4_0 : decode cJ6_bitCount_0f7a4 0 = .ok (.iload_n 0, 1) := by decide +kernel
theorem dJ6_bitCount_0f7a4_1 : decode cJ6_bitCount_0f7a4 1 = .ok (.iload_n 0, 1) := by decide +kernel
theorem dJ6_bitCount_0f7a4_2 : decode cJ6_bitCount_0f7a4 2 = .ok (.iconst 1, 1) := by decide +kernel
theorem dJ6_bitCount_0f7a4_3 : decode cJ6_bitCount_0f7a4 3 = .ok (.iushr, 1) := by decide +kernel
theorem dJ6_bitCount_0f7a4_4 : decode cJ6_bitCount_0f7a4 4 = .ok (.ldc_w 265, 3) := by decide +kernel
theorem dJ6_bitCount_0f7a4_7 : decode cJ6_bitCount_0f7a4 7 = .ok (.iand, 1) := by decide +kernel
theorem dJ6_bitCount_0f7a4_8 : decode cJ6_bitCount_0f7a4 8 = .ok (.isub, 1) := by decide +kernel
theorem dJ6_bitCount_0f7a4_9 : decode cJ6_bitCount_0f7a4 9 = .ok (.istore_n 0, 1) := by decide +kernel
theorem dJ6_bitCount_0f7a4_10 : decode cJ6_bitCount_0f7a4 10 = .ok (.iload_n 0, 1) := by decide +kernel
theorem dJ6_bitCount_0f7a4_11 : decode cJ6_bitCount_0f7a4 11 = .ok (.ldc_w 266, 3) := by decide +kernel
theorem dJ6_bitCount_0f7a4_14 : decode cJ6_bitCount_0f7a4 14 = .ok (.iand, 1) := by decide +kernel
theorem dJ6_bitCount_0f7a4_15 : decode cJ6_bitCount_0f7a4 15 = .ok (.iload_n 0, 1) := by decide +kernel
theorem dJ6_bitCount_0f7a4_16 : decode cJ6_bitCount_0f7a4 16 = .ok (.iconst 2, 1) := by decide +kernel
theorem dJ6_bitCount_0f7a4_17 : decode cJ6_bitCount_0f7a4 17 = .ok (.iushr, 1) := by decide +kernel
theorem dJ6_bitCount_0f7a4_18 : decode cJ6_bitCount_0f7a4 18 = .ok (.ldc_w 266, 3) := by decide +kernel
theorem dJ6_bitCount_0f7a4_21 : decode cJ6_bitCount_0f7a4 21 = .ok (.iand, 1) := by decide +kernel
theorem dJ6_bitCount_0f7a4_22 : decode cJ6_bitCount_0f7a4 22 = .ok (.iadd, 1) := by decide +kernel
theorem dJ6_bitCount_0f7a4_23 : decode cJ6_bitCount_0f7a4 23 = .ok (.istore_n 0, 1) := by decide +kernel
theorem dJ6_bitCount_0f7a4_24 : decode cJ6_bitCount_0f7a4 24 = .ok (.iload_n 0, 1) := by decide +kernel
theorem dJ6_bitCount_0f7a4_25 : decode cJ6_bitCount_0f7a4 25 = .ok (.iload_n 0, 1) := by decide +kernel
theorem dJ6_bitCount_0f7a4_26 : decode cJ6_bitCount_0f7a4 26 = .ok (.iconst 4, 1) := by decide +kernel
theorem dJ6_bitCount_0f7a4_27 : decode cJ6_bitCount_0f7a4 27 = .ok (.iushr, 1) := by decide +kernel
theorem dJ6_bitCount_0f7a4_28 : decode cJ6_bitCount_0f7a4 28 = .ok (.iadd, 1) := by decide +kernel
theorem dJ6_bitCount_0f7a4_29 : decode cJ6_bitCount_0f7a4 29 = .ok (.ldc_w 267, 3) := by decide +kernel
theorem dJ6_bitCount_0f7a4_32 : decode cJ6_bitCount_0f7a4 32 = .ok (.iand, 1) := by decide +kernel
theorem dJ6_bitCount_0f7a4_33 : decode cJ6_bitCount_0f7a4 33 = .ok (.istore_n 0, 1) := by decide +kernel
theorem dJ6_bitCount_0f7a4_34 : decode cJ6_bitCount_0f7a4 34 = .ok (.iload_n 0, 1) := by decide +kernel
theorem dJ6_bitCount_0f7a4_35 : decode cJ6_bitCount_0f7a4 35 = .ok (.iload_n 0, 1) := by decide +kernel
theorem dJ6_bitCount_0f7a4_36 : decode cJ6_bitCount_0f7a4 36 = .ok (.bipush 8, 2) := by decide +kernel
theorem dJ6_bitCount_0f7a4_38 : decode cJ6_bitCount_0f7a4 38 = .ok (.iushr, 1) := by decide +kernel
theorem dJ6_bitCount_0f7a4_39 : decode cJ6_bitCount_0f7a4 39 = .ok (.iadd, 1) := by decide +kernel
theorem dJ6_bitCount_0f7a4_40 : decode cJ6_bitCount_0f7a4 40 = .ok (.istore_n 0, 1) := by decide +kernel
theorem dJ6_bitCount_0f7a4_41 : decode cJ6_bitCount_0f7a4 41 = .ok (.iload_n 0, 1) := by decide +kernel
theorem dJ6_bitCount_0f7a4_42 : decode cJ6_bitCount_0f7a4 42 = .ok (.iload_n 0, 1) := by decide +kernel
theorem dJ6_bitCount_0f7a4_43 : decode cJ6_bitCount_0f7a4 43 = .ok (.bipush 16, 2) := by decide +kernel
theorem dJ6_bitCount_0f7a4_45 : decode cJ6_bitCount_0f7a4 45 = .ok (.iushr, 1) := by decide +kernel
theorem dJ6_bitCount_0f7a4_46 : decode cJ6_bitCount_0f7a4 46 = .ok (.iadd, 1) := by decide +kernel
theorem dJ6_bitCount_0f7a4_47 : decode cJ6_bitCount_0f7a4 47 = .ok (.istore_n 0, 1) := by decide +kernel
theorem dJ6_bitCount_0f7a4_48 : decode cJ6_bitCount_0f7a4 48 = .ok (.iload_n 0, 1) := by decide +kernel
theorem dJ6_bitCount_0f7a4_49 : decode cJ6_bitCount_0f7a4 49 = .ok (.bipush 63, 2) := by decide +kernel
theorem dJ6_bitCount_0f7a4_51 : decode cJ6_bitCount_0f7a4 51 = .ok (.iand, 1) := by decide +kernel
theorem dJ6_bitCount_0f7a4_52 : decode cJ6_bitCount_0f7a4 52 = .ok (.ireturn, 1) := by decide +kernel
theorem dJ9_abs_0f7a4_0 : decode cJ9_abs_0f7a4 0 = .ok (.iload_n 0, 1) := by decide +kernel
theorem dJ9_abs_0f7a4_1 : decode cJ9_abs_0f7a4 1 = .ok (.ifCond .ge 8, 3) := by decide +kernel
theorem dJ9_abs_0f7a4_4 : decode cJ9_abs_0f7a4 4 = .ok (.iload_n 0, 1) := by decide +kernel
theorem dJ9_abs_0f7a4_5 : decode cJ9_abs_0f7a4 5 = .ok (.ineg, 1) := by decide +kernel
theorem dJ9_abs_0f7a4_6 : decode cJ9_abs_0f7a4 6 = .ok (.goto 4, 3) := by decide +kernel
theorem dJ9_abs_0f7a4_9 : decode cJ9_abs_0f7a4 9 = .ok (.iload_n 0, 1) := by decide +kernel
theorem dJ9_abs_0f7a4_10 : decode cJ9_abs_0f7a4 10 = .ok (.ireturn, 1) := by decide +kernel
theorem dJ9_abs_067f4_0 : decode cJ9_abs_067f4 0 = .ok (.lload_n 0, 1) := by decide +kernel
theorem dJ9_abs_067f4_1 : decode cJ9_abs_067f4 1 = .ok (.lconst 0, 1) := by decide +kernel
theorem dJ9_abs_067f4_2 : decode cJ9_abs_067f4 2 = .ok (.lcmp, 1) := by decide +kernel
theorem dJ9_abs_067f4_3 : decode cJ9_abs_067f4 3 = .ok (.ifCond .ge 8, 3) := by decide +kernel
theorem dJ9_abs_067f4_6 : decode cJ9_abs_067f4 6 = .ok (.lload_n 0, 1) := by decide +kernel
theorem dJ9_abs_067f4_7 : decode cJ9_abs_067f4 7 = .ok (.lneg, 1) := by decide +kernel
theorem dJ9_abs_067f4_8 : decode cJ9_abs_067f4 8 = .ok (.goto 4, 3) := by decide +kernel
theorem dJ9_abs_067f4_11 : decode cJ9_abs_067f4 11 = .ok (.lload_n 0, 1) := by decide +kernel
theorem dJ9_abs_067f4_12 : decode cJ9_abs_067f4 12 = .ok (.lreturn, 1) := by decide +kernel
theorem dJ9_max_7cf53_0 : decode cJ9_max_7cf53 0 = .ok (.iload_n 0, 1) := by decide +kernel
theorem dJ9_max_7cf53_1 : decode cJ9_max_7cf53 1 = .ok (.iload_n 1, 1) := by decide +kernel
theorem dJ9_max_7cf53_2 : decode cJ9_max_7cf53 2 = .ok (.if_icmp .lt 7, 3) := by decide +kernel
theorem dJ9_max_7cf53_5 : decode cJ9_max_7cf53 5 = .ok (.iload_n 0, 1) := by decide +kernel
theorem dJ9_max_7cf53_6 : decode cJ9_max_7cf53 6 = .ok (.goto 4, 3) := by decide +kernel
theorem dJ9_max_7cf53_9 : decode cJ9_max_7cf53 9 = .ok (.iload_n 1, 1) := by decide +kernel
theorem dJ9_max_7cf53_10 : decode cJ9_max_7cf53 10 = .ok (.ireturn, 1) := by decide +kernel
theorem dJ9_min_7cf53_0 : decode cJ9_min_7cf53 0 = .ok (.iload_n 0, 1) := by decide +kernel
theorem dJ9_min_7cf53_1 : decode cJ9_min_7cf53 1 = .ok (.iload_n 1, 1) := by decide +kernel
theorem dJ9_min_7cf53_2 : decode cJ9_min_7cf53 2 = .ok (.if_icmp .gt 7, 3) := by decide +kernel
theorem dJ9_min_7cf53_5 : decode cJ9_min_7cf53 5 = .ok (.iload_n 0, 1) := by decide +kernel
theorem dJ9_min_7cf53_6 : decode cJ9_min_7cf53 6 = .ok (.goto 4, 3) := by decide +kernel
theorem dJ9_min_7cf53_9 : decode cJ9_min_7cf53 9 = .ok (.iload_n 1, 1) := by decide +kernel
theorem dJ9_min_7cf53_10 : decode cJ9_min_7cf53 10 = .ok (.ireturn, 1) := by decide +kernel
theorem dJ0_length_8abf5_0 : decode cJ0_length_8abf5 0 = .ok (.aload_n 0, 1) := by decide +kernel
theorem dJ0_length_8abf5_1 : decode cJ0_length_8abf5 1 = .ok (.getfield 9, 3) := by decide +kernel
theorem dJ0_length_8abf5_4 : decode cJ0_length_8abf5 4 = .ok (.arraylength, 1) := by decide +kernel
theorem dJ0_length_8abf5_5 : decode cJ0_length_8abf5 5 = .ok (.aload_n 0, 1) := by decide +kernel
theorem dJ0_length_8abf5_6 : decode cJ0_length_8abf5 6 = .ok (.invokevirtual 335, 3) := by decide +kernel
theorem dJ0_length_8abf5_9 : decode cJ0_length_8abf5 9 = .ok (.ishr, 1) := by decide +kernel
theorem dJ0_length_8abf5_10 : decode cJ0_length_8abf5 10 = .ok (.ireturn, 1) := by decide +kernel
theorem dJ0_isEmpty_aae02_0 : decode cJ0_isEmpty_aae02 0 = .ok (.aload_n 0, 1) := by decide +kernel
theorem dJ0_isEmpty_aae02_1 : decode cJ0_isEmpty_aae02 1 = .ok (.getfield 9, 3) := by decide +kernel
theorem dJ0_isEmpty_aae02_4 : decode cJ0_isEmpty_aae02 4 = .ok (.arraylength, 1) := by decide +kernel
theorem dJ0_isEmpty_aae02_5 : decode cJ0_isEmpty_aae02 5 = .ok (.ifCond .ne 7, 3) := by decide +kernel
theorem dJ0_isEmpty_aae02_8 : decode cJ0_isEmpty_aae02 8 = .ok (.iconst 1, 1) := by decide +kernel
theorem dJ0_isEmpty_aae02_9 : decode cJ0_isEmpty_aae02 9 = .ok (.goto 4, 3) := by decide +kernel
theorem dJ0_isEmpty_aae02_12 : decode cJ0_isEmpty_aae02 12 = .ok (.iconst 0, 1) := by decide +kernel
theorem dJ0_isEmpty_aae02_13 : decode cJ0_isEmpty_aae02 13 = .ok (.ireturn, 1) := by decide +kernel
theorem dJ0_charAt_5068e_0 : decode cJ0_charAt_5068e 0 = .ok (.aload_n 0, 1) := by decide +kernel
theorem dJ0_charAt_5068e_1 : decode cJ0_charAt_5068e 1 = .ok (.invokevirtual 492, 3) := by decide +kernel
theorem dJ0_charAt_5068e_4 : decode cJ0_charAt_5068e 4 = .ok (.ifCond .eq 12, 3) := by decide +kernel
theorem dJ0_charAt_5068e_7 : decode cJ0_charAt_5068e 7 = .ok (.aload_n 0, 1) := by decide +kernel
theorem dJ0_charAt_5068e_8 : decode cJ0_charAt_5068e 8 = .ok (.getfield 9, 3) := by decide +kernel
theorem dJ0_charAt_5068e_11 : decode cJ0_charAt_5068e 11 = .ok (.iload_n 1, 1) := by decide +kernel
theorem dJ0_charAt_5068e_12 : decode cJ0_charAt_5068e 12 = .ok (.invokestatic 495, 3) := by decide +kernel
theorem dJ0_charAt_5068e_15 : decode cJ0_charAt_5068e 15 = .ok (.ireturn, 1) := by decide +kernel
theorem dJ0_charAt_5068e_16 : decode cJ0_charAt_5068e 16 = .ok (.aload_n 0, 1) := by decide +kernel
theorem dJ0_charAt_5068e_17 : decode cJ0_charAt_5068e 17 = .ok (.getfield 9, 3) := by decide +kernel
theorem dJ0_charAt_5068e_20 : decode cJ0_charAt_5068e 20 = .ok (.iload_n 1, 1) := by decide +kernel
theorem dJ0_charAt_5068e_21 : decode cJ0_charAt_5068e 21 = .ok (.invokestatic 498, 3) := by decide +kernel
theorem dJ0_charAt_5068e_24 : decode cJ0_charAt_5068e 24 = .ok (.ireturn, 1) := by decide +kernel
theorem dJ0_coder_7d493_0 : decode cJ0_coder_7d493 0 = .ok (.getstatic 38, 3) := by decide +kernel
theorem dJ0_coder_7d493_3 : decode cJ0_coder_7d493 3 = .ok (.ifCond .eq 10, 3) := by decide +kernel
theorem dJ0_coder_7d493_6 : decode cJ0_coder_7d493 6 = .ok (.aload_n 0, 1) := by decide +kernel
theorem dJ0_coder_7d493_7 : decode cJ0_coder_7d493 7 = .ok (.getfield 15, 3) := by decide +kernel
theorem dJ0_coder_7d493_10 : decode cJ0_coder_7d493 10 = .ok (.goto 4, 3) := by decide +kernel
theorem dJ0_coder_7d493_13 : decode cJ0_coder_7d493 13 = .ok (.iconst 1, 1) := by decide +kernel
theorem dJ0_coder_7d493_14 : decode cJ0_coder_7d493 14 = .ok (.ireturn, 1) := by decide +kernel
theorem dJ0_isLatin1_aae02_0 : decode cJ0_isLatin1_aae02 0 = .ok (.getstatic 38, 3) := by decide +kernel
theorem dJ0_isLatin1_aae02_3 : decode cJ0_isLatin1_aae02 3 = .ok (.ifCond .eq 14, 3) := by decide +kernel
theorem dJ0_isLatin1_aae02_6 : decode cJ0_isLatin1_aae02 6 = .ok (.aload_n 0, 1) := by decide +kernel
theorem dJ0_isLatin1_aae02_7 : decode cJ0_isLatin1_aae02 7 = .ok (.getfield 15, 3) := by decide +kernel
theorem dJ0_isLatin1_aae02_10 : decode cJ0_isLatin1_aae02 10 = .ok (.ifCond .ne 7, 3) := by decide +kernel
theorem dJ0_isLatin1_aae02_13 : decode cJ0_isLatin1_aae02 13 = .ok (.iconst 1, 1) := by decide +kernel
theorem dJ0_isLatin1_aae02_14 : decode cJ0_isLatin1_aae02 14 = .ok (.goto 4, 3) := by decide +kernel
theorem dJ0_isLatin1_aae02_17 : decode cJ0_isLatin1_aae02 17 = .ok (.iconst 0, 1) := by decide +kernel
theorem dJ0_isLatin1_aae02_18 : decode cJ0_isLatin1_aae02 18 = .ok (.ireturn, 1) := by decide +kernel
theorem dJ0_checkIndex_df160_0 : decode cJ0_checkIndex_df160 0 = .ok (.iload_n 0, 1) := by decide +kernel
theorem dJ0_checkIndex_df160_1 : decode cJ0_checkIndex_df160 1 = .ok (.iload_n 1, 1) := by decide +kernel
theorem dJ0_checkIndex_df160_2 : decode cJ0_checkIndex_df160 2 = .ok (.getstatic 1053, 3) := by decide +kernel
theorem dJ0_checkIndex_df160_5 : decode cJ0_checkIndex_df160 5 = .ok (.invokestatic 1059, 3) := by decide +kernel
theorem dJ0_checkIndex_df160_8 : decode cJ0_checkIndex_df160 8 = .ok (.pop, 1) := by decide +kernel
theorem dJ0_checkIndex_df160_9 : decode cJ0_checkIndex_df160 9 = .ok (.return_, 1) := by decide +kernel
theorem dJ1_charAt_3b067_0 : decode cJ1_charAt_3b067 0 = .ok (.iload_n 1, 1) := by decide +kernel
theorem dJ1_charAt_3b067_1 : decode cJ1_charAt_3b067 1 = .ok (.aload_n 0, 1) := by decide +kernel
theorem dJ1_charAt_3b067_2 : decode cJ1_charAt_3b067 2 = .ok (.arraylength, 1) := by decide +kernel
theorem dJ1_charAt_3b067_3 : decode cJ1_charAt_3b067 3 = .ok (.invokestatic 9, 3) := by decide +kernel
theorem dJ1_charAt_3b067_6 : decode cJ1_charAt_3b067 6 = .ok (.aload_n 0, 1) := by decide +kernel
theorem dJ1_charAt_3b067_7 : decode cJ1_charAt_3b067 7 = .ok (.iload_n 1, 1) := by decide +kernel
theorem dJ1_charAt_3b067_8 : decode cJ1_charAt_3b067 8 = .ok (.baload, 1) := by decide +kernel
theorem dJ1_charAt_3b067_9 : decode cJ1_charAt_3b067 9 = .ok (.sipush 255, 3) := by decide +kernel
theorem dJ1_charAt_3b067_12 : decode cJ1_charAt_3b067 12 = .ok (.iand, 1) := by decide +kernel
theorem dJ1_charAt_3b067_13 : decode cJ1_charAt_3b067 13 = .ok (.i2c, 1) := by decide +kernel
theorem dJ1_charAt_3b067_14 : decode cJ1_charAt_3b067 14 = .ok (.ireturn, 1) := by decide +kernel
theorem dJ2_getChar_3b067_0 : decode cJ2_getChar_3b067 0 = .ok (.getstatic 44, 3) := by decide +kernel
theorem dJ2_getChar_3b067_3 : decode cJ2_getChar_3b067 3 = .ok (.ifCond .ne 25, 3) := by decide +kernel
theorem dJ2_getChar_3b067_6 : decode cJ2_getChar_3b067 6 = .ok (.iload_n 1, 1) := by decide +kernel
theorem dJ2_getChar_3b067_7 : decode cJ2_getChar_3b067 7 = .ok (.ifCond .lt 11, 3) := by decide +kernel
theorem dJ2_getChar_3b067_10 : decode cJ2_getChar_3b067 10 = .ok (.iload_n 1, 1) := by decide +kernel
theorem dJ2_getChar_3b067_11 : decode cJ2_getChar_3b067 11 = .ok (.aload_n 0, 1) := by decide +kernel
theorem dJ2_getChar_3b067_12 : decode cJ2_getChar_3b067 12 = .ok (.invokestatic 48, 3) := by decide +kernel
theorem dJ2_getChar_3b067_15 : decode cJ2_getChar_3b067 15 = .ok (.if_icmp .lt 13, 3) := by decide +kernel
theorem dJ2_getChar_3b067_18 : decode cJ2_getChar_3b067 18 = .ok (.new 52, 3) := by decide +kernel
theorem dJ2_getChar_3b067_21 : decode cJ2_getChar_3b067 21 = .ok (.dup, 1) := by decide +kernel
theorem dJ2_getChar_3b067_22 : decode cJ2_getChar_3b067 22 = .ok (.ldc 54, 2) := by decide +kernel
theorem dJ2_getChar_3b067_24 : decode cJ2_getChar_3b067 24 = .ok (.invokespecial 56, 3) := by decide +kernel
theorem dJ2_getChar_3b067_27 : decode cJ2_getChar_3b067 27 = .ok (.athrow, 1) := by decide +kernel
theorem dJ2_getChar_3b067_28 : decode cJ2_getChar_3b067 28 = .ok (.iload_n 1, 1) := by decide +kernel
theorem dJ2_getChar_3b067_29 : decode cJ2_getChar_3b067 29 = .ok (.iconst 1, 1) := by decide +kernel
theorem dJ2_getChar_3b067_30 : decode cJ2_getChar_3b067 30 = .ok (.ishl, 1) := by decide +kernel
theorem dJ2_getChar_3b067_31 : decode cJ2_getChar_3b067 31 = .ok (.istore_n 1, 1) := by decide +kernel
theorem dJ2_getChar_3b067_32 : decode cJ2_getChar_3b067 32 = .ok (.aload_n 0, 1) := by decide +kernel
theorem dJ2_getChar_3b067_33 : decode cJ2_getChar_3b067 33 = .ok (.iload_n 1, 1) := by decide +kernel
theorem dJ2_getChar_3b067_34 : decode cJ2_getChar_3b067 34 = .ok (.iinc 1 1, 3) := by decide +kernel
theorem dJ2_getChar_3b067_37 : decode cJ2_getChar_3b067 37 = .ok (.baload, 1) := by decide +kernel
theorem dJ2_getChar_3b067_38 : decode cJ2_getChar_3b067 38 = .ok (.sipush 255, 3) := by decide +kernel
theorem dJ2_getChar_3b067_41 : decode cJ2_getChar_3b067 41 = .ok (.iand, 1) := by decide +kernel
theorem dJ2_getChar_3b067_42 : decode cJ2_getChar_3b067 42 = .ok (.getstatic 59, 3) := by decide +kernel
theorem dJ2_getChar_3b067_45 : decode cJ2_getChar_3b067 45 = .ok (.ishl, 1) := by decide +kernel
theorem dJ2_getChar_3b067_46 : decode cJ2_getChar_3b067 46 = .ok (.aload_n 0, 1) := by decide +kernel
theorem dJ2_getChar_3b067_47 : decode cJ2_getChar_3b067 47 = .ok (.iload_n 1, 1) := by decide +kernel
theorem dJ2_getChar_3b067_48 : decode cJ2_getChar_3b067 48 = .ok (.baload, 1) := by decide +kernel
theorem dJ2_getChar_3b067_49 : decode cJ2_getChar_3b067 49 = .ok (.sipush 255, 3) := by decide +kernel
theorem dJ2_getChar_3b067_52 : decode cJ2_getChar_3b067 52 = .ok (.iand, 1) := by decide +kernel
theorem dJ2_getChar_3b067_53 : decode cJ2_getChar_3b067 53 = .ok (.getstatic 63, 3) := by decide +kernel
theorem dJ2_getChar_3b067_56 : decode cJ2_getChar_3b067 56 = .ok (.ishl, 1) := by decide +kernel
theorem dJ2_getChar_3b067_57 : decode cJ2_getChar_3b067 57 = .ok (.ior, 1) := by decide +kernel
theorem dJ2_getChar_3b067_58 : decode cJ2_getChar_3b067 58 = .ok (.i2c, 1) := by decide +kernel
theorem dJ2_getChar_3b067_59 : decode cJ2_getChar_3b067 59 = .ok (.ireturn, 1) := by decide +kernel
theorem dJ2_length_9d52b_0 : decode cJ2_length_9d52b 0 = .ok (.aload_n 0, 1) := by decide +kernel
theorem dJ2_length_9d52b_1 : decode cJ2_length_9d52b 1 = .ok (.arraylength, 1) := by decide +kernel
theorem dJ2_length_9d52b_2 : decode cJ2_length_9d52b 2 = .ok (.iconst 1, 1) := by decide +kernel
theorem dJ2_length_9d52b_3 : decode cJ2_length_9d52b 3 = .ok (.ishr, 1) := by decide +kernel
theorem dJ2_length_9d52b_4 : decode cJ2_length_9d52b 4 = .ok (.ireturn, 1) := by decide +kernel
theorem dJ2_charAt_3b067_0 : decode cJ2_charAt_3b067 0 = .ok (.iload_n 1, 1) := by decide +kernel
theorem dJ2_charAt_3b067_1 : decode cJ2_charAt_3b067 1 = .ok (.aload_n 0, 1) := by decide +kernel
theorem dJ2_charAt_3b067_2 : decode cJ2_charAt_3b067 2 = .ok (.invokestatic 67, 3) := by decide +kernel
theorem dJ2_charAt_3b067_5 : decode cJ2_charAt_3b067 5 = .ok (.aload_n 0, 1) := by decide +kernel
theorem dJ2_charAt_3b067_6 : decode cJ2_charAt_3b067 6 = .ok (.iload_n 1, 1) := by decide +kernel
theorem dJ2_charAt_3b067_7 : decode cJ2_charAt_3b067 7 = .ok (.invokestatic 71, 3) := by decide +kernel
theorem dJ2_charAt_3b067_10 : decode cJ2_charAt_3b067 10 = .ok (.ireturn, 1) := by decide +kernel
theorem dJ2_checkIndex_2214a_0 : decode cJ2_checkIndex_2214a 0 = .ok (.iload_n 0, 1) := by decide +kernel
theorem dJ2_checkIndex_2214a_1 : decode cJ2_checkIndex_2214a 1 = .ok (.aload_n 1, 1) := by decide +kernel
theorem dJ2_checkIndex_2214a_2 : decode cJ2_checkIndex_2214a 2 = .ok (.invokestatic 48, 3) := by decide +kernel
theorem dJ2_checkIndex_2214a_5 : decode cJ2_checkIndex_2214a 5 = .ok (.invokestatic 414, 3) := by decide +kernel
theorem dJ2_checkIndex_2214a_8 : decode cJ2_checkIndex_2214a 8 = .ok (.return_, 1) := by decide +kernel
theorem dJ3_checkIndex_8e157_0 : decode cJ3_checkIndex_8e157 0 = .ok (.iload_n 0, 1) := by decide +kernel
theorem dJ3_checkIndex_8e157_1 : decode cJ3_checkIndex_8e157 1 = .ok (.ifCond .lt 8, 3) := by decide +kernel
theorem dJ3_checkIndex_8e157_4 : decode cJ3_checkIndex_8e157 4 = .ok (.iload_n 0, 1) := by decide +kernel
theorem dJ3_checkIndex_8e157_5 : decode cJ3_checkIndex_8e157 5 = .ok (.iload_n 1, 1) := by decide +kernel
theorem dJ3_checkIndex_8e157_6 : decode cJ3_checkIndex_8e157 6 = .ok (.if_icmp .lt 10, 3) := by decide +kernel
theorem dJ3_checkIndex_8e157_9 : decode cJ3_checkIndex_8e157 9 = .ok (.aload_n 2, 1) := by decide +kernel
theorem dJ3_checkIndex_8e157_10 : decode cJ3_checkIndex_8e157 10 = .ok (.iload_n 0, 1) := by decide +kernel
theorem dJ3_checkIndex_8e157_11 : decode cJ3_checkIndex_8e157 11 = .ok (.iload_n 1, 1) := by decide +kernel
theorem dJ3_checkIndex_8e157_12 : decode cJ3_checkIndex_8e157 12 = .ok (.invokestatic 95, 3) := by decide +kernel
theorem dJ3_checkIndex_8e157_15 : decode cJ3_checkIndex_8e157 15 = .ok (.athrow, 1) := by decide +kernel
theorem dJ3_checkIndex_8e157_16 : decode cJ3_checkIndex_8e157 16 = .ok (.iload_n 0, 1) := by decide +kernel
theorem dJ3_checkIndex_8e157_17 : decode cJ3_checkIndex_8e157 17 = .ok (.ireturn, 1) := by decide +kernel
