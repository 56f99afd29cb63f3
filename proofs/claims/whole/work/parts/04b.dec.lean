theorem dX7_init_0 : decode cX7_init 0 = .ok (.aload_n 0, 1) := by decide +kernel
theorem dX7_init_1 : decode cX7_init 1 = .ok (.invokespecial 1, 3) := by decide +kernel
theorem dX7_init_4 : decode cX7_init 4 = .ok (.aload_n 0, 1) := by decide +kernel
theorem dX7_init_5 : decode cX7_init 5 = .ok (.new 7, 3) := by decide +kernel
theorem dX7_init_8 : decode cX7_init 8 = .ok (.dup, 1) := by decide +kernel
theorem dX7_init_9 : decode cX7_init 9 = .ok (.invokespecial 9, 3) := by decide +kernel
theorem dX7_init_12 : decode cX7_init 12 = .ok (.putfield 10, 3) := by decide +kernel
theorem dX7_init_15 : decode cX7_init 15 = .ok (.aload_n 0, 1) := by decide +kernel
theorem dX7_init_16 : decode cX7_init 16 = .ok (.new 7, 3) := by decide +kernel
theorem dX7_init_19 : decode cX7_init 19 = .ok (.dup, 1) := by decide +kernel
theorem dX7_init_20 : decode cX7_init 20 = .ok (.invokespecial 9, 3) := by decide +kernel
theorem dX7_init_23 : decode cX7_init 23 = .ok (.putfield 16, 3) := by decide +kernel
theorem dX7_init_26 : decode cX7_init 26 = .ok (.aload_n 0, 1) := by decide +kernel
theorem dX7_init_27 : decode cX7_init 27 = .ok (.new 7, 3) := by decide +kernel
theorem dX7_init_30 : decode cX7_init 30 = .ok (.dup, 1) := by decide +kernel
theorem dX7_init_31 : decode cX7_init 31 = .ok (.invokespecial 9, 3) := by decide +kernel
theorem dX7_init_34 : decode cX7_init 34 = .ok (.putfield 19, 3) := by decide +kernel
theorem dX7_init_37 : decode cX7_init 37 = .ok (.aload_n 0, 1) := by decide +kernel
theorem dX7_init_38 : decode cX7_init 38 = .ok (.new 22, 3) := by decide +kernel
theorem dX7_init_41 : decode cX7_init 41 = .ok (.dup, 1) := by decide +kernel
theorem dX7_init_42 : decode cX7_init 42 = .ok (.invokespecial 24, 3) := by decide +kernel
theorem dX7_init_45 : decode cX7_init 45 = .ok (.putfield 25, 3) := by decide +kernel
theorem dX7_init_48 : decode cX7_init 48 = .ok (.aload_n 0, 1) := by decide +kernel
theorem dX7_init_49 : decode cX7_init 49 = .ok (.new 29, 3) := by decide +kernel
theorem dX7_init_52 : decode cX7_init 52 = .ok (.dup, 1) := by decide +kernel
theorem dX7_init_53 : decode cX7_init 53 = .ok (.invokespecial 31, 3) := by decide +kernel
theorem dX7_init_56 : decode cX7_init 56 = .ok (.putfield 32, 3) := by decide +kernel
theorem dX7_init_59 : decode cX7_init 59 = .ok (.aload_n 0, 1) := by decide +kernel
theorem dX7_init_60 : decode cX7_init 60 = .ok (.bipush 8, 2) := by decide +kernel
theorem dX7_init_62 : decode cX7_init 62 = .ok (.anewarray 36, 3) := by decide +kernel
theorem dX7_init_65 : decode cX7_init 65 = .ok (.putfield 38, 3) := by decide +kernel
theorem dX7_init_68 : decode cX7_init 68 = .ok (.aload_n 0, 1) := by decide +kernel
theorem dX7_init_69 : decode cX7_init 69 = .ok (.bipush 8, 2) := by decide +kernel
theorem dX7_init_71 : decode cX7_init 71 = .ok (.anewarray 42, 3) := by decide +kernel
theorem dX7_init_74 : decode cX7_init 74 = .ok (.putfield 44, 3) := by decide +kernel
theorem dX7_init_77 : decode cX7_init 77 = .ok (.aload_n 0, 1) := by decide +kernel
theorem dX7_init_78 : decode cX7_init 78 = .ok (.bipush 10, 2) := by decide +kernel
theorem dX7_init_80 : decode cX7_init 80 = .ok (.newarray .int, 2) := by decide +kernel
theorem dX7_init_82 : decode cX7_init 82 = .ok (.putfield 48, 3) := by decide +kernel
theorem dX7_init_85 : decode cX7_init 85 = .ok (.aload_n 0, 1) := by decide +kernel
theorem dX7_init_86 : decode cX7_init 86 = .ok (.sipush 128, 3) := by decide +kernel
theorem dX7_init_89 : decode cX7_init 89 = .ok (.newarray .int, 2) := by decide +kernel
theorem dX7_init_91 : decode cX7_init 91 = .ok (.putfield 52, 3) := by decide +kernel
theorem dX7_init_94 : decode cX7_init 94 = .ok (.aload_n 0, 1) := by decide +kernel
theorem dX7_init_95 : decode cX7_init 95 = .ok (.bipush 24, 2) := by decide +kernel
theorem dX7_init_97 : decode cX7_init 97 = .ok (.newarray .int, 2) := by decide +kernel
theorem dX7_init_99 : decode cX7_init 99 = .ok (.putfield 55, 3) := by decide +kernel
theorem dX7_init_102 : decode cX7_init 102 = .ok (.return_, 1) := by decide +kernel
theorem dX7_instrument_0 : decode cX7_instrument 0 = .ok (.aload_n 0, 1) := by decide +kernel
theorem dX7_instrument_1 : decode cX7_instrument 1 = .ok (.iload_n 1, 1) := by decide +kernel
theorem dX7_instrument_2 : decode cX7_instrument 2 = .ok (.invokevirtual 58, 3) := by decide +kernel
theorem dX7_instrument_5 : decode cX7_instrument 5 = .ok (.istore_n 2, 1) := by decide +kernel
theorem dX7_instrument_6 : decode cX7_instrument 6 = .ok (.iload_n 2, 1) := by decide +kernel
theorem dX7_instrument_7 : decode cX7_instrument 7 = .ok (.ifCond .eq 5, 3) := by decide +kernel
theorem dX7_instrument_10 : decode cX7_instrument 10 = .ok (.iload_n 2, 1) := by decide +kernel
theorem dX7_instrument_11 : decode cX7_instrument 11 = .ok (.ireturn, 1) := by decide +kernel
theorem dX7_instrument_12 : decode cX7_instrument 12 = .ok (.aload_n 0, 1) := by decide +kernel
theorem dX7_instrument_13 : decode cX7_instrument 13 = .ok (.getfield 44, 3) := by decide +kernel
theorem dX7_instrument_16 : decode cX7_instrument 16 = .ok (.iload_n 1, 1) := by decide +kernel
theorem dX7_instrument_17 : decode cX7_instrument 17 = .ok (.aaload, 1) := by decide +kernel
theorem dX7_instrument_18 : decode cX7_instrument 18 = .ok (.astore_n 3, 1) := by decide +kernel
theorem dX7_instrument_19 : decode cX7_instrument 19 = .ok (.aload_n 3, 1) := by decide +kernel
theorem dX7_instrument_20 : decode cX7_instrument 20 = .ok (.getfield 62, 3) := by decide +kernel
theorem dX7_instrument_23 : decode cX7_instrument 23 = .ok (.ifCond .eq 6, 3) := by decide +kernel
theorem dX7_instrument_26 : decode cX7_instrument 26 = .ok (.bipush (-12), 2) := by decide +kernel
theorem dX7_instrument_28 : decode cX7_instrument 28 = .ok (.ireturn, 1) := by decide +kernel
theorem dX7_instrument_29 : decode cX7_instrument 29 = .ok (.aload_n 0, 1) := by decide +kernel
theorem dX7_instrument_30 : decode cX7_instrument 30 = .ok (.getfield 25, 3) := by decide +kernel
theorem dX7_instrument_33 : decode cX7_instrument 33 = .ok (.aload_n 3, 1) := by decide +kernel
theorem dX7_instrument_34 : decode cX7_instrument 34 = .ok (.invokevirtual 66, 3) := by decide +kernel
theorem dX7_instrument_37 : decode cX7_instrument 37 = .ok (.aload_n 0, 1) := by decide +kernel
theorem dX7_instrument_38 : decode cX7_instrument 38 = .ok (.getfield 25, 3) := by decide +kernel
theorem dX7_instrument_41 : decode cX7_instrument 41 = .ok (.invokevirtual 70, 3) := by decide +kernel
theorem dX7_instrument_44 : decode cX7_instrument 44 = .ok (.istore 4, 2) := by decide +kernel
theorem dX7_instrument_46 : decode cX7_instrument 46 = .ok (.iload 4, 2) := by decide +kernel
theorem dX7_instrument_48 : decode cX7_instrument 48 = .ok (.ifCond .ge 15, 3) := by decide +kernel
theorem dX7_instrument_51 : decode cX7_instrument 51 = .ok (.iconst 1, 1) := by decide +kernel
theorem dX7_instrument_52 : decode cX7_instrument 52 = .ok (.aload_n 0, 1) := by decide +kernel
theorem dX7_instrument_53 : decode cX7_instrument 53 = .ok (.getfield 25, 3) := by decide +kernel
theorem dX7_instrument_56 : decode cX7_instrument 56 = .ok (.getfield 74, 3) := by decide +kernel
theorem dX7_instrument_59 : decode cX7_instrument 59 = .ok (.invokestatic 77, 3) := by decide +kernel
theorem dX7_instrument_62 : decode cX7_instrument 62 = .ok (.ireturn, 1) := by decide +kernel
theorem dX7_instrument_63 : decode cX7_instrument 63 = .ok (.aload_n 0, 1) := by decide +kernel
theorem dX7_instrument_64 : decode cX7_instrument 64 = .ok (.getfield 25, 3) := by decide +kernel
theorem dX7_instrument_67 : decode cX7_instrument 67 = .ok (.aload_n 3, 1) := by decide +kernel
theorem dX7_instrument_68 : decode cX7_instrument 68 = .ok (.invokevirtual 66, 3) := by decide +kernel
theorem dX7_instrument_71 : decode cX7_instrument 71 = .ok (.aload_n 0, 1) := by decide +kernel
theorem dX7_instrument_72 : decode cX7_instrument 72 = .ok (.getfield 19, 3) := by decide +kernel
theorem dX7_instrument_75 : decode cX7_instrument 75 = .ok (.aload_n 0, 1) := by decide +kernel
theorem dX7_instrument_76 : decode cX7_instrument 76 = .ok (.getfield 10, 3) := by decide +kernel
theorem dX7_instrument_79 : decode cX7_instrument 79 = .ok (.invokevirtual 81, 3) := by decide +kernel
theorem dX7_instrument_82 : decode cX7_instrument 82 = .ok (.iconst 0, 1) := by decide +kernel
theorem dX7_instrument_83 : decode cX7_instrument 83 = .ok (.istore 5, 2) := by decide +kernel
theorem dX7_instrument_85 : decode cX7_instrument 85 = .ok (.iload 5, 2) := by decide +kernel
theorem dX7_instrument_87 : decode cX7_instrument 87 = .ok (.iload 4, 2) := by decide +kernel
theorem dX7_instrument_89 : decode cX7_instrument 89 = .ok (.if_icmp .ge 45, 3) := by decide +kernel
theorem dX7_instrument_92 : decode cX7_instrument 92 = .ok (.aload_n 0, 1) := by decide +kernel
theorem dX7_instrument_93 : decode cX7_instrument 93 = .ok (.getfield 25, 3) := by decide +kernel
theorem dX7_instrument_96 : decode cX7_instrument 96 = .ok (.invokevirtual 85, 3) := by decide +kernel
theorem dX7_instrument_99 : decode cX7_instrument 99 = .ok (.ifCond .eq 17, 3) := by decide +kernel
theorem dX7_instrument_102 : decode cX7_instrument 102 = .ok (.aload_n 0, 1) := by decide +kernel
theorem dX7_instrument_103 : decode cX7_instrument 103 = .ok (.getfield 19, 3) := by decide +kernel
theorem dX7_instrument_106 : decode cX7_instrument 106 = .ok (.aload_n 0, 1) := by decide +kernel
theorem dX7_instrument_107 : decode cX7_instrument 107 = .ok (.getfield 25, 3) := by decide +kernel
theorem dX7_instrument_110 : decode cX7_instrument 110 = .ok (.invokevirtual 89, 3) := by decide +kernel
theorem dX7_instrument_113 : decode cX7_instrument 113 = .ok (.ifCond .ne 15, 3) := by decide +kernel
theorem dX7_instrument_116 : decode cX7_instrument 116 = .ok (.iconst 2, 1) := by decide +kernel
theorem dX7_instrument_117 : decode cX7_instrument 117 = .ok (.aload_n 0, 1) := by decide +kernel
theorem dX7_instrument_118 : decode cX7_instrument 118 = .ok (.getfield 25, 3) := by decide +kernel
theorem dX7_instrument_121 : decode cX7_instrument 121 = .ok (.getfield 93, 3) := by decide +kernel
theorem dX7_instrument_124 : decode cX7_instrument 124 = .ok (.invokestatic 77, 3) := by decide +kernel
theorem dX7_instrument_127 : decode cX7_instrument 127 = .ok (.ireturn, 1) := by decide +kernel
theorem dX7_instrument_128 : decode cX7_instrument 128 = .ok (.iinc 5 1, 3) := by decide +kernel
theorem dX7_instrument_131 : decode cX7_instrument 131 = .ok (.goto (-46), 3) := by decide +kernel
theorem dX7_instrument_134 : decode cX7_instrument 134 = .ok (.aload_n 0, 1) := by decide +kernel
theorem dX7_instrument_135 : decode cX7_instrument 135 = .ok (.getfield 10, 3) := by decide +kernel
theorem dX7_instrument_138 : decode cX7_instrument 138 = .ok (.aload_n 0, 1) := by decide +kernel
theorem dX7_instrument_139 : decode cX7_instrument 139 = .ok (.getfield 19, 3) := by decide +kernel
theorem dX7_instrument_142 : decode cX7_instrument 142 = .ok (.invokevirtual 81, 3) := by decide +kernel
theorem dX7_instrument_145 : decode cX7_instrument 145 = .ok (.iload 4, 2) := by decide +kernel
theorem dX7_instrument_147 : decode cX7_instrument 147 = .ok (.ireturn, 1) := by decide +kernel
theorem dX7_fault_0 : decode cX7_fault 0 = .ok (.sipush (-1000), 3) := by decide +kernel
theorem dX7_fault_3 : decode cX7_fault 3 = .ok (.iload_n 0, 1) := by decide +kernel
theorem dX7_fault_4 : decode cX7_fault 4 = .ok (.imul, 1) := by decide +kernel
theorem dX7_fault_5 : decode cX7_fault 5 = .ok (.iload_n 1, 1) := by decide +kernel
theorem dX7_fault_6 : decode cX7_fault 6 = .ok (.isub, 1) := by decide +kernel
theorem dX7_fault_7 : decode cX7_fault 7 = .ok (.ireturn, 1) := by decide +kernel
theorem dX7_piece_0 : decode cX7_piece 0 = .ok (.aload_n 0, 1) := by decide +kernel
theorem dX7_piece_1 : decode cX7_piece 1 = .ok (.getfield 10, 3) := by decide +kernel
theorem dX7_piece_4 : decode cX7_piece 4 = .ok (.iload_n 1, 1) := by decide +kernel
theorem dX7_piece_5 : decode cX7_piece 5 = .ok (.invokevirtual 96, 3) := by decide +kernel
theorem dX7_piece_8 : decode cX7_piece 8 = .ok (.astore_n 3, 1) := by decide +kernel
theorem dX7_piece_9 : decode cX7_piece 9 = .ok (.aload_n 3, 1) := by decide +kernel
theorem dX7_piece_10 : decode cX7_piece 10 = .ok (.ifnonnull 5, 3) := by decide +kernel
theorem dX7_piece_13 : decode cX7_piece 13 = .ok (.iconst (-1), 1) := by decide +kernel
theorem dX7_piece_14 : decode cX7_piece 14 = .ok (.ireturn, 1) := by decide +kernel
theorem dX7_piece_15 : decode cX7_piece 15 = .ok (.iload_n 2, 1) := by decide +kernel
theorem dX7_piece_16 : decode cX7_piece 16 = .ok (.tableswitch 137 0 7 #[48, 53, 58, 63, 80, 85, 97, 113], 48) := by decide +kernel
theorem dX7_piece_64 : decode cX7_piece 64 = .ok (.aload_n 3, 1) := by decide +kernel
theorem dX7_piece_65 : decode cX7_piece 65 = .ok (.getfield 100, 3) := by decide +kernel
theorem dX7_piece_68 : decode cX7_piece 68 = .ok (.ireturn, 1) := by decide +kernel
theorem dX7_piece_69 : decode cX7_piece 69 = .ok (.aload_n 3, 1) := by decide +kernel
theorem dX7_piece_70 : decode cX7_piece 70 = .ok (.getfield 105, 3) := by decide +kernel
theorem dX7_piece_73 : decode cX7_piece 73 = .ok (.ireturn, 1) := by decide +kernel
theorem dX7_piece_74 : decode cX7_piece 74 = .ok (.aload_n 3, 1) := by decide +kernel
theorem dX7_piece_75 : decode cX7_piece 75 = .ok (.getfield 108, 3) := by decide +kernel
theorem dX7_piece_78 : decode cX7_piece 78 = .ok (.ireturn, 1) := by decide +kernel
theorem dX7_piece_79 : decode cX7_piece 79 = .ok (.aload_n 3, 1) := by decide +kernel
theorem dX7_piece_80 : decode cX7_piece 80 = .ok (.getfield 111, 3) := by decide +kernel
theorem dX7_piece_83 : decode cX7_piece 83 = .ok (.ifCond .ge 8, 3) := by decide +kernel
theorem dX7_piece_86 : decode cX7_piece 86 = .ok (.bipush (-4), 2) := by decide +kernel
theorem dX7_piece_88 : decode cX7_piece 88 = .ok (.goto 7, 3) := by decide +kernel
theorem dX7_piece_91 : decode cX7_piece 91 = .ok (.aload_n 3, 1) := by decide +kernel
theorem dX7_piece_92 : decode cX7_piece 92 = .ok (.getfield 111, 3) := by decide +kernel
theorem dX7_piece_95 : decode cX7_piece 95 = .ok (.ireturn, 1) := by decide +kernel
theorem dX7_piece_96 : decode cX7_piece 96 = .ok (.aload_n 3, 1) := by decide +kernel
theorem dX7_piece_97 : decode cX7_piece 97 = .ok (.getfield 114, 3) := by decide +kernel
theorem dX7_piece_100 : decode cX7_piece 100 = .ok (.ireturn, 1) := by decide +kernel
theorem dX7_piece_101 : decode cX7_piece 101 = .ok (.aload_n 0, 1) := by decide +kernel
theorem dX7_piece_102 : decode cX7_piece 102 = .ok (.getfield 10, 3) := by decide +kernel
theorem dX7_piece_105 : decode cX7_piece 105 = .ok (.getfield 117, 3) := by decide +kernel
theorem dX7_piece_108 : decode cX7_piece 108 = .ok (.iload_n 1, 1) := by decide +kernel
theorem dX7_piece_109 : decode cX7_piece 109 = .ok (.invokevirtual 120, 3) := by decide +kernel
theorem dX7_piece_112 : decode cX7_piece 112 = .ok (.ireturn, 1) := by decide +kernel
theorem dX7_piece_113 : decode cX7_piece 113 = .ok (.aload_n 3, 1) := by decide +kernel
theorem dX7_piece_114 : decode cX7_piece 114 = .ok (.aload_n 0, 1) := by decide +kernel
theorem dX7_piece_115 : decode cX7_piece 115 = .ok (.getfield 10, 3) := by decide +kernel
theorem dX7_piece_118 : decode cX7_piece 118 = .ok (.getfield 117, 3) := by decide +kernel
theorem dX7_piece_121 : decode cX7_piece 121 = .ok (.iload_n 1, 1) := by decide +kernel
theorem dX7_piece_122 : decode cX7_piece 122 = .ok (.invokevirtual 120, 3) := by decide +kernel
theorem dX7_piece_125 : decode cX7_piece 125 = .ok (.invokevirtual 123, 3) := by decide +kernel
theorem dX7_piece_128 : decode cX7_piece 128 = .ok (.ireturn, 1) := by decide +kernel
theorem dX7_piece_129 : decode cX7_piece 129 = .ok (.aload_n 3, 1) := by decide +kernel
theorem dX7_piece_130 : decode cX7_piece 130 = .ok (.aload_n 0, 1) := by decide +kernel
theorem dX7_piece_131 : decode cX7_piece 131 = .ok (.getfield 10, 3) := by decide +kernel
theorem dX7_piece_134 : decode cX7_piece 134 = .ok (.getfield 117, 3) := by decide +kernel
theorem dX7_piece_137 : decode cX7_piece 137 = .ok (.getfield 126, 3) := by decide +kernel
theorem dX7_piece_140 : decode cX7_piece 140 = .ok (.iload_n 1, 1) := by decide +kernel
theorem dX7_piece_141 : decode cX7_piece 141 = .ok (.if_icmp .ne 7, 3) := by decide +kernel
theorem dX7_piece_144 : decode cX7_piece 144 = .ok (.iconst 1, 1) := by decide +kernel
theorem dX7_piece_145 : decode cX7_piece 145 = .ok (.goto 4, 3) := by decide +kernel
theorem dX7_piece_148 : decode cX7_piece 148 = .ok (.iconst 0, 1) := by decide +kernel
theorem dX7_piece_149 : decode cX7_piece 149 = .ok (.invokevirtual 129, 3) := by decide +kernel
theorem dX7_piece_152 : decode cX7_piece 152 = .ok (.ireturn, 1) := by decide +kernel
theorem dX7_piece_153 : decode cX7_piece 153 = .ok (.iconst (-1), 1) := by decide +kernel
theorem dX7_piece_154 : decode cX7_piece 154 = .ok (.ireturn, 1) := by decide +kernel
theorem dX7_thing_0 : decode cX7_thing 0 = .ok (.aload_n 0, 1) := by decide +kernel
theorem dX7_thing_1 : decode cX7_thing 1 = .ok (.getfield 10, 3) := by decide +kernel
theorem dX7_thing_4 : decode cX7_thing 4 = .ok (.iload_n 1, 1) := by decide +kernel
theorem dX7_thing_5 : decode cX7_thing 5 = .ok (.invokevirtual 133, 3) := by decide +kernel
theorem dX7_thing_8 : decode cX7_thing 8 = .ok (.astore_n 3, 1) := by decide +kernel
theorem dX7_thing_9 : decode cX7_thing 9 = .ok (.aload_n 3, 1) := by decide +kernel
theorem dX7_thing_10 : decode cX7_thing 10 = .ok (.ifnonnull 5, 3) := by decide +kernel
theorem dX7_thing_13 : decode cX7_thing 13 = .ok (.iconst (-1), 1) := by decide +kernel
theorem dX7_thing_14 : decode cX7_thing 14 = .ok (.ireturn, 1) := by decide +kernel
theorem dX7_thing_15 : decode cX7_thing 15 = .ok (.iload_n 2, 1) := by decide +kernel
theorem dX7_thing_16 : decode cX7_thing 16 = .ok (.tableswitch 70 0 5 #[40, 45, 50, 55, 60, 65], 40) := by decide +kernel
theorem dX7_thing_56 : decode cX7_thing 56 = .ok (.aload_n 3, 1) := by decide +kernel
theorem dX7_thing_57 : decode cX7_thing 57 = .ok (.getfield 137, 3) := by decide +kernel
theorem dX7_thing_60 : decode cX7_thing 60 = .ok (.ireturn, 1) := by decide +kernel
theorem dX7_thing_61 : decode cX7_thing 61 = .ok (.aload_n 3, 1) := by decide +kernel
theorem dX7_thing_62 : decode cX7_thing 62 = .ok (.getfield 140, 3) := by decide +kernel
theorem dX7_thing_65 : decode cX7_thing 65 = .ok (.ireturn, 1) := by decide +kernel
theorem dX7_thing_66 : decode cX7_thing 66 = .ok (.aload_n 3, 1) := by decide +kernel
theorem dX7_thing_67 : decode cX7_thing 67 = .ok (.getfield 143, 3) := by decide +kernel
theorem dX7_thing_70 : decode cX7_thing 70 = .ok (.ireturn, 1) := by decide +kernel
theorem dX7_thing_71 : decode cX7_thing 71 = .ok (.aload_n 3, 1) := by decide +kernel
theorem dX7_thing_72 : decode cX7_thing 72 = .ok (.getfield 146, 3) := by decide +kernel
theorem dX7_thing_75 : decode cX7_thing 75 = .ok (.ireturn, 1) := by decide +kernel
theorem dX7_thing_76 : decode cX7_thing 76 = .ok (.aload_n 3, 1) := by decide +kernel
theorem dX7_thing_77 : decode cX7_thing 77 = .ok (.getfield 149, 3) := by decide +kernel
theorem dX7_thing_80 : decode cX7_thing 80 = .ok (.ireturn, 1) := by decide +kernel
theorem dX7_thing_81 : decode cX7_thing 81 = .ok (.aload_n 3, 1) := by decide +kernel
theorem dX7_thing_82 : decode cX7_thing 82 = .ok (.invokevirtual 152, 3) := by decide +kernel
theorem dX7_thing_85 : decode cX7_thing 85 = .ok (.ireturn, 1) := by decide +kernel
theorem dX7_thing_86 : decode cX7_thing 86 = .ok (.iconst (-1), 1) := by decide +kernel
theorem dX7_thing_87 : decode cX7_thing 87 = .ok (.ireturn, 1) := by decide +kernel
theorem dX7_wax_0 : decode cX7_wax 0 = .ok (.aload_n 0, 1) := by decide +kernel
theorem dX7_wax_1 : decode cX7_wax 1 = .ok (.getfield 10, 3) := by decide +kernel
theorem dX7_wax_4 : decode cX7_wax 4 = .ok (.iload_n 1, 1) := by decide +kernel
theorem dX7_wax_5 : decode cX7_wax 5 = .ok (.invokevirtual 155, 3) := by decide +kernel
theorem dX7_wax_8 : decode cX7_wax 8 = .ok (.ifCond .eq 13, 3) := by decide +kernel
theorem dX7_wax_11 : decode cX7_wax 11 = .ok (.iload_n 2, 1) := by decide +kernel
theorem dX7_wax_12 : decode cX7_wax 12 = .ok (.iconst 0, 1) := by decide +kernel
theorem dX7_wax_13 : decode cX7_wax 13 = .ok (.bipush 20, 2) := by decide +kernel
theorem dX7_wax_15 : decode cX7_wax 15 = .ok (.invokestatic 159, 3) := by decide +kernel
theorem dX7_wax_18 : decode cX7_wax 18 = .ok (.ifCond .ne 5, 3) := by decide +kernel
theorem dX7_wax_21 : decode cX7_wax 21 = .ok (.iconst (-1), 1) := by decide +kernel
theorem dX7_wax_22 : decode cX7_wax 22 = .ok (.ireturn, 1) := by decide +kernel
theorem dX7_wax_23 : decode cX7_wax 23 = .ok (.aload_n 0, 1) := by decide +kernel
theorem dX7_wax_24 : decode cX7_wax 24 = .ok (.getfield 10, 3) := by decide +kernel
theorem dX7_wax_27 : decode cX7_wax 27 = .ok (.getfield 117, 3) := by decide +kernel
theorem dX7_wax_30 : decode cX7_wax 30 = .ok (.iload_n 1, 1) := by decide +kernel
theorem dX7_wax_31 : decode cX7_wax 31 = .ok (.invokevirtual 120, 3) := by decide +kernel
theorem dX7_wax_34 : decode cX7_wax 34 = .ok (.istore_n 3, 1) := by decide +kernel
theorem dX7_wax_35 : decode cX7_wax 35 = .ok (.aload_n 0, 1) := by decide +kernel
theorem dX7_wax_36 : decode cX7_wax 36 = .ok (.getfield 10, 3) := by decide +kernel
theorem dX7_wax_39 : decode cX7_wax 39 = .ok (.getfield 117, 3) := by decide +kernel
theorem dX7_wax_42 : decode cX7_wax 42 = .ok (.iload_n 1, 1) := by decide +kernel
theorem dX7_wax_43 : decode cX7_wax 43 = .ok (.iload_n 2, 1) := by decide +kernel
theorem dX7_wax_44 : decode cX7_wax 44 = .ok (.invokevirtual 163, 3) := by decide +kernel
theorem dX7_wax_47 : decode cX7_wax 47 = .ok (.iload_n 3, 1) := by decide +kernel
theorem dX7_wax_48 : decode cX7_wax 48 = .ok (.ireturn, 1) := by decide +kernel
theorem dX7_hand_0 : decode cX7_hand 0 = .ok (.iload_n 1, 1) := by decide +kernel
theorem dX7_hand_1 : decode cX7_hand 1 = .ok (.iconst (-1), 1) := by decide +kernel
theorem dX7_hand_2 : decode cX7_hand 2 = .ok (.if_icmp .eq 17, 3) := by decide +kernel
theorem dX7_hand_5 : decode cX7_hand 5 = .ok (.aload_n 0, 1) := by decide +kernel
theorem dX7_hand_6 : decode cX7_hand 6 = .ok (.getfield 10, 3) := by decide +kernel
theorem dX7_hand_9 : decode cX7_hand 9 = .ok (.iload_n 1, 1) := by decide +kernel
theorem dX7_hand_10 : decode cX7_hand 10 = .ok (.invokevirtual 155, 3) := by decide +kernel
theorem dX7_hand_13 : decode cX7_hand 13 = .ok (.ifCond .ne 6, 3) := by decide +kernel
theorem dX7_hand_16 : decode cX7_hand 16 = .ok (.ldc 167, 2) := by decide +kernel
theorem dX7_hand_18 : decode cX7_hand 18 = .ok (.ireturn, 1) := by decide +kernel
theorem dX7_hand_19 : decode cX7_hand 19 = .ok (.aload_n 0, 1) := by decide +kernel
theorem dX7_hand_20 : decode cX7_hand 20 = .ok (.getfield 10, 3) := by decide +kernel
theorem dX7_hand_23 : decode cX7_hand 23 = .ok (.getfield 117, 3) := by decide +kernel
theorem dX7_hand_26 : decode cX7_hand 26 = .ok (.getfield 126, 3) := by decide +kernel
theorem dX7_hand_29 : decode cX7_hand 29 = .ok (.istore_n 2, 1) := by decide +kernel
theorem dX7_hand_30 : decode cX7_hand 30 = .ok (.aload_n 0, 1) := by decide +kernel
theorem dX7_hand_31 : decode cX7_hand 31 = .ok (.getfield 10, 3) := by decide +kernel
theorem dX7_hand_34 : decode cX7_hand 34 = .ok (.getfield 117, 3) := by decide +kernel
theorem dX7_hand_37 : decode cX7_hand 37 = .ok (.iload_n 1, 1) := by decide +kernel
theorem dX7_hand_38 : decode cX7_hand 38 = .ok (.putfield 126, 3) := by decide +kernel
theorem dX7_hand_41 : decode cX7_hand 41 = .ok (.iload_n 2, 1) := by decide +kernel
theorem dX7_hand_42 : decode cX7_hand 42 = .ok (.iconst (-1), 1) := by decide +kernel
theorem dX7_hand_43 : decode cX7_hand 43 = .ok (.if_icmp .ne 8, 3) := by decide +kernel
theorem dX7_hand_46 : decode cX7_hand 46 = .ok (.bipush (-4), 2) := by decide +kernel
theorem dX7_hand_48 : decode cX7_hand 48 = .ok (.goto 4, 3) := by decide +kernel
theorem dX7_hand_51 : decode cX7_hand 51 = .ok (.iload_n 2, 1) := by decide +kernel
theorem dX7_hand_52 : decode cX7_hand 52 = .ok (.ireturn, 1) := by decide +kernel
theorem dX7_set_0 : decode cX7_set 0 = .ok (.aload_n 0, 1) := by decide +kernel
theorem dX7_set_1 : decode cX7_set 1 = .ok (.getfield 10, 3) := by decide +kernel
theorem dX7_set_4 : decode cX7_set 4 = .ok (.getfield 117, 3) := by decide +kernel
theorem dX7_set_7 : decode cX7_set 7 = .ok (.iload_n 1, 1) := by decide +kernel
theorem dX7_set_8 : decode cX7_set 8 = .ok (.invokevirtual 168, 3) := by decide +kernel
theorem dX7_set_11 : decode cX7_set 11 = .ok (.istore_n 3, 1) := by decide +kernel
theorem dX7_set_12 : decode cX7_set 12 = .ok (.aload_n 0, 1) := by decide +kernel
theorem dX7_set_13 : decode cX7_set 13 = .ok (.getfield 10, 3) := by decide +kernel
theorem dX7_set_16 : decode cX7_set 16 = .ok (.getfield 117, 3) := by decide +kernel
theorem dX7_set_19 : decode cX7_set 19 = .ok (.iload_n 1, 1) := by decide +kernel
theorem dX7_set_20 : decode cX7_set 20 = .ok (.iload_n 2, 1) := by decide +kernel
theorem dX7_set_21 : decode cX7_set 21 = .ok (.invokevirtual 171, 3) := by decide +kernel
theorem dX7_set_24 : decode cX7_set 24 = .ok (.ifCond .eq 7, 3) := by decide +kernel
theorem dX7_set_27 : decode cX7_set 27 = .ok (.iload_n 3, 1) := by decide +kernel
theorem dX7_set_28 : decode cX7_set 28 = .ok (.goto 5, 3) := by decide +kernel
theorem dX7_set_31 : decode cX7_set 31 = .ok (.ldc 167, 2) := by decide +kernel
theorem dX7_set_33 : decode cX7_set 33 = .ok (.ireturn, 1) := by decide +kernel
theorem dX7_swing_0 : decode cX7_swing 0 = .ok (.aload_n 0, 1) := by decide +kernel
theorem dX7_swing_1 : decode cX7_swing 1 = .ok (.getfield 10, 3) := by decide +kernel
theorem dX7_swing_4 : decode cX7_swing 4 = .ok (.iload_n 1, 1) := by decide +kernel
theorem dX7_swing_5 : decode cX7_swing 5 = .ok (.invokevirtual 155, 3) := by decide +kernel
theorem dX7_swing_8 : decode cX7_swing 8 = .ok (.ifCond .eq 11, 3) := by decide +kernel
theorem dX7_swing_11 : decode cX7_swing 11 = .ok (.iload_n 2, 1) := by decide +kernel
theorem dX7_swing_12 : decode cX7_swing 12 = .ok (.iload_n 3, 1) := by decide +kernel
theorem dX7_swing_13 : decode cX7_swing 13 = .ok (.invokestatic 175, 3) := by decide +kernel
theorem dX7_swing_16 : decode cX7_swing 16 = .ok (.ifCond .ne 5, 3) := by decide +kernel
theorem dX7_swing_19 : decode cX7_swing 19 = .ok (.iconst (-1), 1) := by decide +kernel
theorem dX7_swing_20 : decode cX7_swing 20 = .ok (.ireturn, 1) := by decide +kernel
theorem dX7_swing_21 : decode cX7_swing 21 = .ok (.aload_n 0, 1) := by decide +kernel
theorem dX7_swing_22 : decode cX7_swing 22 = .ok (.getfield 10, 3) := by decide +kernel
theorem dX7_swing_25 : decode cX7_swing 25 = .ok (.iload_n 1, 1) := by decide +kernel
theorem dX7_swing_26 : decode cX7_swing 26 = .ok (.aload_n 0, 1) := by decide +kernel
theorem dX7_swing_27 : decode cX7_swing 27 = .ok (.getfield 10, 3) := by decide +kernel
theorem dX7_swing_30 : decode cX7_swing 30 = .ok (.getfield 117, 3) := by decide +kernel
theorem dX7_swing_33 : decode cX7_swing 33 = .ok (.iload_n 2, 1) := by decide +kernel
theorem dX7_swing_34 : decode cX7_swing 34 = .ok (.iload_n 3, 1) := by decide +kernel
theorem dX7_swing_35 : decode cX7_swing 35 = .ok (.invokevirtual 178, 3) := by decide +kernel
theorem dX7_swing_38 : decode cX7_swing 38 = .ok (.ireturn, 1) := by decide +kernel
theorem dX7_buzzes_0 : decode cX7_buzzes 0 = .ok (.aload_n 0, 1) := by decide +kernel
theorem dX7_buzzes_1 : decode cX7_buzzes 1 = .ok (.getfield 10, 3) := by decide +kernel
theorem dX7_buzzes_4 : decode cX7_buzzes 4 = .ok (.iload_n 1, 1) := by decide +kernel
theorem dX7_buzzes_5 : decode cX7_buzzes 5 = .ok (.invokevirtual 133, 3) := by decide +kernel
theorem dX7_buzzes_8 : decode cX7_buzzes 8 = .ok (.astore 5, 2) := by decide +kernel
theorem dX7_buzzes_10 : decode cX7_buzzes 10 = .ok (.aload 5, 2) := by decide +kernel
theorem dX7_buzzes_12 : decode cX7_buzzes 12 = .ok (.ifnull 11, 3) := by decide +kernel
theorem dX7_buzzes_15 : decode cX7_buzzes 15 = .ok (.iload_n 2, 1) := by decide +kernel
theorem dX7_buzzes_16 : decode cX7_buzzes 16 = .ok (.iload_n 3, 1) := by decide +kernel
theorem dX7_buzzes_17 : decode cX7_buzzes 17 = .ok (.invokestatic 175, 3) := by decide +kernel
theorem dX7_buzzes_20 : decode cX7_buzzes 20 = .ok (.ifCond .ne 5, 3) := by decide +kernel
theorem dX7_buzzes_23 : decode cX7_buzzes 23 = .ok (.iconst (-1), 1) := by decide +kernel
theorem dX7_buzzes_24 : decode cX7_buzzes 24 = .ok (.ireturn, 1) := by decide +kernel
theorem dX7_buzzes_25 : decode cX7_buzzes 25 = .ok (.iload 4, 2) := by decide +kernel
theorem dX7_buzzes_27 : decode cX7_buzzes 27 = .ok (.tableswitch 93 0 2 #[25, 44, 66], 25) := by decide +kernel
theorem dX7_buzzes_52 : decode cX7_buzzes 52 = .ok (.aload_n 0, 1) := by decide +kernel
theorem dX7_buzzes_53 : decode cX7_buzzes 53 = .ok (.getfield 10, 3) := by decide +kernel
theorem dX7_buzzes_56 : decode cX7_buzzes 56 = .ok (.aload 5, 2) := by decide +kernel
theorem dX7_buzzes_58 : decode cX7_buzzes 58 = .ok (.aload_n 0, 1) := by decide +kernel
theorem dX7_buzzes_59 : decode cX7_buzzes 59 = .ok (.getfield 10, 3) := by decide +kernel
theorem dX7_buzzes_62 : decode cX7_buzzes 62 = .ok (.getfield 117, 3) := by decide +kernel
theorem dX7_buzzes_65 : decode cX7_buzzes 65 = .ok (.iload_n 2, 1) := by decide +kernel
theorem dX7_buzzes_66 : decode cX7_buzzes 66 = .ok (.iload_n 3, 1) := by decide +kernel
theorem dX7_buzzes_67 : decode cX7_buzzes 67 = .ok (.invokevirtual 182, 3) := by decide +kernel
theorem dX7_buzzes_70 : decode cX7_buzzes 70 = .ok (.ireturn, 1) := by decide +kernel
theorem dX7_buzzes_71 : decode cX7_buzzes 71 = .ok (.aload_n 0, 1) := by decide +kernel
theorem dX7_buzzes_72 : decode cX7_buzzes 72 = .ok (.getfield 10, 3) := by decide +kernel
theorem dX7_buzzes_75 : decode cX7_buzzes 75 = .ok (.aload 5, 2) := by decide +kernel
theorem dX7_buzzes_77 : decode cX7_buzzes 77 = .ok (.aload 5, 2) := by decide +kernel
theorem dX7_buzzes_79 : decode cX7_buzzes 79 = .ok (.getfield 143, 3) := by decide +kernel
theorem dX7_buzzes_82 : decode cX7_buzzes 82 = .ok (.aload_n 0, 1) := by decide +kernel
theorem dX7_buzzes_83 : decode cX7_buzzes 83 = .ok (.getfield 10, 3) := by decide +kernel
theorem dX7_buzzes_86 : decode cX7_buzzes 86 = .ok (.getfield 117, 3) := by decide +kernel
theorem dX7_buzzes_89 : decode cX7_buzzes 89 = .ok (.invokevirtual 186, 3) := by decide +kernel
theorem dX7_buzzes_92 : decode cX7_buzzes 92 = .ok (.ireturn, 1) := by decide +kernel
theorem dX7_buzzes_93 : decode cX7_buzzes 93 = .ok (.aload_n 0, 1) := by decide +kernel
theorem dX7_buzzes_94 : decode cX7_buzzes 94 = .ok (.getfield 10, 3) := by decide +kernel
theorem dX7_buzzes_97 : decode cX7_buzzes 97 = .ok (.aload 5, 2) := by decide +kernel
theorem dX7_buzzes_99 : decode cX7_buzzes 99 = .ok (.aload_n 0, 1) := by decide +kernel
theorem dX7_buzzes_100 : decode cX7_buzzes 100 = .ok (.getfield 10, 3) := by decide +kernel
theorem dX7_buzzes_103 : decode cX7_buzzes 103 = .ok (.getfield 117, 3) := by decide +kernel
theorem dX7_buzzes_106 : decode cX7_buzzes 106 = .ok (.iload_n 2, 1) := by decide +kernel
theorem dX7_buzzes_107 : decode cX7_buzzes 107 = .ok (.iload_n 3, 1) := by decide +kernel
theorem dX7_buzzes_108 : decode cX7_buzzes 108 = .ok (.invokevirtual 190, 3) := by decide +kernel
theorem dX7_buzzes_111 : decode cX7_buzzes 111 = .ok (.ifCond .eq 7, 3) := by decide +kernel
theorem dX7_buzzes_114 : decode cX7_buzzes 114 = .ok (.iconst 1, 1) := by decide +kernel
theorem dX7_buzzes_115 : decode cX7_buzzes 115 = .ok (.goto 4, 3) := by decide +kernel
theorem dX7_buzzes_118 : decode cX7_buzzes 118 = .ok (.iconst 0, 1) := by decide +kernel
theorem dX7_buzzes_119 : decode cX7_buzzes 119 = .ok (.ireturn, 1) := by decide +kernel
theorem dX7_buzzes_120 : decode cX7_buzzes 120 = .ok (.iconst (-1), 1) := by decide +kernel
theorem dX7_buzzes_121 : decode cX7_buzzes 121 = .ok (.ireturn, 1) := by decide +kernel
theorem dX7_heard_0 : decode cX7_heard 0 = .ok (.iload_n 1, 1) := by decide +kernel
theorem dX7_heard_1 : decode cX7_heard 1 = .ok (.iload_n 2, 1) := by decide +kernel
theorem dX7_heard_2 : decode cX7_heard 2 = .ok (.invokestatic 175, 3) := by decide +kernel
theorem dX7_heard_5 : decode cX7_heard 5 = .ok (.ifCond .ne 5, 3) := by decide +kernel
theorem dX7_heard_8 : decode cX7_heard 8 = .ok (.iconst (-1), 1) := by decide +kernel
theorem dX7_heard_9 : decode cX7_heard 9 = .ok (.ireturn, 1) := by decide +kernel
theorem dX7_heard_10 : decode cX7_heard 10 = .ok (.aload_n 0, 1) := by decide +kernel
theorem dX7_heard_11 : decode cX7_heard 11 = .ok (.getfield 10, 3) := by decide +kernel
theorem dX7_heard_14 : decode cX7_heard 14 = .ok (.iload_n 1, 1) := by decide +kernel
theorem dX7_heard_15 : decode cX7_heard 15 = .ok (.iload_n 2, 1) := by decide +kernel
theorem dX7_heard_16 : decode cX7_heard 16 = .ok (.invokevirtual 194, 3) := by decide +kernel
theorem dX7_heard_19 : decode cX7_heard 19 = .ok (.ireturn, 1) := by decide +kernel
theorem dX7_bands_0 : decode cX7_bands 0 = .ok (.aload_n 0, 1) := by decide +kernel
theorem dX7_bands_1 : decode cX7_bands 1 = .ok (.getfield 10, 3) := by decide +kernel
theorem dX7_bands_4 : decode cX7_bands 4 = .ok (.iload_n 1, 1) := by decide +kernel
theorem dX7_bands_5 : decode cX7_bands 5 = .ok (.invokevirtual 133, 3) := by decide +kernel
theorem dX7_bands_8 : decode cX7_bands 8 = .ok (.astore 5, 2) := by decide +kernel
theorem dX7_bands_10 : decode cX7_bands 10 = .ok (.aload 5, 2) := by decide +kernel
theorem dX7_bands_12 : decode cX7_bands 12 = .ok (.ifnull 25, 3) := by decide +kernel
theorem dX7_bands_15 : decode cX7_bands 15 = .ok (.iload_n 2, 1) := by decide +kernel
theorem dX7_bands_16 : decode cX7_bands 16 = .ok (.invokestatic 197, 3) := by decide +kernel
theorem dX7_bands_19 : decode cX7_bands 19 = .ok (.ifCond .eq 18, 3) := by decide +kernel
theorem dX7_bands_22 : decode cX7_bands 22 = .ok (.iload_n 3, 1) := by decide +kernel
theorem dX7_bands_23 : decode cX7_bands 23 = .ok (.iconst (-1), 1) := by decide +kernel
theorem dX7_bands_24 : decode cX7_bands 24 = .ok (.if_icmp .lt 13, 3) := by decide +kernel
theorem dX7_bands_27 : decode cX7_bands 27 = .ok (.iload 4, 2) := by decide +kernel
theorem dX7_bands_29 : decode cX7_bands 29 = .ok (.iconst 0, 1) := by decide +kernel
theorem dX7_bands_30 : decode cX7_bands 30 = .ok (.iconst 1, 1) := by decide +kernel
theorem dX7_bands_31 : decode cX7_bands 31 = .ok (.invokestatic 159, 3) := by decide +kernel
theorem dX7_bands_34 : decode cX7_bands 34 = .ok (.ifCond .ne 5, 3) := by decide +kernel
theorem dX7_bands_37 : decode cX7_bands 37 = .ok (.iconst (-1), 1) := by decide +kernel
theorem dX7_bands_38 : decode cX7_bands 38 = .ok (.ireturn, 1) := by decide +kernel
theorem dX7_bands_39 : decode cX7_bands 39 = .ok (.iconst 0, 1) := by decide +kernel
theorem dX7_bands_40 : decode cX7_bands 40 = .ok (.istore 6, 2) := by decide +kernel
theorem dX7_bands_42 : decode cX7_bands 42 = .ok (.iconst 0, 1) := by decide +kernel
theorem dX7_bands_43 : decode cX7_bands 43 = .ok (.istore 7, 2) := by decide +kernel
theorem dX7_bands_45 : decode cX7_bands 45 = .ok (.iconst 1, 1) := by decide +kernel
theorem dX7_bands_46 : decode cX7_bands 46 = .ok (.istore 8, 2) := by decide +kernel
theorem dX7_bands_48 : decode cX7_bands 48 = .ok (.iload 8, 2) := by decide +kernel
theorem dX7_bands_50 : decode cX7_bands 50 = .ok (.sipush 601, 3) := by decide +kernel
theorem dX7_bands_53 : decode cX7_bands 53 = .ok (.if_icmp .gt 97, 3) := by decide +kernel
theorem dX7_bands_56 : decode cX7_bands 56 = .ok (.iload 8, 2) := by decide +kernel
theorem dX7_bands_58 : decode cX7_bands 58 = .ok (.sipush 600, 3) := by decide +kernel
theorem dX7_bands_61 : decode cX7_bands 61 = .ok (.if_icmp .gt 29, 3) := by decide +kernel
theorem dX7_bands_64 : decode cX7_bands 64 = .ok (.aload_n 0, 1) := by decide +kernel
theorem dX7_bands_65 : decode cX7_bands 65 = .ok (.getfield 10, 3) := by decide +kernel
theorem dX7_bands_68 : decode cX7_bands 68 = .ok (.aload 5, 2) := by decide +kernel
theorem dX7_bands_70 : decode cX7_bands 70 = .ok (.aload_n 0, 1) := by decide +kernel
theorem dX7_bands_71 : decode cX7_bands 71 = .ok (.getfield 10, 3) := by decide +kernel
theorem dX7_bands_74 : decode cX7_bands 74 = .ok (.getfield 117, 3) := by decide +kernel
theorem dX7_bands_77 : decode cX7_bands 77 = .ok (.iload 8, 2) := by decide +kernel
theorem dX7_bands_79 : decode cX7_bands 79 = .ok (.iload_n 2, 1) := by decide +kernel
theorem dX7_bands_80 : decode cX7_bands 80 = .ok (.invokevirtual 190, 3) := by decide +kernel
theorem dX7_bands_83 : decode cX7_bands 83 = .ok (.ifCond .eq 7, 3) := by decide +kernel
theorem dX7_bands_86 : decode cX7_bands 86 = .ok (.iconst 1, 1) := by decide +kernel
theorem dX7_bands_87 : decode cX7_bands 87 = .ok (.goto 4, 3) := by decide +kernel
theorem dX7_bands_90 : decode cX7_bands 90 = .ok (.iconst 0, 1) := by decide +kernel
theorem dX7_bands_91 : decode cX7_bands 91 = .ok (.istore 9, 2) := by decide +kernel
theorem dX7_bands_93 : decode cX7_bands 93 = .ok (.iload 9, 2) := by decide +kernel
theorem dX7_bands_95 : decode cX7_bands 95 = .ok (.ifCond .eq 12, 3) := by decide +kernel
theorem dX7_bands_98 : decode cX7_bands 98 = .ok (.iload 7, 2) := by decide +kernel
theorem dX7_bands_100 : decode cX7_bands 100 = .ok (.ifCond .ne 7, 3) := by decide +kernel
theorem dX7_bands_103 : decode cX7_bands 103 = .ok (.iload 8, 2) := by decide +kernel
theorem dX7_bands_105 : decode cX7_bands 105 = .ok (.istore 7, 2) := by decide +kernel
theorem dX7_bands_107 : decode cX7_bands 107 = .ok (.iload 9, 2) := by decide +kernel
theorem dX7_bands_109 : decode cX7_bands 109 = .ok (.ifCond .ne 35, 3) := by decide +kernel
theorem dX7_bands_112 : decode cX7_bands 112 = .ok (.iload 7, 2) := by decide +kernel
theorem dX7_bands_114 : decode cX7_bands 114 = .ok (.ifCond .le 30, 3) := by decide +kernel
theorem dX7_bands_117 : decode cX7_bands 117 = .ok (.iload 6, 2) := by decide +kernel
theorem dX7_bands_119 : decode cX7_bands 119 = .ok (.iload_n 3, 1) := by decide +kernel
theorem dX7_bands_120 : decode cX7_bands 120 = .ok (.if_icmp .ne 18, 3) := by decide +kernel
theorem dX7_bands_123 : decode cX7_bands 123 = .ok (.iload 4, 2) := by decide +kernel
theorem dX7_bands_125 : decode cX7_bands 125 = .ok (.ifCond .ne 8, 3) := by decide +kernel
theorem dX7_bands_128 : decode cX7_bands 128 = .ok (.iload 7, 2) := by decide +kernel
theorem dX7_bands_130 : decode cX7_bands 130 = .ok (.goto 7, 3) := by decide +kernel
theorem dX7_bands_133 : decode cX7_bands 133 = .ok (.iload 8, 2) := by decide +kernel
theorem dX7_bands_135 : decode cX7_bands 135 = .ok (.iconst 1, 1) := by decide +kernel
theorem dX7_bands_136 : decode cX7_bands 136 = .ok (.isub, 1) := by decide +kernel
theorem dX7_bands_137 : decode cX7_bands 137 = .ok (.ireturn, 1) := by decide +kernel
theorem dX7_bands_138 : decode cX7_bands 138 = .ok (.iinc 6 1, 3) := by decide +kernel
theorem dX7_bands_141 : decode cX7_bands 141 = .ok (.iconst 0, 1) := by decide +kernel
theorem dX7_bands_142 : decode cX7_bands 142 = .ok (.istore 7, 2) := by decide +kernel
theorem dX7_bands_144 : decode cX7_bands 144 = .ok (.iinc 8 1, 3) := by decide +kernel
theorem dX7_bands_147 : decode cX7_bands 147 = .ok (.goto (-99), 3) := by decide +kernel
theorem dX7_bands_150 : decode cX7_bands 150 = .ok (.iload_n 3, 1) := by decide +kernel
theorem dX7_bands_151 : decode cX7_bands 151 = .ok (.iconst (-1), 1) := by decide +kernel
theorem dX7_bands_152 : decode cX7_bands 152 = .ok (.if_icmp .ne 8, 3) := by decide +kernel
theorem dX7_bands_155 : decode cX7_bands 155 = .ok (.iload 6, 2) := by decide +kernel
theorem dX7_bands_157 : decode cX7_bands 157 = .ok (.goto 5, 3) := by decide +kernel
theorem dX7_bands_160 : decode cX7_bands 160 = .ok (.bipush (-4), 2) := by decide +kernel
theorem dX7_bands_162 : decode cX7_bands 162 = .ok (.ireturn, 1) := by decide +kernel
theorem dX7_loudest_0 : decode cX7_loudest 0 = .ok (.aload_n 0, 1) := by decide +kernel
theorem dX7_loudest_1 : decode cX7_loudest 1 = .ok (.getfield 10, 3) := by decide +kernel
theorem dX7_loudest_4 : decode cX7_loudest 4 = .ok (.iload_n 1, 1) := by decide +kernel
theorem dX7_loudest_5 : decode cX7_loudest 5 = .ok (.invokevirtual 155, 3) := by decide +kernel
theorem dX7_loudest_8 : decode cX7_loudest 8 = .ok (.ifCond .eq 10, 3) := by decide +kernel
theorem dX7_loudest_11 : decode cX7_loudest 11 = .ok (.iload_n 2, 1) := by decide +kernel
theorem dX7_loudest_12 : decode cX7_loudest 12 = .ok (.invokestatic 197, 3) := by decide +kernel
theorem dX7_loudest_15 : decode cX7_loudest 15 = .ok (.ifCond .ne 5, 3) := by decide +kernel
theorem dX7_loudest_18 : decode cX7_loudest 18 = .ok (.iconst (-1), 1) := by decide +kernel
theorem dX7_loudest_19 : decode cX7_loudest 19 = .ok (.ireturn, 1) := by decide +kernel
theorem dX7_loudest_20 : decode cX7_loudest 20 = .ok (.iconst 0, 1) := by decide +kernel
theorem dX7_loudest_21 : decode cX7_loudest 21 = .ok (.istore_n 3, 1) := by decide +kernel
theorem dX7_loudest_22 : decode cX7_loudest 22 = .ok (.iconst (-1), 1) := by decide +kernel
theorem dX7_loudest_23 : decode cX7_loudest 23 = .ok (.istore 4, 2) := by decide +kernel
theorem dX7_loudest_25 : decode cX7_loudest 25 = .ok (.iconst 1, 1) := by decide +kernel
theorem dX7_loudest_26 : decode cX7_loudest 26 = .ok (.istore 5, 2) := by decide +kernel
theorem dX7_loudest_28 : decode cX7_loudest 28 = .ok (.iload 5, 2) := by decide +kernel
theorem dX7_loudest_30 : decode cX7_loudest 30 = .ok (.sipush 600, 3) := by decide +kernel
theorem dX7_loudest_33 : decode cX7_loudest 33 = .ok (.if_icmp .gt 43, 3) := by decide +kernel
theorem dX7_loudest_36 : decode cX7_loudest 36 = .ok (.aload_n 0, 1) := by decide +kernel
theorem dX7_loudest_37 : decode cX7_loudest 37 = .ok (.getfield 10, 3) := by decide +kernel
theorem dX7_loudest_40 : decode cX7_loudest 40 = .ok (.iload_n 1, 1) := by decide +kernel
theorem dX7_loudest_41 : decode cX7_loudest 41 = .ok (.aload_n 0, 1) := by decide +kernel
theorem dX7_loudest_42 : decode cX7_loudest 42 = .ok (.getfield 10, 3) := by decide +kernel
theorem dX7_loudest_45 : decode cX7_loudest 45 = .ok (.getfield 117, 3) := by decide +kernel
theorem dX7_loudest_48 : decode cX7_loudest 48 = .ok (.iload 5, 2) := by decide +kernel
theorem dX7_loudest_50 : decode cX7_loudest 50 = .ok (.iload_n 2, 1) := by decide +kernel
theorem dX7_loudest_51 : decode cX7_loudest 51 = .ok (.invokevirtual 178, 3) := by decide +kernel
theorem dX7_loudest_54 : decode cX7_loudest 54 = .ok (.istore 6, 2) := by decide +kernel
theorem dX7_loudest_56 : decode cX7_loudest 56 = .ok (.iload 6, 2) := by decide +kernel
theorem dX7_loudest_58 : decode cX7_loudest 58 = .ok (.iload 4, 2) := by decide +kernel
theorem dX7_loudest_60 : decode cX7_loudest 60 = .ok (.if_icmp .le 10, 3) := by decide +kernel
theorem dX7_loudest_63 : decode cX7_loudest 63 = .ok (.iload 6, 2) := by decide +kernel
theorem dX7_loudest_65 : decode cX7_loudest 65 = .ok (.istore 4, 2) := by decide +kernel
theorem dX7_loudest_67 : decode cX7_loudest 67 = .ok (.iload 5, 2) := by decide +kernel
theorem dX7_loudest_69 : decode cX7_loudest 69 = .ok (.istore_n 3, 1) := by decide +kernel
theorem dX7_loudest_70 : decode cX7_loudest 70 = .ok (.iinc 5 1, 3) := by decide +kernel
theorem dX7_loudest_73 : decode cX7_loudest 73 = .ok (.goto (-45), 3) := by decide +kernel
theorem dX7_loudest_76 : decode cX7_loudest 76 = .ok (.iload_n 3, 1) := by decide +kernel
theorem dX7_loudest_77 : decode cX7_loudest 77 = .ok (.ireturn, 1) := by decide +kernel
theorem dX7_softest_0 : decode cX7_softest 0 = .ok (.aload_n 0, 1) := by decide +kernel
theorem dX7_softest_1 : decode cX7_softest 1 = .ok (.getfield 10, 3) := by decide +kernel
theorem dX7_softest_4 : decode cX7_softest 4 = .ok (.iload_n 1, 1) := by decide +kernel
theorem dX7_softest_5 : decode cX7_softest 5 = .ok (.invokevirtual 133, 3) := by decide +kernel
theorem dX7_softest_8 : decode cX7_softest 8 = .ok (.astore_n 3, 1) := by decide +kernel
theorem dX7_softest_9 : decode cX7_softest 9 = .ok (.aload_n 3, 1) := by decide +kernel
theorem dX7_softest_10 : decode cX7_softest 10 = .ok (.ifnull 10, 3) := by decide +kernel
theorem dX7_softest_13 : decode cX7_softest 13 = .ok (.iload_n 2, 1) := by decide +kernel
theorem dX7_softest_14 : decode cX7_softest 14 = .ok (.invokestatic 200, 3) := by decide +kernel
theorem dX7_softest_17 : decode cX7_softest 17 = .ok (.ifCond .ne 5, 3) := by decide +kernel
theorem dX7_softest_20 : decode cX7_softest 20 = .ok (.iconst (-1), 1) := by decide +kernel
theorem dX7_softest_21 : decode cX7_softest 21 = .ok (.ireturn, 1) := by decide +kernel
theorem dX7_softest_22 : decode cX7_softest 22 = .ok (.iconst 1, 1) := by decide +kernel
theorem dX7_softest_23 : decode cX7_softest 23 = .ok (.istore 4, 2) := by decide +kernel
theorem dX7_softest_25 : decode cX7_softest 25 = .ok (.iload 4, 2) := by decide +kernel
theorem dX7_softest_27 : decode cX7_softest 27 = .ok (.bipush 99, 2) := by decide +kernel
theorem dX7_softest_29 : decode cX7_softest 29 = .ok (.if_icmp .gt 33, 3) := by decide +kernel
theorem dX7_softest_32 : decode cX7_softest 32 = .ok (.aload_n 0, 1) := by decide +kernel
theorem dX7_softest_33 : decode cX7_softest 33 = .ok (.getfield 10, 3) := by decide +kernel
theorem dX7_softest_36 : decode cX7_softest 36 = .ok (.aload_n 3, 1) := by decide +kernel
theorem dX7_softest_37 : decode cX7_softest 37 = .ok (.aload_n 0, 1) := by decide +kernel
theorem dX7_softest_38 : decode cX7_softest 38 = .ok (.getfield 10, 3) := by decide +kernel
theorem dX7_softest_41 : decode cX7_softest 41 = .ok (.getfield 117, 3) := by decide +kernel
theorem dX7_softest_44 : decode cX7_softest 44 = .ok (.iload_n 2, 1) := by decide +kernel
theorem dX7_softest_45 : decode cX7_softest 45 = .ok (.iload 4, 2) := by decide +kernel
theorem dX7_softest_47 : decode cX7_softest 47 = .ok (.invokevirtual 190, 3) := by decide +kernel
theorem dX7_softest_50 : decode cX7_softest 50 = .ok (.ifCond .eq 6, 3) := by decide +kernel
theorem dX7_softest_53 : decode cX7_softest 53 = .ok (.iload 4, 2) := by decide +kernel
theorem dX7_softest_55 : decode cX7_softest 55 = .ok (.ireturn, 1) := by decide +kernel
theorem dX7_softest_56 : decode cX7_softest 56 = .ok (.iinc 4 1, 3) := by decide +kernel
theorem dX7_softest_59 : decode cX7_softest 59 = .ok (.goto (-34), 3) := by decide +kernel
theorem dX7_softest_62 : decode cX7_softest 62 = .ok (.bipush (-4), 2) := by decide +kernel
theorem dX7_softest_64 : decode cX7_softest 64 = .ok (.ireturn, 1) := by decide +kernel
theorem dX7_ask_0 : decode cX7_ask 0 = .ok (.iload_n 1, 1) := by decide +kernel
theorem dX7_ask_1 : decode cX7_ask 1 = .ok (.iload_n 2, 1) := by decide +kernel
theorem dX7_ask_2 : decode cX7_ask 2 = .ok (.invokestatic 175, 3) := by decide +kernel
theorem dX7_ask_5 : decode cX7_ask 5 = .ok (.ifCond .ne 5, 3) := by decide +kernel
theorem dX7_ask_8 : decode cX7_ask 8 = .ok (.iconst (-1), 1) := by decide +kernel
theorem dX7_ask_9 : decode cX7_ask 9 = .ok (.ireturn, 1) := by decide +kernel
theorem dX7_ask_10 : decode cX7_ask 10 = .ok (.aload_n 0, 1) := by decide +kernel
theorem dX7_ask_11 : decode cX7_ask 11 = .ok (.getfield 10, 3) := by decide +kernel
theorem dX7_ask_14 : decode cX7_ask 14 = .ok (.getfield 203, 3) := by decide +kernel
theorem dX7_ask_17 : decode cX7_ask 17 = .ok (.bipush 24, 2) := by decide +kernel
theorem dX7_ask_19 : decode cX7_ask 19 = .ok (.if_icmp .lt 6, 3) := by decide +kernel
theorem dX7_ask_22 : decode cX7_ask 22 = .ok (.bipush (-2), 2) := by decide +kernel
theorem dX7_ask_24 : decode cX7_ask 24 = .ok (.ireturn, 1) := by decide +kernel
theorem dX7_ask_25 : decode cX7_ask 25 = .ok (.aload_n 0, 1) := by decide +kernel
theorem dX7_ask_26 : decode cX7_ask 26 = .ok (.getfield 10, 3) := by decide +kernel
theorem dX7_ask_29 : decode cX7_ask 29 = .ok (.getfield 206, 3) := by decide +kernel
theorem dX7_ask_32 : decode cX7_ask 32 = .ok (.ifCond .ne 6, 3) := by decide +kernel
theorem dX7_ask_35 : decode cX7_ask 35 = .ok (.bipush (-3), 2) := by decide +kernel
theorem dX7_ask_37 : decode cX7_ask 37 = .ok (.ireturn, 1) := by decide +kernel
theorem dX7_ask_38 : decode cX7_ask 38 = .ok (.aload_n 0, 1) := by decide +kernel
theorem dX7_ask_39 : decode cX7_ask 39 = .ok (.getfield 10, 3) := by decide +kernel
theorem dX7_ask_42 : decode cX7_ask 42 = .ok (.iload_n 1, 1) := by decide +kernel
theorem dX7_ask_43 : decode cX7_ask 43 = .ok (.iload_n 2, 1) := by decide +kernel
theorem dX7_ask_44 : decode cX7_ask 44 = .ok (.iload_n 3, 1) := by decide +kernel
theorem dX7_ask_45 : decode cX7_ask 45 = .ok (.invokevirtual 209, 3) := by decide +kernel
theorem dX7_ask_48 : decode cX7_ask 48 = .ok (.ireturn, 1) := by decide +kernel
theorem dX7_forget_0 : decode cX7_forget 0 = .ok (.aload_n 0, 1) := by decide +kernel
theorem dX7_forget_1 : decode cX7_forget 1 = .ok (.getfield 10, 3) := by decide +kernel
theorem dX7_forget_4 : decode cX7_forget 4 = .ok (.getfield 203, 3) := by decide +kernel
theorem dX7_forget_7 : decode cX7_forget 7 = .ok (.istore_n 1, 1) := by decide +kernel
theorem dX7_forget_8 : decode cX7_forget 8 = .ok (.aload_n 0, 1) := by decide +kernel
theorem dX7_forget_9 : decode cX7_forget 9 = .ok (.getfield 10, 3) := by decide +kernel
theorem dX7_forget_12 : decode cX7_forget 12 = .ok (.iconst 0, 1) := by decide +kernel
theorem dX7_forget_13 : decode cX7_forget 13 = .ok (.putfield 203, 3) := by decide +kernel
theorem dX7_forget_16 : decode cX7_forget 16 = .ok (.iload_n 1, 1) := by decide +kernel
theorem dX7_forget_17 : decode cX7_forget 17 = .ok (.ireturn, 1) := by decide +kernel
theorem dX7_fits_0 : decode cX7_fits 0 = .ok (.aload_n 0, 1) := by decide +kernel
theorem dX7_fits_1 : decode cX7_fits 1 = .ok (.getfield 10, 3) := by decide +kernel
theorem dX7_fits_4 : decode cX7_fits 4 = .ok (.getfield 206, 3) := by decide +kernel
theorem dX7_fits_7 : decode cX7_fits 7 = .ok (.ifCond .ne 8, 3) := by decide +kernel
theorem dX7_fits_10 : decode cX7_fits 10 = .ok (.bipush (-3), 2) := by decide +kernel
theorem dX7_fits_12 : decode cX7_fits 12 = .ok (.goto 10, 3) := by decide +kernel
theorem dX7_fits_15 : decode cX7_fits 15 = .ok (.aload_n 0, 1) := by decide +kernel
theorem dX7_fits_16 : decode cX7_fits 16 = .ok (.getfield 10, 3) := by decide +kernel
theorem dX7_fits_19 : decode cX7_fits 19 = .ok (.invokevirtual 213, 3) := by decide +kernel
theorem dX7_fits_22 : decode cX7_fits 22 = .ok (.ireturn, 1) := by decide +kernel
theorem dX7_both_0 : decode cX7_both 0 = .ok (.aload_n 0, 1) := by decide +kernel
theorem dX7_both_1 : decode cX7_both 1 = .ok (.getfield 10, 3) := by decide +kernel
theorem dX7_both_4 : decode cX7_both 4 = .ok (.iload_n 1, 1) := by decide +kernel
theorem dX7_both_5 : decode cX7_both 5 = .ok (.invokevirtual 216, 3) := by decide +kernel
theorem dX7_both_8 : decode cX7_both 8 = .ok (.ifCond .eq 19, 3) := by decide +kernel
theorem dX7_both_11 : decode cX7_both 11 = .ok (.aload_n 0, 1) := by decide +kernel
theorem dX7_both_12 : decode cX7_both 12 = .ok (.getfield 10, 3) := by decide +kernel
theorem dX7_both_15 : decode cX7_both 15 = .ok (.iload_n 2, 1) := by decide +kernel
theorem dX7_both_16 : decode cX7_both 16 = .ok (.invokevirtual 216, 3) := by decide +kernel
theorem dX7_both_19 : decode cX7_both 19 = .ok (.ifCond .eq 8, 3) := by decide +kernel
theorem dX7_both_22 : decode cX7_both 22 = .ok (.iload_n 1, 1) := by decide +kernel
theorem dX7_both_23 : decode cX7_both 23 = .ok (.iload_n 2, 1) := by decide +kernel
theorem dX7_both_24 : decode cX7_both 24 = .ok (.if_icmp .ne 5, 3) := by decide +kernel
theorem dX7_both_27 : decode cX7_both 27 = .ok (.iconst (-1), 1) := by decide +kernel
theorem dX7_both_28 : decode cX7_both 28 = .ok (.ireturn, 1) := by decide +kernel
theorem dX7_both_29 : decode cX7_both 29 = .ok (.aload_n 0, 1) := by decide +kernel
theorem dX7_both_30 : decode cX7_both 30 = .ok (.getfield 10, 3) := by decide +kernel
theorem dX7_both_33 : decode cX7_both 33 = .ok (.iconst 1, 1) := by decide +kernel
theorem dX7_both_34 : decode cX7_both 34 = .ok (.iload_n 1, 1) := by decide +kernel
theorem dX7_both_35 : decode cX7_both 35 = .ok (.ishl, 1) := by decide +kernel
theorem dX7_both_36 : decode cX7_both 36 = .ok (.iconst 1, 1) := by decide +kernel
theorem dX7_both_37 : decode cX7_both 37 = .ok (.iload_n 2, 1) := by decide +kernel
theorem dX7_both_38 : decode cX7_both 38 = .ok (.ishl, 1) := by decide +kernel
theorem dX7_both_39 : decode cX7_both 39 = .ok (.ior, 1) := by decide +kernel
theorem dX7_both_40 : decode cX7_both 40 = .ok (.invokevirtual 219, 3) := by decide +kernel
theorem dX7_both_43 : decode cX7_both 43 = .ok (.ifCond .eq 7, 3) := by decide +kernel
theorem dX7_both_46 : decode cX7_both 46 = .ok (.iconst 1, 1) := by decide +kernel
theorem dX7_both_47 : decode cX7_both 47 = .ok (.goto 4, 3) := by decide +kernel
theorem dX7_both_50 : decode cX7_both 50 = .ok (.iconst 0, 1) := by decide +kernel
theorem dX7_both_51 : decode cX7_both 51 = .ok (.ireturn, 1) := by decide +kernel
theorem dX7_odds_0 : decode cX7_odds 0 = .ok (.aload_n 0, 1) := by decide +kernel
theorem dX7_odds_1 : decode cX7_odds 1 = .ok (.getfield 10, 3) := by decide +kernel
theorem dX7_odds_4 : decode cX7_odds 4 = .ok (.iload_n 1, 1) := by decide +kernel
theorem dX7_odds_5 : decode cX7_odds 5 = .ok (.invokevirtual 216, 3) := by decide +kernel
theorem dX7_odds_8 : decode cX7_odds 8 = .ok (.ifCond .eq 12, 3) := by decide +kernel
theorem dX7_odds_11 : decode cX7_odds 11 = .ok (.iload_n 3, 1) := by decide +kernel
theorem dX7_odds_12 : decode cX7_odds 12 = .ok (.iconst 0, 1) := by decide +kernel
theorem dX7_odds_13 : decode cX7_odds 13 = .ok (.iconst 1, 1) := by decide +kernel
theorem dX7_odds_14 : decode cX7_odds 14 = .ok (.invokestatic 159, 3) := by decide +kernel
theorem dX7_odds_17 : decode cX7_odds 17 = .ok (.ifCond .ne 5, 3) := by decide +kernel
theorem dX7_odds_20 : decode cX7_odds 20 = .ok (.iconst (-1), 1) := by decide +kernel
theorem dX7_odds_21 : decode cX7_odds 21 = .ok (.ireturn, 1) := by decide +kernel
theorem dX7_odds_22 : decode cX7_odds 22 = .ok (.bipush 127, 2) := by decide +kernel
theorem dX7_odds_24 : decode cX7_odds 24 = .ok (.istore 4, 2) := by decide +kernel
theorem dX7_odds_26 : decode cX7_odds 26 = .ok (.iload_n 2, 1) := by decide +kernel
theorem dX7_odds_27 : decode cX7_odds 27 = .ok (.ifCond .eq 12, 3) := by decide +kernel
theorem dX7_odds_30 : decode cX7_odds 30 = .ok (.aload_n 0, 1) := by decide +kernel
theorem dX7_odds_31 : decode cX7_odds 31 = .ok (.iload 4, 2) := by decide +kernel
theorem dX7_odds_33 : decode cX7_odds 33 = .ok (.invokevirtual 222, 3) := by decide +kernel
theorem dX7_odds_36 : decode cX7_odds 36 = .ok (.goto 17, 3) := by decide +kernel
theorem dX7_odds_39 : decode cX7_odds 39 = .ok (.aload_n 0, 1) := by decide +kernel
theorem dX7_odds_40 : decode cX7_odds 40 = .ok (.getfield 10, 3) := by decide +kernel
theorem dX7_odds_43 : decode cX7_odds 43 = .ok (.aload_n 0, 1) := by decide +kernel
theorem dX7_odds_44 : decode cX7_odds 44 = .ok (.getfield 10, 3) := by decide +kernel
theorem dX7_odds_47 : decode cX7_odds 47 = .ok (.invokevirtual 213, 3) := by decide +kernel
theorem dX7_odds_50 : decode cX7_odds 50 = .ok (.invokevirtual 225, 3) := by decide +kernel
theorem dX7_odds_53 : decode cX7_odds 53 = .ok (.istore 5, 2) := by decide +kernel
theorem dX7_odds_55 : decode cX7_odds 55 = .ok (.iload_n 2, 1) := by decide +kernel
theorem dX7_odds_56 : decode cX7_odds 56 = .ok (.ifCond .eq 13, 3) := by decide +kernel
theorem dX7_odds_59 : decode cX7_odds 59 = .ok (.aload_n 0, 1) := by decide +kernel
theorem dX7_odds_60 : decode cX7_odds 60 = .ok (.iconst 1, 1) := by decide +kernel
theorem dX7_odds_61 : decode cX7_odds 61 = .ok (.iload_n 1, 1) := by decide +kernel
theorem dX7_odds_62 : decode cX7_odds 62 = .ok (.ishl, 1) := by decide +kernel
theorem dX7_odds_63 : decode cX7_odds 63 = .ok (.invokevirtual 222, 3) := by decide +kernel
theorem dX7_odds_66 : decode cX7_odds 66 = .ok (.goto 21, 3) := by decide +kernel
theorem dX7_odds_69 : decode cX7_odds 69 = .ok (.aload_n 0, 1) := by decide +kernel
theorem dX7_odds_70 : decode cX7_odds 70 = .ok (.getfield 10, 3) := by decide +kernel
theorem dX7_odds_73 : decode cX7_odds 73 = .ok (.aload_n 0, 1) := by decide +kernel
theorem dX7_odds_74 : decode cX7_odds 74 = .ok (.getfield 10, 3) := by decide +kernel
theorem dX7_odds_77 : decode cX7_odds 77 = .ok (.invokevirtual 213, 3) := by decide +kernel
theorem dX7_odds_80 : decode cX7_odds 80 = .ok (.iconst 1, 1) := by decide +kernel
theorem dX7_odds_81 : decode cX7_odds 81 = .ok (.iload_n 1, 1) := by decide +kernel
theorem dX7_odds_82 : decode cX7_odds 82 = .ok (.ishl, 1) := by decide +kernel
theorem dX7_odds_83 : decode cX7_odds 83 = .ok (.iand, 1) := by decide +kernel
theorem dX7_odds_84 : decode cX7_odds 84 = .ok (.invokevirtual 225, 3) := by decide +kernel
theorem dX7_odds_87 : decode cX7_odds 87 = .ok (.istore 6, 2) := by decide +kernel
theorem dX7_odds_89 : decode cX7_odds 89 = .ok (.iload 5, 2) := by decide +kernel
theorem dX7_odds_91 : decode cX7_odds 91 = .ok (.ifCond .gt 6, 3) := by decide +kernel
theorem dX7_odds_94 : decode cX7_odds 94 = .ok (.bipush (-4), 2) := by decide +kernel
theorem dX7_odds_96 : decode cX7_odds 96 = .ok (.ireturn, 1) := by decide +kernel
theorem dX7_odds_97 : decode cX7_odds 97 = .ok (.iload 6, 2) := by decide +kernel
theorem dX7_odds_99 : decode cX7_odds 99 = .ok (.iload 5, 2) := by decide +kernel
theorem dX7_odds_101 : decode cX7_odds 101 = .ok (.invokestatic 228, 3) := by decide +kernel
theorem dX7_odds_104 : decode cX7_odds 104 = .ok (.istore 7, 2) := by decide +kernel
theorem dX7_odds_106 : decode cX7_odds 106 = .ok (.iload 7, 2) := by decide +kernel
theorem dX7_odds_108 : decode cX7_odds 108 = .ok (.ifCond .gt 6, 3) := by decide +kernel
theorem dX7_odds_111 : decode cX7_odds 111 = .ok (.bipush (-4), 2) := by decide +kernel
theorem dX7_odds_113 : decode cX7_odds 113 = .ok (.ireturn, 1) := by decide +kernel
theorem dX7_odds_114 : decode cX7_odds 114 = .ok (.iload_n 3, 1) := by decide +kernel
theorem dX7_odds_115 : decode cX7_odds 115 = .ok (.ifCond .ne 8, 3) := by decide +kernel
theorem dX7_odds_118 : decode cX7_odds 118 = .ok (.iload 6, 2) := by decide +kernel
theorem dX7_odds_120 : decode cX7_odds 120 = .ok (.goto 5, 3) := by decide +kernel
theorem dX7_odds_123 : decode cX7_odds 123 = .ok (.iload 5, 2) := by decide +kernel
theorem dX7_odds_125 : decode cX7_odds 125 = .ok (.iload 7, 2) := by decide +kernel
theorem dX7_odds_127 : decode cX7_odds 127 = .ok (.idiv, 1) := by decide +kernel
theorem dX7_odds_128 : decode cX7_odds 128 = .ok (.ireturn, 1) := by decide +kernel
theorem dX7_pairChances_0 : decode cX7_pairChances 0 = .ok (.iconst 0, 1) := by decide +kernel
theorem dX7_pairChances_1 : decode cX7_pairChances 1 = .ok (.istore_n 2, 1) := by decide +kernel
theorem dX7_pairChances_2 : decode cX7_pairChances 2 = .ok (.iconst 0, 1) := by decide +kernel
theorem dX7_pairChances_3 : decode cX7_pairChances 3 = .ok (.istore_n 3, 1) := by decide +kernel
theorem dX7_pairChances_4 : decode cX7_pairChances 4 = .ok (.iload_n 3, 1) := by decide +kernel
theorem dX7_pairChances_5 : decode cX7_pairChances 5 = .ok (.aload_n 0, 1) := by decide +kernel
theorem dX7_pairChances_6 : decode cX7_pairChances 6 = .ok (.getfield 10, 3) := by decide +kernel
theorem dX7_pairChances_9 : decode cX7_pairChances 9 = .ok (.getfield 206, 3) := by decide +kernel
theorem dX7_pairChances_12 : decode cX7_pairChances 12 = .ok (.if_icmp .ge 86, 3) := by decide +kernel
theorem dX7_pairChances_15 : decode cX7_pairChances 15 = .ok (.iload_n 3, 1) := by decide +kernel
theorem dX7_pairChances_16 : decode cX7_pairChances 16 = .ok (.iconst 1, 1) := by decide +kernel
theorem dX7_pairChances_17 : decode cX7_pairChances 17 = .ok (.iadd, 1) := by decide +kernel
theorem dX7_pairChances_18 : decode cX7_pairChances 18 = .ok (.istore 4, 2) := by decide +kernel
theorem dX7_pairChances_20 : decode cX7_pairChances 20 = .ok (.iload 4, 2) := by decide +kernel
theorem dX7_pairChances_22 : decode cX7_pairChances 22 = .ok (.aload_n 0, 1) := by decide +kernel
theorem dX7_pairChances_23 : decode cX7_pairChances 23 = .ok (.getfield 10, 3) := by decide +kernel
theorem dX7_pairChances_26 : decode cX7_pairChances 26 = .ok (.getfield 206, 3) := by decide +kernel
theorem dX7_pairChances_29 : decode cX7_pairChances 29 = .ok (.if_icmp .ge 63, 3) := by decide +kernel
theorem dX7_pairChances_32 : decode cX7_pairChances 32 = .ok (.iconst 1, 1) := by decide +kernel
theorem dX7_pairChances_33 : decode cX7_pairChances 33 = .ok (.iload_n 3, 1) := by decide +kernel
theorem dX7_pairChances_34 : decode cX7_pairChances 34 = .ok (.ishl, 1) := by decide +kernel
theorem dX7_pairChances_35 : decode cX7_pairChances 35 = .ok (.iconst 1, 1) := by decide +kernel
theorem dX7_pairChances_36 : decode cX7_pairChances 36 = .ok (.iload 4, 2) := by decide +kernel
theorem dX7_pairChances_38 : decode cX7_pairChances 38 = .ok (.ishl, 1) := by decide +kernel
theorem dX7_pairChances_39 : decode cX7_pairChances 39 = .ok (.ior, 1) := by decide +kernel
theorem dX7_pairChances_40 : decode cX7_pairChances 40 = .ok (.istore 5, 2) := by decide +kernel
theorem dX7_pairChances_42 : decode cX7_pairChances 42 = .ok (.iload 5, 2) := by decide +kernel
theorem dX7_pairChances_44 : decode cX7_pairChances 44 = .ok (.iload_n 1, 1) := by decide +kernel
theorem dX7_pairChances_45 : decode cX7_pairChances 45 = .ok (.iand, 1) := by decide +kernel
theorem dX7_pairChances_46 : decode cX7_pairChances 46 = .ok (.ifCond .eq 40, 3) := by decide +kernel
theorem dX7_pairChances_49 : decode cX7_pairChances 49 = .ok (.aload_n 0, 1) := by decide +kernel
theorem dX7_pairChances_50 : decode cX7_pairChances 50 = .ok (.getfield 10, 3) := by decide +kernel
theorem dX7_pairChances_53 : decode cX7_pairChances 53 = .ok (.iload 5, 2) := by decide +kernel
theorem dX7_pairChances_55 : decode cX7_pairChances 55 = .ok (.invokevirtual 219, 3) := by decide +kernel
theorem dX7_pairChances_58 : decode cX7_pairChances 58 = .ok (.ifCond .eq 28, 3) := by decide +kernel
theorem dX7_pairChances_61 : decode cX7_pairChances 61 = .ok (.iload_n 2, 1) := by decide +kernel
theorem dX7_pairChances_62 : decode cX7_pairChances 62 = .ok (.aload_n 0, 1) := by decide +kernel
theorem dX7_pairChances_63 : decode cX7_pairChances 63 = .ok (.getfield 10, 3) := by decide +kernel
theorem dX7_pairChances_66 : decode cX7_pairChances 66 = .ok (.iconst 1, 1) := by decide +kernel
theorem dX7_pairChances_67 : decode cX7_pairChances 67 = .ok (.iload_n 3, 1) := by decide +kernel
theorem dX7_pairChances_68 : decode cX7_pairChances 68 = .ok (.ishl, 1) := by decide +kernel
theorem dX7_pairChances_69 : decode cX7_pairChances 69 = .ok (.invokevirtual 225, 3) := by decide +kernel
theorem dX7_pairChances_72 : decode cX7_pairChances 72 = .ok (.aload_n 0, 1) := by decide +kernel
theorem dX7_pairChances_73 : decode cX7_pairChances 73 = .ok (.getfield 10, 3) := by decide +kernel
theorem dX7_pairChances_76 : decode cX7_pairChances 76 = .ok (.iconst 1, 1) := by decide +kernel
theorem dX7_pairChances_77 : decode cX7_pairChances 77 = .ok (.iload 4, 2) := by decide +kernel
theorem dX7_pairChances_79 : decode cX7_pairChances 79 = .ok (.ishl, 1) := by decide +kernel
theorem dX7_pairChances_80 : decode cX7_pairChances 80 = .ok (.invokevirtual 225, 3) := by decide +kernel
theorem dX7_pairChances_83 : decode cX7_pairChances 83 = .ok (.imul, 1) := by decide +kernel
theorem dX7_pairChances_84 : decode cX7_pairChances 84 = .ok (.iadd, 1) := by decide +kernel
theorem dX7_pairChances_85 : decode cX7_pairChances 85 = .ok (.istore_n 2, 1) := by decide +kernel
theorem dX7_pairChances_86 : decode cX7_pairChances 86 = .ok (.iinc 4 1, 3) := by decide +kernel
theorem dX7_pairChances_89 : decode cX7_pairChances 89 = .ok (.goto (-69), 3) := by decide +kernel
theorem dX7_pairChances_92 : decode cX7_pairChances 92 = .ok (.iinc 3 1, 3) := by decide +kernel
theorem dX7_pairChances_95 : decode cX7_pairChances 95 = .ok (.goto (-91), 3) := by decide +kernel
theorem dX7_pairChances_98 : decode cX7_pairChances 98 = .ok (.iload_n 2, 1) := by decide +kernel
theorem dX7_pairChances_99 : decode cX7_pairChances 99 = .ok (.ireturn, 1) := by decide +kernel
theorem dX7_commonDivisor_0 : decode cX7_commonDivisor 0 = .ok (.iload_n 0, 1) := by decide +kernel
theorem dX7_commonDivisor_1 : decode cX7_commonDivisor 1 = .ok (.istore_n 2, 1) := by decide +kernel
theorem dX7_commonDivisor_2 : decode cX7_commonDivisor 2 = .ok (.iload_n 1, 1) := by decide +kernel
theorem dX7_commonDivisor_3 : decode cX7_commonDivisor 3 = .ok (.istore_n 3, 1) := by decide +kernel
theorem dX7_commonDivisor_4 : decode cX7_commonDivisor 4 = .ok (.iconst 0, 1) := by decide +kernel
theorem dX7_commonDivisor_5 : decode cX7_commonDivisor 5 = .ok (.istore 4, 2) := by decide +kernel
theorem dX7_commonDivisor_7 : decode cX7_commonDivisor 7 = .ok (.iload 4, 2) := by decide +kernel
theorem dX7_commonDivisor_9 : decode cX7_commonDivisor 9 = .ok (.bipush 64, 2) := by decide +kernel
theorem dX7_commonDivisor_11 : decode cX7_commonDivisor 11 = .ok (.if_icmp .ge 23, 3) := by decide +kernel
theorem dX7_commonDivisor_14 : decode cX7_commonDivisor 14 = .ok (.iload_n 3, 1) := by decide +kernel
theorem dX7_commonDivisor_15 : decode cX7_commonDivisor 15 = .ok (.ifCond .eq 19, 3) := by decide +kernel
theorem dX7_commonDivisor_18 : decode cX7_commonDivisor 18 = .ok (.iload_n 2, 1) := by decide +kernel
theorem dX7_commonDivisor_19 : decode cX7_commonDivisor 19 = .ok (.iload_n 3, 1) := by decide +kernel
theorem dX7_commonDivisor_20 : decode cX7_commonDivisor 20 = .ok (.irem, 1) := by decide +kernel
theorem dX7_commonDivisor_21 : decode cX7_commonDivisor 21 = .ok (.istore 5, 2) := by decide +kernel
theorem dX7_commonDivisor_23 : decode cX7_commonDivisor 23 = .ok (.iload_n 3, 1) := by decide +kernel
theorem dX7_commonDivisor_24 : decode cX7_commonDivisor 24 = .ok (.istore_n 2, 1) := by decide +kernel
theorem dX7_commonDivisor_25 : decode cX7_commonDivisor 25 = .ok (.iload 5, 2) := by decide +kernel
theorem dX7_commonDivisor_27 : decode cX7_commonDivisor 27 = .ok (.istore_n 3, 1) := by decide +kernel
theorem dX7_commonDivisor_28 : decode cX7_commonDivisor 28 = .ok (.iinc 4 1, 3) := by decide +kernel
theorem dX7_commonDivisor_31 : decode cX7_commonDivisor 31 = .ok (.goto (-24), 3) := by decide +kernel
theorem dX7_commonDivisor_34 : decode cX7_commonDivisor 34 = .ok (.iload_n 2, 1) := by decide +kernel
theorem dX7_commonDivisor_35 : decode cX7_commonDivisor 35 = .ok (.ireturn, 1) := by decide +kernel
theorem dX7_which_0 : decode cX7_which 0 = .ok (.aload_n 0, 1) := by decide +kernel
theorem dX7_which_1 : decode cX7_which 1 = .ok (.getfield 10, 3) := by decide +kernel
theorem dX7_which_4 : decode cX7_which 4 = .ok (.invokevirtual 213, 3) := by decide +kernel
theorem dX7_which_7 : decode cX7_which 7 = .ok (.istore_n 1, 1) := by decide +kernel
theorem dX7_which_8 : decode cX7_which 8 = .ok (.bipush (-4), 2) := by decide +kernel
theorem dX7_which_10 : decode cX7_which 10 = .ok (.istore_n 2, 1) := by decide +kernel
theorem dX7_which_11 : decode cX7_which 11 = .ok (.iconst 0, 1) := by decide +kernel
theorem dX7_which_12 : decode cX7_which 12 = .ok (.istore_n 3, 1) := by decide +kernel
theorem dX7_which_13 : decode cX7_which 13 = .ok (.iconst 0, 1) := by decide +kernel
theorem dX7_which_14 : decode cX7_which 14 = .ok (.istore 4, 2) := by decide +kernel
theorem dX7_which_16 : decode cX7_which 16 = .ok (.iload 4, 2) := by decide +kernel
theorem dX7_which_18 : decode cX7_which 18 = .ok (.aload_n 0, 1) := by decide +kernel
theorem dX7_which_19 : decode cX7_which 19 = .ok (.getfield 10, 3) := by decide +kernel
theorem dX7_which_22 : decode cX7_which 22 = .ok (.getfield 206, 3) := by decide +kernel
theorem dX7_which_25 : decode cX7_which 25 = .ok (.if_icmp .ge 36, 3) := by decide +kernel
theorem dX7_which_28 : decode cX7_which 28 = .ok (.aload_n 0, 1) := by decide +kernel
theorem dX7_which_29 : decode cX7_which 29 = .ok (.getfield 10, 3) := by decide +kernel
theorem dX7_which_32 : decode cX7_which 32 = .ok (.iload_n 1, 1) := by decide +kernel
theorem dX7_which_33 : decode cX7_which 33 = .ok (.iconst 1, 1) := by decide +kernel
theorem dX7_which_34 : decode cX7_which 34 = .ok (.iload 4, 2) := by decide +kernel
theorem dX7_which_36 : decode cX7_which 36 = .ok (.ishl, 1) := by decide +kernel
theorem dX7_which_37 : decode cX7_which 37 = .ok (.iand, 1) := by decide +kernel
theorem dX7_which_38 : decode cX7_which 38 = .ok (.invokevirtual 225, 3) := by decide +kernel
theorem dX7_which_41 : decode cX7_which 41 = .ok (.istore 5, 2) := by decide +kernel
theorem dX7_which_43 : decode cX7_which 43 = .ok (.iload 5, 2) := by decide +kernel
theorem dX7_which_45 : decode cX7_which 45 = .ok (.iload_n 3, 1) := by decide +kernel
theorem dX7_which_46 : decode cX7_which 46 = .ok (.if_icmp .le 9, 3) := by decide +kernel
theorem dX7_which_49 : decode cX7_which 49 = .ok (.iload 5, 2) := by decide +kernel
theorem dX7_which_51 : decode cX7_which 51 = .ok (.istore_n 3, 1) := by decide +kernel
theorem dX7_which_52 : decode cX7_which 52 = .ok (.iload 4, 2) := by decide +kernel
theorem dX7_which_54 : decode cX7_which 54 = .ok (.istore_n 2, 1) := by decide +kernel
theorem dX7_which_55 : decode cX7_which 55 = .ok (.iinc 4 1, 3) := by decide +kernel
theorem dX7_which_58 : decode cX7_which 58 = .ok (.goto (-42), 3) := by decide +kernel
theorem dX7_which_61 : decode cX7_which 61 = .ok (.iload_n 2, 1) := by decide +kernel
theorem dX7_which_62 : decode cX7_which 62 = .ok (.ireturn, 1) := by decide +kernel
theorem dX7_next_0 : decode cX7_next 0 = .ok (.iload_n 1, 1) := by decide +kernel
theorem dX7_next_1 : decode cX7_next 1 = .ok (.invokestatic 197, 3) := by decide +kernel
theorem dX7_next_4 : decode cX7_next 4 = .ok (.ifCond .ne 5, 3) := by decide +kernel
theorem dX7_next_7 : decode cX7_next 7 = .ok (.iconst (-1), 1) := by decide +kernel
theorem dX7_next_8 : decode cX7_next 8 = .ok (.ireturn, 1) := by decide +kernel
theorem dX7_next_9 : decode cX7_next 9 = .ok (.aload_n 0, 1) := by decide +kernel
theorem dX7_next_10 : decode cX7_next 10 = .ok (.getfield 10, 3) := by decide +kernel
theorem dX7_next_13 : decode cX7_next 13 = .ok (.invokevirtual 213, 3) := by decide +kernel
theorem dX7_next_16 : decode cX7_next 16 = .ok (.istore_n 2, 1) := by decide +kernel
theorem dX7_next_17 : decode cX7_next 17 = .ok (.aload_n 0, 1) := by decide +kernel
theorem dX7_next_18 : decode cX7_next 18 = .ok (.getfield 10, 3) := by decide +kernel
theorem dX7_next_21 : decode cX7_next 21 = .ok (.iload_n 2, 1) := by decide +kernel
theorem dX7_next_22 : decode cX7_next 22 = .ok (.invokevirtual 225, 3) := by decide +kernel
theorem dX7_next_25 : decode cX7_next 25 = .ok (.istore_n 3, 1) := by decide +kernel
theorem dX7_next_26 : decode cX7_next 26 = .ok (.bipush (-4), 2) := by decide +kernel
theorem dX7_next_28 : decode cX7_next 28 = .ok (.istore 4, 2) := by decide +kernel
theorem dX7_next_30 : decode cX7_next 30 = .ok (.iconst 0, 1) := by decide +kernel
theorem dX7_next_31 : decode cX7_next 31 = .ok (.istore 5, 2) := by decide +kernel
theorem dX7_next_33 : decode cX7_next 33 = .ok (.bipush 10, 2) := by decide +kernel
theorem dX7_next_35 : decode cX7_next 35 = .ok (.istore 6, 2) := by decide +kernel
theorem dX7_next_37 : decode cX7_next 37 = .ok (.iload 6, 2) := by decide +kernel
theorem dX7_next_39 : decode cX7_next 39 = .ok (.sipush 600, 3) := by decide +kernel
theorem dX7_next_42 : decode cX7_next 42 = .ok (.if_icmp .gt 63, 3) := by decide +kernel
theorem dX7_next_45 : decode cX7_next 45 = .ok (.iload_n 2, 1) := by decide +kernel
theorem dX7_next_46 : decode cX7_next 46 = .ok (.ifCond .eq 59, 3) := by decide +kernel
theorem dX7_next_49 : decode cX7_next 49 = .ok (.iconst 2, 1) := by decide +kernel
theorem dX7_next_50 : decode cX7_next 50 = .ok (.aload_n 0, 1) := by decide +kernel
theorem dX7_next_51 : decode cX7_next 51 = .ok (.getfield 10, 3) := by decide +kernel
theorem dX7_next_54 : decode cX7_next 54 = .ok (.iload_n 2, 1) := by decide +kernel
theorem dX7_next_55 : decode cX7_next 55 = .ok (.aload_n 0, 1) := by decide +kernel
theorem dX7_next_56 : decode cX7_next 56 = .ok (.getfield 10, 3) := by decide +kernel
theorem dX7_next_59 : decode cX7_next 59 = .ok (.iload 6, 2) := by decide +kernel
theorem dX7_next_61 : decode cX7_next 61 = .ok (.iload_n 1, 1) := by decide +kernel
theorem dX7_next_62 : decode cX7_next 62 = .ok (.invokevirtual 194, 3) := by decide +kernel
theorem dX7_next_65 : decode cX7_next 65 = .ok (.iand, 1) := by decide +kernel
theorem dX7_next_66 : decode cX7_next 66 = .ok (.invokevirtual 225, 3) := by decide +kernel
theorem dX7_next_69 : decode cX7_next 69 = .ok (.imul, 1) := by decide +kernel
theorem dX7_next_70 : decode cX7_next 70 = .ok (.iload_n 3, 1) := by decide +kernel
theorem dX7_next_71 : decode cX7_next 71 = .ok (.isub, 1) := by decide +kernel
theorem dX7_next_72 : decode cX7_next 72 = .ok (.invokestatic 231, 3) := by decide +kernel
theorem dX7_next_75 : decode cX7_next 75 = .ok (.istore 7, 2) := by decide +kernel
theorem dX7_next_77 : decode cX7_next 77 = .ok (.iload 4, 2) := by decide +kernel
theorem dX7_next_79 : decode cX7_next 79 = .ok (.bipush (-4), 2) := by decide +kernel
theorem dX7_next_81 : decode cX7_next 81 = .ok (.if_icmp .eq 10, 3) := by decide +kernel
theorem dX7_next_84 : decode cX7_next 84 = .ok (.iload 7, 2) := by decide +kernel
theorem dX7_next_86 : decode cX7_next 86 = .ok (.iload 5, 2) := by decide +kernel
theorem dX7_next_88 : decode cX7_next 88 = .ok (.if_icmp .ge 11, 3) := by decide +kernel
theorem dX7_next_91 : decode cX7_next 91 = .ok (.iload 7, 2) := by decide +kernel
theorem dX7_next_93 : decode cX7_next 93 = .ok (.istore 5, 2) := by decide +kernel
theorem dX7_next_95 : decode cX7_next 95 = .ok (.iload 6, 2) := by decide +kernel
theorem dX7_next_97 : decode cX7_next 97 = .ok (.istore 4, 2) := by decide +kernel
theorem dX7_next_99 : decode cX7_next 99 = .ok (.iinc 6 10, 3) := by decide +kernel
theorem dX7_next_102 : decode cX7_next 102 = .ok (.goto (-65), 3) := by decide +kernel
theorem dX7_next_105 : decode cX7_next 105 = .ok (.iload 4, 2) := by decide +kernel
theorem dX7_next_107 : decode cX7_next 107 = .ok (.ireturn, 1) := by decide +kernel
theorem dX7_fewest_0 : decode cX7_fewest 0 = .ok (.aload_n 0, 1) := by decide +kernel
theorem dX7_fewest_1 : decode cX7_fewest 1 = .ok (.iload_n 1, 1) := by decide +kernel
theorem dX7_fewest_2 : decode cX7_fewest 2 = .ok (.iload_n 2, 1) := by decide +kernel
theorem dX7_fewest_3 : decode cX7_fewest 3 = .ok (.invokestatic 197, 3) := by decide +kernel
theorem dX7_fewest_6 : decode cX7_fewest 6 = .ok (.bipush 6, 2) := by decide +kernel
theorem dX7_fewest_8 : decode cX7_fewest 8 = .ok (.invokevirtual 236, 3) := by decide +kernel
theorem dX7_fewest_11 : decode cX7_fewest 11 = .ok (.istore_n 3, 1) := by decide +kernel
theorem dX7_fewest_12 : decode cX7_fewest 12 = .ok (.iload_n 3, 1) := by decide +kernel
theorem dX7_fewest_13 : decode cX7_fewest 13 = .ok (.ifCond .eq 5, 3) := by decide +kernel
theorem dX7_fewest_16 : decode cX7_fewest 16 = .ok (.iload_n 3, 1) := by decide +kernel
theorem dX7_fewest_17 : decode cX7_fewest 17 = .ok (.ireturn, 1) := by decide +kernel
theorem dX7_fewest_18 : decode cX7_fewest 18 = .ok (.aload_n 0, 1) := by decide +kernel
theorem dX7_fewest_19 : decode cX7_fewest 19 = .ok (.getfield 10, 3) := by decide +kernel
theorem dX7_fewest_22 : decode cX7_fewest 22 = .ok (.invokevirtual 213, 3) := by decide +kernel
theorem dX7_fewest_25 : decode cX7_fewest 25 = .ok (.istore 4, 2) := by decide +kernel
theorem dX7_fewest_27 : decode cX7_fewest 27 = .ok (.iload 4, 2) := by decide +kernel
theorem dX7_fewest_29 : decode cX7_fewest 29 = .ok (.iconst 1, 1) := by decide +kernel
theorem dX7_fewest_30 : decode cX7_fewest 30 = .ok (.aload_n 0, 1) := by decide +kernel
theorem dX7_fewest_31 : decode cX7_fewest 31 = .ok (.getfield 52, 3) := by decide +kernel
theorem dX7_fewest_34 : decode cX7_fewest 34 = .ok (.arraylength, 1) := by decide +kernel
theorem dX7_fewest_35 : decode cX7_fewest 35 = .ok (.iconst 1, 1) := by decide +kernel
theorem dX7_fewest_36 : decode cX7_fewest 36 = .ok (.isub, 1) := by decide +kernel
theorem dX7_fewest_37 : decode cX7_fewest 37 = .ok (.invokestatic 159, 3) := by decide +kernel
theorem dX7_fewest_40 : decode cX7_fewest 40 = .ok (.ifCond .ne 6, 3) := by decide +kernel
theorem dX7_fewest_43 : decode cX7_fewest 43 = .ok (.bipush (-4), 2) := by decide +kernel
theorem dX7_fewest_45 : decode cX7_fewest 45 = .ok (.ireturn, 1) := by decide +kernel
theorem dX7_fewest_46 : decode cX7_fewest 46 = .ok (.aload_n 0, 1) := by decide +kernel
theorem dX7_fewest_47 : decode cX7_fewest 47 = .ok (.aload_n 0, 1) := by decide +kernel
theorem dX7_fewest_48 : decode cX7_fewest 48 = .ok (.getfield 44, 3) := by decide +kernel
theorem dX7_fewest_51 : decode cX7_fewest 51 = .ok (.iload_n 1, 1) := by decide +kernel
theorem dX7_fewest_52 : decode cX7_fewest 52 = .ok (.aaload, 1) := by decide +kernel
theorem dX7_fewest_53 : decode cX7_fewest 53 = .ok (.iload_n 2, 1) := by decide +kernel
theorem dX7_fewest_54 : decode cX7_fewest 54 = .ok (.invokevirtual 240, 3) := by decide +kernel
theorem dX7_fewest_57 : decode cX7_fewest 57 = .ok (.istore 5, 2) := by decide +kernel
theorem dX7_fewest_59 : decode cX7_fewest 59 = .ok (.iconst 0, 1) := by decide +kernel
theorem dX7_fewest_60 : decode cX7_fewest 60 = .ok (.istore 6, 2) := by decide +kernel
theorem dX7_fewest_62 : decode cX7_fewest 62 = .ok (.iload 6, 2) := by decide +kernel
theorem dX7_fewest_64 : decode cX7_fewest 64 = .ok (.iload 4, 2) := by decide +kernel
theorem dX7_fewest_66 : decode cX7_fewest 66 = .ok (.if_icmp .gt 38, 3) := by decide +kernel
theorem dX7_fewest_69 : decode cX7_fewest 69 = .ok (.aload_n 0, 1) := by decide +kernel
theorem dX7_fewest_70 : decode cX7_fewest 70 = .ok (.getfield 52, 3) := by decide +kernel
theorem dX7_fewest_73 : decode cX7_fewest 73 = .ok (.iload 6, 2) := by decide +kernel
theorem dX7_fewest_75 : decode cX7_fewest 75 = .ok (.iload 6, 2) := by decide +kernel
theorem dX7_fewest_77 : decode cX7_fewest 77 = .ok (.iload 4, 2) := by decide +kernel
theorem dX7_fewest_79 : decode cX7_fewest 79 = .ok (.iconst (-1), 1) := by decide +kernel
theorem dX7_fewest_80 : decode cX7_fewest 80 = .ok (.ixor, 1) := by decide +kernel
theorem dX7_fewest_81 : decode cX7_fewest 81 = .ok (.iand, 1) := by decide +kernel
theorem dX7_fewest_82 : decode cX7_fewest 82 = .ok (.ifCond .ne 14, 3) := by decide +kernel
theorem dX7_fewest_85 : decode cX7_fewest 85 = .ok (.aload_n 0, 1) := by decide +kernel
theorem dX7_fewest_86 : decode cX7_fewest 86 = .ok (.iload 6, 2) := by decide +kernel
theorem dX7_fewest_88 : decode cX7_fewest 88 = .ok (.iload 5, 2) := by decide +kernel
theorem dX7_fewest_90 : decode cX7_fewest 90 = .ok (.invokevirtual 244, 3) := by decide +kernel
theorem dX7_fewest_93 : decode cX7_fewest 93 = .ok (.goto 4, 3) := by decide +kernel
theorem dX7_fewest_96 : decode cX7_fewest 96 = .ok (.iconst 0, 1) := by decide +kernel
theorem dX7_fewest_97 : decode cX7_fewest 97 = .ok (.iastore, 1) := by decide +kernel
theorem dX7_fewest_98 : decode cX7_fewest 98 = .ok (.iinc 6 1, 3) := by decide +kernel
theorem dX7_fewest_101 : decode cX7_fewest 101 = .ok (.goto (-39), 3) := by decide +kernel
theorem dX7_fewest_104 : decode cX7_fewest 104 = .ok (.aload_n 0, 1) := by decide +kernel
theorem dX7_fewest_105 : decode cX7_fewest 105 = .ok (.getfield 52, 3) := by decide +kernel
theorem dX7_fewest_108 : decode cX7_fewest 108 = .ok (.iload 4, 2) := by decide +kernel
theorem dX7_fewest_110 : decode cX7_fewest 110 = .ok (.iaload, 1) := by decide +kernel
theorem dX7_fewest_111 : decode cX7_fewest 111 = .ok (.ireturn, 1) := by decide +kernel
theorem dX7_worstCase_0 : decode cX7_worstCase 0 = .ok (.iconst 0, 1) := by decide +kernel
theorem dX7_worstCase_1 : decode cX7_worstCase 1 = .ok (.istore_n 3, 1) := by decide +kernel
theorem dX7_worstCase_2 : decode cX7_worstCase 2 = .ok (.iconst 0, 1) := by decide +kernel
theorem dX7_worstCase_3 : decode cX7_worstCase 3 = .ok (.istore 4, 2) := by decide +kernel
theorem dX7_worstCase_5 : decode cX7_worstCase 5 = .ok (.iload 4, 2) := by decide +kernel
theorem dX7_worstCase_7 : decode cX7_worstCase 7 = .ok (.iload_n 2, 1) := by decide +kernel
theorem dX7_worstCase_8 : decode cX7_worstCase 8 = .ok (.if_icmp .ge 80, 3) := by decide +kernel
theorem dX7_worstCase_11 : decode cX7_worstCase 11 = .ok (.iload_n 1, 1) := by decide +kernel
theorem dX7_worstCase_12 : decode cX7_worstCase 12 = .ok (.aload_n 0, 1) := by decide +kernel
theorem dX7_worstCase_13 : decode cX7_worstCase 13 = .ok (.getfield 48, 3) := by decide +kernel
theorem dX7_worstCase_16 : decode cX7_worstCase 16 = .ok (.iload 4, 2) := by decide +kernel
theorem dX7_worstCase_18 : decode cX7_worstCase 18 = .ok (.iaload, 1) := by decide +kernel
theorem dX7_worstCase_19 : decode cX7_worstCase 19 = .ok (.iand, 1) := by decide +kernel
theorem dX7_worstCase_20 : decode cX7_worstCase 20 = .ok (.istore 5, 2) := by decide +kernel
theorem dX7_worstCase_22 : decode cX7_worstCase 22 = .ok (.iload_n 1, 1) := by decide +kernel
theorem dX7_worstCase_23 : decode cX7_worstCase 23 = .ok (.aload_n 0, 1) := by decide +kernel
theorem dX7_worstCase_24 : decode cX7_worstCase 24 = .ok (.getfield 48, 3) := by decide +kernel
theorem dX7_worstCase_27 : decode cX7_worstCase 27 = .ok (.iload 4, 2) := by decide +kernel
theorem dX7_worstCase_29 : decode cX7_worstCase 29 = .ok (.iaload, 1) := by decide +kernel
theorem dX7_worstCase_30 : decode cX7_worstCase 30 = .ok (.iconst (-1), 1) := by decide +kernel
theorem dX7_worstCase_31 : decode cX7_worstCase 31 = .ok (.ixor, 1) := by decide +kernel
theorem dX7_worstCase_32 : decode cX7_worstCase 32 = .ok (.iand, 1) := by decide +kernel
theorem dX7_worstCase_33 : decode cX7_worstCase 33 = .ok (.istore 6, 2) := by decide +kernel
theorem dX7_worstCase_35 : decode cX7_worstCase 35 = .ok (.iload 5, 2) := by decide +kernel
theorem dX7_worstCase_37 : decode cX7_worstCase 37 = .ok (.ifCond .eq 45, 3) := by decide +kernel
theorem dX7_worstCase_40 : decode cX7_worstCase 40 = .ok (.iload 6, 2) := by decide +kernel
theorem dX7_worstCase_42 : decode cX7_worstCase 42 = .ok (.ifCond .eq 40, 3) := by decide +kernel
theorem dX7_worstCase_45 : decode cX7_worstCase 45 = .ok (.iconst 1, 1) := by decide +kernel
theorem dX7_worstCase_46 : decode cX7_worstCase 46 = .ok (.aload_n 0, 1) := by decide +kernel
theorem dX7_worstCase_47 : decode cX7_worstCase 47 = .ok (.getfield 52, 3) := by decide +kernel
theorem dX7_worstCase_50 : decode cX7_worstCase 50 = .ok (.iload 5, 2) := by decide +kernel
theorem dX7_worstCase_52 : decode cX7_worstCase 52 = .ok (.iaload, 1) := by decide +kernel
theorem dX7_worstCase_53 : decode cX7_worstCase 53 = .ok (.aload_n 0, 1) := by decide +kernel
theorem dX7_worstCase_54 : decode cX7_worstCase 54 = .ok (.getfield 52, 3) := by decide +kernel
theorem dX7_worstCase_57 : decode cX7_worstCase 57 = .ok (.iload 6, 2) := by decide +kernel
theorem dX7_worstCase_59 : decode cX7_worstCase 59 = .ok (.iaload, 1) := by decide +kernel
theorem dX7_worstCase_60 : decode cX7_worstCase 60 = .ok (.invokestatic 247, 3) := by decide +kernel
theorem dX7_worstCase_63 : decode cX7_worstCase 63 = .ok (.iadd, 1) := by decide +kernel
theorem dX7_worstCase_64 : decode cX7_worstCase 64 = .ok (.istore 7, 2) := by decide +kernel
theorem dX7_worstCase_66 : decode cX7_worstCase 66 = .ok (.iload_n 3, 1) := by decide +kernel
theorem dX7_worstCase_67 : decode cX7_worstCase 67 = .ok (.ifCond .ne 8, 3) := by decide +kernel
theorem dX7_worstCase_70 : decode cX7_worstCase 70 = .ok (.iload 7, 2) := by decide +kernel
theorem dX7_worstCase_72 : decode cX7_worstCase 72 = .ok (.goto 9, 3) := by decide +kernel
theorem dX7_worstCase_75 : decode cX7_worstCase 75 = .ok (.iload_n 3, 1) := by decide +kernel
theorem dX7_worstCase_76 : decode cX7_worstCase 76 = .ok (.iload 7, 2) := by decide +kernel
theorem dX7_worstCase_78 : decode cX7_worstCase 78 = .ok (.invokestatic 250, 3) := by decide +kernel
theorem dX7_worstCase_81 : decode cX7_worstCase 81 = .ok (.istore_n 3, 1) := by decide +kernel
theorem dX7_worstCase_82 : decode cX7_worstCase 82 = .ok (.iinc 4 1, 3) := by decide +kernel
theorem dX7_worstCase_85 : decode cX7_worstCase 85 = .ok (.goto (-80), 3) := by decide +kernel
theorem dX7_worstCase_88 : decode cX7_worstCase 88 = .ok (.iload_n 3, 1) := by decide +kernel
theorem dX7_worstCase_89 : decode cX7_worstCase 89 = .ok (.ireturn, 1) := by decide +kernel
theorem dX7_listen_0 : decode cX7_listen 0 = .ok (.aload_n 1, 1) := by decide +kernel
theorem dX7_listen_1 : decode cX7_listen 1 = .ok (.invokevirtual 253, 3) := by decide +kernel
theorem dX7_listen_4 : decode cX7_listen 4 = .ok (.aload_n 0, 1) := by decide +kernel
theorem dX7_listen_5 : decode cX7_listen 5 = .ok (.getfield 48, 3) := by decide +kernel
theorem dX7_listen_8 : decode cX7_listen 8 = .ok (.arraylength, 1) := by decide +kernel
theorem dX7_listen_9 : decode cX7_listen 9 = .ok (.invokestatic 250, 3) := by decide +kernel
theorem dX7_listen_12 : decode cX7_listen 12 = .ok (.istore_n 3, 1) := by decide +kernel
theorem dX7_listen_13 : decode cX7_listen 13 = .ok (.iconst 0, 1) := by decide +kernel
theorem dX7_listen_14 : decode cX7_listen 14 = .ok (.istore 4, 2) := by decide +kernel
theorem dX7_listen_16 : decode cX7_listen 16 = .ok (.iload 4, 2) := by decide +kernel
theorem dX7_listen_18 : decode cX7_listen 18 = .ok (.iload_n 3, 1) := by decide +kernel
theorem dX7_listen_19 : decode cX7_listen 19 = .ok (.if_icmp .ge 30, 3) := by decide +kernel
theorem dX7_listen_22 : decode cX7_listen 22 = .ok (.aload_n 0, 1) := by decide +kernel
theorem dX7_listen_23 : decode cX7_listen 23 = .ok (.getfield 48, 3) := by decide +kernel
theorem dX7_listen_26 : decode cX7_listen 26 = .ok (.iload 4, 2) := by decide +kernel
theorem dX7_listen_28 : decode cX7_listen 28 = .ok (.aload_n 0, 1) := by decide +kernel
theorem dX7_listen_29 : decode cX7_listen 29 = .ok (.getfield 10, 3) := by decide +kernel
theorem dX7_listen_32 : decode cX7_listen 32 = .ok (.aload_n 1, 1) := by decide +kernel
theorem dX7_listen_33 : decode cX7_listen 33 = .ok (.iload 4, 2) := by decide +kernel
theorem dX7_listen_35 : decode cX7_listen 35 = .ok (.invokevirtual 256, 3) := by decide +kernel
theorem dX7_listen_38 : decode cX7_listen 38 = .ok (.iload_n 2, 1) := by decide +kernel
theorem dX7_listen_39 : decode cX7_listen 39 = .ok (.invokevirtual 194, 3) := by decide +kernel
theorem dX7_listen_42 : decode cX7_listen 42 = .ok (.iastore, 1) := by decide +kernel
theorem dX7_listen_43 : decode cX7_listen 43 = .ok (.iinc 4 1, 3) := by decide +kernel
theorem dX7_listen_46 : decode cX7_listen 46 = .ok (.goto (-30), 3) := by decide +kernel
theorem dX7_listen_49 : decode cX7_listen 49 = .ok (.iload_n 3, 1) := by decide +kernel
theorem dX7_listen_50 : decode cX7_listen 50 = .ok (.ireturn, 1) := by decide +kernel
theorem dX7_shift_0 : decode cX7_shift 0 = .ok (.aload_n 0, 1) := by decide +kernel
theorem dX7_shift_1 : decode cX7_shift 1 = .ok (.getfield 10, 3) := by decide +kernel
theorem dX7_shift_4 : decode cX7_shift 4 = .ok (.iload_n 1, 1) := by decide +kernel
theorem dX7_shift_5 : decode cX7_shift 5 = .ok (.invokevirtual 155, 3) := by decide +kernel
theorem dX7_shift_8 : decode cX7_shift 8 = .ok (.ifCond .eq 13, 3) := by decide +kernel
theorem dX7_shift_11 : decode cX7_shift 11 = .ok (.iload_n 2, 1) := by decide +kernel
theorem dX7_shift_12 : decode cX7_shift 12 = .ok (.iconst 0, 1) := by decide +kernel
theorem dX7_shift_13 : decode cX7_shift 13 = .ok (.bipush 20, 2) := by decide +kernel
theorem dX7_shift_15 : decode cX7_shift 15 = .ok (.invokestatic 159, 3) := by decide +kernel
theorem dX7_shift_18 : decode cX7_shift 18 = .ok (.ifCond .ne 5, 3) := by decide +kernel
theorem dX7_shift_21 : decode cX7_shift 21 = .ok (.iconst (-1), 1) := by decide +kernel
theorem dX7_shift_22 : decode cX7_shift 22 = .ok (.ireturn, 1) := by decide +kernel
theorem dX7_shift_23 : decode cX7_shift 23 = .ok (.aload_n 0, 1) := by decide +kernel
theorem dX7_shift_24 : decode cX7_shift 24 = .ok (.getfield 10, 3) := by decide +kernel
theorem dX7_shift_27 : decode cX7_shift 27 = .ok (.getfield 117, 3) := by decide +kernel
theorem dX7_shift_30 : decode cX7_shift 30 = .ok (.iload_n 1, 1) := by decide +kernel
theorem dX7_shift_31 : decode cX7_shift 31 = .ok (.invokevirtual 120, 3) := by decide +kernel
theorem dX7_shift_34 : decode cX7_shift 34 = .ok (.iload_n 2, 1) := by decide +kernel
theorem dX7_shift_35 : decode cX7_shift 35 = .ok (.iadd, 1) := by decide +kernel
theorem dX7_shift_36 : decode cX7_shift 36 = .ok (.bipush 20, 2) := by decide +kernel
theorem dX7_shift_38 : decode cX7_shift 38 = .ok (.if_icmp .le 6, 3) := by decide +kernel
theorem dX7_shift_41 : decode cX7_shift 41 = .ok (.bipush (-3), 2) := by decide +kernel
theorem dX7_shift_43 : decode cX7_shift 43 = .ok (.ireturn, 1) := by decide +kernel
theorem dX7_shift_44 : decode cX7_shift 44 = .ok (.aload_n 0, 1) := by decide +kernel
theorem dX7_shift_45 : decode cX7_shift 45 = .ok (.getfield 10, 3) := by decide +kernel
theorem dX7_shift_48 : decode cX7_shift 48 = .ok (.iload_n 1, 1) := by decide +kernel
theorem dX7_shift_49 : decode cX7_shift 49 = .ok (.iload_n 2, 1) := by decide +kernel
theorem dX7_shift_50 : decode cX7_shift 50 = .ok (.invokevirtual 259, 3) := by decide +kernel
theorem dX7_shift_53 : decode cX7_shift 53 = .ok (.ireturn, 1) := by decide +kernel
theorem dX7_lives_0 : decode cX7_lives 0 = .ok (.iload_n 1, 1) := by decide +kernel
theorem dX7_lives_1 : decode cX7_lives 1 = .ok (.iconst 0, 1) := by decide +kernel
theorem dX7_lives_2 : decode cX7_lives 2 = .ok (.bipush 20, 2) := by decide +kernel
theorem dX7_lives_4 : decode cX7_lives 4 = .ok (.invokestatic 159, 3) := by decide +kernel
theorem dX7_lives_7 : decode cX7_lives 7 = .ok (.ifCond .eq 13, 3) := by decide +kernel
theorem dX7_lives_10 : decode cX7_lives 10 = .ok (.iload_n 3, 1) := by decide +kernel
theorem dX7_lives_11 : decode cX7_lives 11 = .ok (.iconst 0, 1) := by decide +kernel
theorem dX7_lives_12 : decode cX7_lives 12 = .ok (.bipush 99, 2) := by decide +kernel
theorem dX7_lives_14 : decode cX7_lives 14 = .ok (.invokestatic 159, 3) := by decide +kernel
theorem dX7_lives_17 : decode cX7_lives 17 = .ok (.ifCond .ne 5, 3) := by decide +kernel
theorem dX7_lives_20 : decode cX7_lives 20 = .ok (.iconst (-1), 1) := by decide +kernel
theorem dX7_lives_21 : decode cX7_lives 21 = .ok (.ireturn, 1) := by decide +kernel
theorem dX7_lives_22 : decode cX7_lives 22 = .ok (.iconst 0, 1) := by decide +kernel
theorem dX7_lives_23 : decode cX7_lives 23 = .ok (.istore 4, 2) := by decide +kernel
theorem dX7_lives_25 : decode cX7_lives 25 = .ok (.iconst 0, 1) := by decide +kernel
theorem dX7_lives_26 : decode cX7_lives 26 = .ok (.istore 5, 2) := by decide +kernel
theorem dX7_lives_28 : decode cX7_lives 28 = .ok (.iload 5, 2) := by decide +kernel
theorem dX7_lives_30 : decode cX7_lives 30 = .ok (.aload_n 0, 1) := by decide +kernel
theorem dX7_lives_31 : decode cX7_lives 31 = .ok (.getfield 10, 3) := by decide +kernel
theorem dX7_lives_34 : decode cX7_lives 34 = .ok (.getfield 262, 3) := by decide +kernel
theorem dX7_lives_37 : decode cX7_lives 37 = .ok (.if_icmp .ge 64, 3) := by decide +kernel
theorem dX7_lives_40 : decode cX7_lives 40 = .ok (.aload_n 0, 1) := by decide +kernel
theorem dX7_lives_41 : decode cX7_lives 41 = .ok (.getfield 10, 3) := by decide +kernel
theorem dX7_lives_44 : decode cX7_lives 44 = .ok (.iload 5, 2) := by decide +kernel
theorem dX7_lives_46 : decode cX7_lives 46 = .ok (.iload_n 1, 1) := by decide +kernel
theorem dX7_lives_47 : decode cX7_lives 47 = .ok (.invokevirtual 259, 3) := by decide +kernel
theorem dX7_lives_50 : decode cX7_lives 50 = .ok (.i2l, 1) := by decide +kernel
theorem dX7_lives_51 : decode cX7_lives 51 = .ok (.iload_n 2, 1) := by decide +kernel
theorem dX7_lives_52 : decode cX7_lives 52 = .ok (.i2l, 1) := by decide +kernel
theorem dX7_lives_53 : decode cX7_lives 53 = .ok (.lsub, 1) := by decide +kernel
theorem dX7_lives_54 : decode cX7_lives 54 = .ok (.invokestatic 265, 3) := by decide +kernel
theorem dX7_lives_57 : decode cX7_lives 57 = .ok (.lstore 6, 2) := by decide +kernel
theorem dX7_lives_59 : decode cX7_lives 59 = .ok (.aload_n 0, 1) := by decide +kernel
theorem dX7_lives_60 : decode cX7_lives 60 = .ok (.getfield 10, 3) := by decide +kernel
theorem dX7_lives_63 : decode cX7_lives 63 = .ok (.getfield 117, 3) := by decide +kernel
theorem dX7_lives_66 : decode cX7_lives 66 = .ok (.iload 5, 2) := by decide +kernel
theorem dX7_lives_68 : decode cX7_lives 68 = .ok (.invokevirtual 120, 3) := by decide +kernel
theorem dX7_lives_71 : decode cX7_lives 71 = .ok (.iload_n 1, 1) := by decide +kernel
theorem dX7_lives_72 : decode cX7_lives 72 = .ok (.iadd, 1) := by decide +kernel
theorem dX7_lives_73 : decode cX7_lives 73 = .ok (.bipush 20, 2) := by decide +kernel
theorem dX7_lives_75 : decode cX7_lives 75 = .ok (.if_icmp .gt 20, 3) := by decide +kernel
theorem dX7_lives_78 : decode cX7_lives 78 = .ok (.lload 6, 2) := by decide +kernel
theorem dX7_lives_80 : decode cX7_lives 80 = .ok (.iload_n 3, 1) := by decide +kernel
theorem dX7_lives_81 : decode cX7_lives 81 = .ok (.i2l, 1) := by decide +kernel
theorem dX7_lives_82 : decode cX7_lives 82 = .ok (.lcmp, 1) := by decide +kernel
theorem dX7_lives_83 : decode cX7_lives 83 = .ok (.ifCond .gt 12, 3) := by decide +kernel
theorem dX7_lives_86 : decode cX7_lives 86 = .ok (.iload 4, 2) := by decide +kernel
theorem dX7_lives_88 : decode cX7_lives 88 = .ok (.iconst 1, 1) := by decide +kernel
theorem dX7_lives_89 : decode cX7_lives 89 = .ok (.iload 5, 2) := by decide +kernel
theorem dX7_lives_91 : decode cX7_lives 91 = .ok (.ishl, 1) := by decide +kernel
theorem dX7_lives_92 : decode cX7_lives 92 = .ok (.ior, 1) := by decide +kernel
theorem dX7_lives_93 : decode cX7_lives 93 = .ok (.istore 4, 2) := by decide +kernel
theorem dX7_lives_95 : decode cX7_lives 95 = .ok (.iinc 5 1, 3) := by decide +kernel
theorem dX7_lives_98 : decode cX7_lives 98 = .ok (.goto (-70), 3) := by decide +kernel
theorem dX7_lives_101 : decode cX7_lives 101 = .ok (.iload 4, 2) := by decide +kernel
theorem dX7_lives_103 : decode cX7_lives 103 = .ok (.ireturn, 1) := by decide +kernel
theorem dX7_seamOrCrack_0 : decode cX7_seamOrCrack 0 = .ok (.aload_n 0, 1) := by decide +kernel
theorem dX7_seamOrCrack_1 : decode cX7_seamOrCrack 1 = .ok (.getfield 10, 3) := by decide +kernel
theorem dX7_seamOrCrack_4 : decode cX7_seamOrCrack 4 = .ok (.iload_n 1, 1) := by decide +kernel
theorem dX7_seamOrCrack_5 : decode cX7_seamOrCrack 5 = .ok (.invokevirtual 133, 3) := by decide +kernel
theorem dX7_seamOrCrack_8 : decode cX7_seamOrCrack 8 = .ok (.astore 4, 2) := by decide +kernel
theorem dX7_seamOrCrack_10 : decode cX7_seamOrCrack 10 = .ok (.aload_n 0, 1) := by decide +kernel
theorem dX7_seamOrCrack_11 : decode cX7_seamOrCrack 11 = .ok (.getfield 10, 3) := by decide +kernel
theorem dX7_seamOrCrack_14 : decode cX7_seamOrCrack 14 = .ok (.iload_n 2, 1) := by decide +kernel
theorem dX7_seamOrCrack_15 : decode cX7_seamOrCrack 15 = .ok (.invokevirtual 133, 3) := by decide +kernel
theorem dX7_seamOrCrack_18 : decode cX7_seamOrCrack 18 = .ok (.astore 5, 2) := by decide +kernel
theorem dX7_seamOrCrack_20 : decode cX7_seamOrCrack 20 = .ok (.aload 4, 2) := by decide +kernel
theorem dX7_seamOrCrack_22 : decode cX7_seamOrCrack 22 = .ok (.ifnull 33, 3) := by decide +kernel
theorem dX7_seamOrCrack_25 : decode cX7_seamOrCrack 25 = .ok (.aload 5, 2) := by decide +kernel
theorem dX7_seamOrCrack_27 : decode cX7_seamOrCrack 27 = .ok (.ifnull 28, 3) := by decide +kernel
theorem dX7_seamOrCrack_30 : decode cX7_seamOrCrack 30 = .ok (.iload_n 1, 1) := by decide +kernel
theorem dX7_seamOrCrack_31 : decode cX7_seamOrCrack 31 = .ok (.iload_n 2, 1) := by decide +kernel
theorem dX7_seamOrCrack_32 : decode cX7_seamOrCrack 32 = .ok (.if_icmp .eq 23, 3) := by decide +kernel
theorem dX7_seamOrCrack_35 : decode cX7_seamOrCrack 35 = .ok (.aload 4, 2) := by decide +kernel
theorem dX7_seamOrCrack_37 : decode cX7_seamOrCrack 37 = .ok (.getfield 140, 3) := by decide +kernel
theorem dX7_seamOrCrack_40 : decode cX7_seamOrCrack 40 = .ok (.aload 5, 2) := by decide +kernel
theorem dX7_seamOrCrack_42 : decode cX7_seamOrCrack 42 = .ok (.getfield 140, 3) := by decide +kernel
theorem dX7_seamOrCrack_45 : decode cX7_seamOrCrack 45 = .ok (.if_icmp .ne 10, 3) := by decide +kernel
theorem dX7_seamOrCrack_48 : decode cX7_seamOrCrack 48 = .ok (.iload_n 3, 1) := by decide +kernel
theorem dX7_seamOrCrack_49 : decode cX7_seamOrCrack 49 = .ok (.invokestatic 200, 3) := by decide +kernel
theorem dX7_seamOrCrack_52 : decode cX7_seamOrCrack 52 = .ok (.ifCond .ne 5, 3) := by decide +kernel
theorem dX7_seamOrCrack_55 : decode cX7_seamOrCrack 55 = .ok (.iconst (-1), 1) := by decide +kernel
theorem dX7_seamOrCrack_56 : decode cX7_seamOrCrack 56 = .ok (.ireturn, 1) := by decide +kernel
theorem dX7_seamOrCrack_57 : decode cX7_seamOrCrack 57 = .ok (.iconst 1, 1) := by decide +kernel
theorem dX7_seamOrCrack_58 : decode cX7_seamOrCrack 58 = .ok (.istore 6, 2) := by decide +kernel
theorem dX7_seamOrCrack_60 : decode cX7_seamOrCrack 60 = .ok (.iload 6, 2) := by decide +kernel
theorem dX7_seamOrCrack_62 : decode cX7_seamOrCrack 62 = .ok (.bipush 99, 2) := by decide +kernel
theorem dX7_seamOrCrack_64 : decode cX7_seamOrCrack 64 = .ok (.if_icmp .gt 61, 3) := by decide +kernel
theorem dX7_seamOrCrack_67 : decode cX7_seamOrCrack 67 = .ok (.aload_n 0, 1) := by decide +kernel
theorem dX7_seamOrCrack_68 : decode cX7_seamOrCrack 68 = .ok (.getfield 10, 3) := by decide +kernel
theorem dX7_seamOrCrack_71 : decode cX7_seamOrCrack 71 = .ok (.aload 4, 2) := by decide +kernel
theorem dX7_seamOrCrack_73 : decode cX7_seamOrCrack 73 = .ok (.aload_n 0, 1) := by decide +kernel
theorem dX7_seamOrCrack_74 : decode cX7_seamOrCrack 74 = .ok (.getfield 10, 3) := by decide +kernel
theorem dX7_seamOrCrack_77 : decode cX7_seamOrCrack 77 = .ok (.getfield 117, 3) := by decide +kernel
theorem dX7_seamOrCrack_80 : decode cX7_seamOrCrack 80 = .ok (.iload_n 3, 1) := by decide +kernel
theorem dX7_seamOrCrack_81 : decode cX7_seamOrCrack 81 = .ok (.iload 6, 2) := by decide +kernel
theorem dX7_seamOrCrack_83 : decode cX7_seamOrCrack 83 = .ok (.invokevirtual 190, 3) := by decide +kernel
theorem dX7_seamOrCrack_86 : decode cX7_seamOrCrack 86 = .ok (.istore 7, 2) := by decide +kernel
theorem dX7_seamOrCrack_88 : decode cX7_seamOrCrack 88 = .ok (.aload_n 0, 1) := by decide +kernel
theorem dX7_seamOrCrack_89 : decode cX7_seamOrCrack 89 = .ok (.getfield 10, 3) := by decide +kernel
theorem dX7_seamOrCrack_92 : decode cX7_seamOrCrack 92 = .ok (.aload 5, 2) := by decide +kernel
theorem dX7_seamOrCrack_94 : decode cX7_seamOrCrack 94 = .ok (.aload_n 0, 1) := by decide +kernel
theorem dX7_seamOrCrack_95 : decode cX7_seamOrCrack 95 = .ok (.getfield 10, 3) := by decide +kernel
theorem dX7_seamOrCrack_98 : decode cX7_seamOrCrack 98 = .ok (.getfield 117, 3) := by decide +kernel
theorem dX7_seamOrCrack_101 : decode cX7_seamOrCrack 101 = .ok (.iload_n 3, 1) := by decide +kernel
theorem dX7_seamOrCrack_102 : decode cX7_seamOrCrack 102 = .ok (.iload 6, 2) := by decide +kernel
theorem dX7_seamOrCrack_104 : decode cX7_seamOrCrack 104 = .ok (.invokevirtual 190, 3) := by decide +kernel
theorem dX7_seamOrCrack_107 : decode cX7_seamOrCrack 107 = .ok (.istore 8, 2) := by decide +kernel
theorem dX7_seamOrCrack_109 : decode cX7_seamOrCrack 109 = .ok (.iload 7, 2) := by decide +kernel
theorem dX7_seamOrCrack_111 : decode cX7_seamOrCrack 111 = .ok (.iload 8, 2) := by decide +kernel
theorem dX7_seamOrCrack_113 : decode cX7_seamOrCrack 113 = .ok (.if_icmp .eq 6, 3) := by decide +kernel
theorem dX7_seamOrCrack_116 : decode cX7_seamOrCrack 116 = .ok (.iload 6, 2) := by decide +kernel
theorem dX7_seamOrCrack_118 : decode cX7_seamOrCrack 118 = .ok (.ireturn, 1) := by decide +kernel
theorem dX7_seamOrCrack_119 : decode cX7_seamOrCrack 119 = .ok (.iinc 6 1, 3) := by decide +kernel
theorem dX7_seamOrCrack_122 : decode cX7_seamOrCrack 122 = .ok (.goto (-62), 3) := by decide +kernel
theorem dX7_seamOrCrack_125 : decode cX7_seamOrCrack 125 = .ok (.bipush (-4), 2) := by decide +kernel
theorem dX7_seamOrCrack_127 : decode cX7_seamOrCrack 127 = .ok (.ireturn, 1) := by decide +kernel
theorem dX7_length_0 : decode cX7_length 0 = .ok (.aload_n 0, 1) := by decide +kernel
theorem dX7_length_1 : decode cX7_length 1 = .ok (.getfield 10, 3) := by decide +kernel
theorem dX7_length_4 : decode cX7_length 4 = .ok (.iload_n 1, 1) := by decide +kernel
theorem dX7_length_5 : decode cX7_length 5 = .ok (.invokevirtual 133, 3) := by decide +kernel
theorem dX7_length_8 : decode cX7_length 8 = .ok (.astore_n 3, 1) := by decide +kernel
theorem dX7_length_9 : decode cX7_length 9 = .ok (.aload_n 3, 1) := by decide +kernel
theorem dX7_length_10 : decode cX7_length 10 = .ok (.ifnull 12, 3) := by decide +kernel
theorem dX7_length_13 : decode cX7_length 13 = .ok (.iload_n 2, 1) := by decide +kernel
theorem dX7_length_14 : decode cX7_length 14 = .ok (.iconst 0, 1) := by decide +kernel
theorem dX7_length_15 : decode cX7_length 15 = .ok (.iconst 1, 1) := by decide +kernel
theorem dX7_length_16 : decode cX7_length 16 = .ok (.invokestatic 159, 3) := by decide +kernel
theorem dX7_length_19 : decode cX7_length 19 = .ok (.ifCond .ne 5, 3) := by decide +kernel
theorem dX7_length_22 : decode cX7_length 22 = .ok (.iconst (-1), 1) := by decide +kernel
theorem dX7_length_23 : decode cX7_length 23 = .ok (.ireturn, 1) := by decide +kernel
theorem dX7_length_24 : decode cX7_length 24 = .ok (.aload_n 0, 1) := by decide +kernel
theorem dX7_length_25 : decode cX7_length 25 = .ok (.aload_n 3, 1) := by decide +kernel
theorem dX7_length_26 : decode cX7_length 26 = .ok (.invokevirtual 268, 3) := by decide +kernel
theorem dX7_length_29 : decode cX7_length 29 = .ok (.iload_n 2, 1) := by decide +kernel
theorem dX7_length_30 : decode cX7_length 30 = .ok (.ifCond .ne 7, 3) := by decide +kernel
theorem dX7_length_33 : decode cX7_length 33 = .ok (.iconst 1, 1) := by decide +kernel
theorem dX7_length_34 : decode cX7_length 34 = .ok (.goto 4, 3) := by decide +kernel
theorem dX7_length_37 : decode cX7_length 37 = .ok (.iconst (-1), 1) := by decide +kernel
theorem dX7_length_38 : decode cX7_length 38 = .ok (.istore 4, 2) := by decide +kernel
theorem dX7_length_40 : decode cX7_length 40 = .ok (.iload_n 2, 1) := by decide +kernel
theorem dX7_length_41 : decode cX7_length 41 = .ok (.ifCond .ne 7, 3) := by decide +kernel
theorem dX7_length_44 : decode cX7_length 44 = .ok (.iconst 1, 1) := by decide +kernel
theorem dX7_length_45 : decode cX7_length 45 = .ok (.goto 6, 3) := by decide +kernel
theorem dX7_length_48 : decode cX7_length 48 = .ok (.sipush 999, 3) := by decide +kernel
theorem dX7_length_51 : decode cX7_length 51 = .ok (.istore 5, 2) := by decide +kernel
theorem dX7_length_53 : decode cX7_length 53 = .ok (.iconst 0, 1) := by decide +kernel
theorem dX7_length_54 : decode cX7_length 54 = .ok (.istore 6, 2) := by decide +kernel
theorem dX7_length_56 : decode cX7_length 56 = .ok (.iload 6, 2) := by decide +kernel
theorem dX7_length_58 : decode cX7_length 58 = .ok (.sipush 999, 3) := by decide +kernel
theorem dX7_length_61 : decode cX7_length 61 = .ok (.if_icmp .ge 29, 3) := by decide +kernel
theorem dX7_length_64 : decode cX7_length 64 = .ok (.aload_n 0, 1) := by decide +kernel
theorem dX7_length_65 : decode cX7_length 65 = .ok (.aload_n 3, 1) := by decide +kernel
theorem dX7_length_66 : decode cX7_length 66 = .ok (.iload 5, 2) := by decide +kernel
theorem dX7_length_68 : decode cX7_length 68 = .ok (.invokevirtual 272, 3) := by decide +kernel
theorem dX7_length_71 : decode cX7_length 71 = .ok (.ifCond .eq 6, 3) := by decide +kernel
theorem dX7_length_74 : decode cX7_length 74 = .ok (.iload 5, 2) := by decide +kernel
theorem dX7_length_76 : decode cX7_length 76 = .ok (.ireturn, 1) := by decide +kernel
theorem dX7_length_77 : decode cX7_length 77 = .ok (.iload 5, 2) := by decide +kernel
theorem dX7_length_79 : decode cX7_length 79 = .ok (.iload 4, 2) := by decide +kernel
theorem dX7_length_81 : decode cX7_length 81 = .ok (.iadd, 1) := by decide +kernel
theorem dX7_length_82 : decode cX7_length 82 = .ok (.istore 5, 2) := by decide +kernel
theorem dX7_length_84 : decode cX7_length 84 = .ok (.iinc 6 1, 3) := by decide +kernel
theorem dX7_length_87 : decode cX7_length 87 = .ok (.goto (-31), 3) := by decide +kernel
theorem dX7_length_90 : decode cX7_length 90 = .ok (.bipush (-4), 2) := by decide +kernel
theorem dX7_length_92 : decode cX7_length 92 = .ok (.ireturn, 1) := by decide +kernel
theorem dX7_swingsAtAsks_0 : decode cX7_swingsAtAsks 0 = .ok (.iconst 0, 1) := by decide +kernel
theorem dX7_swingsAtAsks_1 : decode cX7_swingsAtAsks 1 = .ok (.istore_n 2, 1) := by decide +kernel
theorem dX7_swingsAtAsks_2 : decode cX7_swingsAtAsks 2 = .ok (.iload_n 2, 1) := by decide +kernel
theorem dX7_swingsAtAsks_3 : decode cX7_swingsAtAsks 3 = .ok (.aload_n 0, 1) := by decide +kernel
theorem dX7_swingsAtAsks_4 : decode cX7_swingsAtAsks 4 = .ok (.getfield 10, 3) := by decide +kernel
theorem dX7_swingsAtAsks_7 : decode cX7_swingsAtAsks 7 = .ok (.getfield 203, 3) := by decide +kernel
theorem dX7_swingsAtAsks_10 : decode cX7_swingsAtAsks 10 = .ok (.if_icmp .ge 48, 3) := by decide +kernel
theorem dX7_swingsAtAsks_13 : decode cX7_swingsAtAsks 13 = .ok (.aload_n 0, 1) := by decide +kernel
theorem dX7_swingsAtAsks_14 : decode cX7_swingsAtAsks 14 = .ok (.getfield 10, 3) := by decide +kernel
theorem dX7_swingsAtAsks_17 : decode cX7_swingsAtAsks 17 = .ok (.iload_n 2, 1) := by decide +kernel
theorem dX7_swingsAtAsks_18 : decode cX7_swingsAtAsks 18 = .ok (.invokevirtual 276, 3) := by decide +kernel
theorem dX7_swingsAtAsks_21 : decode cX7_swingsAtAsks 21 = .ok (.astore_n 3, 1) := by decide +kernel
theorem dX7_swingsAtAsks_22 : decode cX7_swingsAtAsks 22 = .ok (.aload_n 3, 1) := by decide +kernel
theorem dX7_swingsAtAsks_23 : decode cX7_swingsAtAsks 23 = .ok (.ifnull 29, 3) := by decide +kernel
theorem dX7_swingsAtAsks_26 : decode cX7_swingsAtAsks 26 = .ok (.aload_n 0, 1) := by decide +kernel
theorem dX7_swingsAtAsks_27 : decode cX7_swingsAtAsks 27 = .ok (.getfield 55, 3) := by decide +kernel
theorem dX7_swingsAtAsks_30 : decode cX7_swingsAtAsks 30 = .ok (.iload_n 2, 1) := by decide +kernel
theorem dX7_swingsAtAsks_31 : decode cX7_swingsAtAsks 31 = .ok (.aload_n 0, 1) := by decide +kernel
theorem dX7_swingsAtAsks_32 : decode cX7_swingsAtAsks 32 = .ok (.getfield 10, 3) := by decide +kernel
theorem dX7_swingsAtAsks_35 : decode cX7_swingsAtAsks 35 = .ok (.aload_n 1, 1) := by decide +kernel
theorem dX7_swingsAtAsks_36 : decode cX7_swingsAtAsks 36 = .ok (.aload_n 3, 1) := by decide +kernel
theorem dX7_swingsAtAsks_37 : decode cX7_swingsAtAsks 37 = .ok (.getfield 280, 3) := by decide +kernel
theorem dX7_swingsAtAsks_40 : decode cX7_swingsAtAsks 40 = .ok (.aload_n 3, 1) := by decide +kernel
theorem dX7_swingsAtAsks_41 : decode cX7_swingsAtAsks 41 = .ok (.getfield 285, 3) := by decide +kernel
theorem dX7_swingsAtAsks_44 : decode cX7_swingsAtAsks 44 = .ok (.aload_n 3, 1) := by decide +kernel
theorem dX7_swingsAtAsks_45 : decode cX7_swingsAtAsks 45 = .ok (.getfield 288, 3) := by decide +kernel
theorem dX7_swingsAtAsks_48 : decode cX7_swingsAtAsks 48 = .ok (.invokevirtual 182, 3) := by decide +kernel
theorem dX7_swingsAtAsks_51 : decode cX7_swingsAtAsks 51 = .ok (.iastore, 1) := by decide +kernel
theorem dX7_swingsAtAsks_52 : decode cX7_swingsAtAsks 52 = .ok (.iinc 2 1, 3) := by decide +kernel
theorem dX7_swingsAtAsks_55 : decode cX7_swingsAtAsks 55 = .ok (.goto (-53), 3) := by decide +kernel
theorem dX7_swingsAtAsks_58 : decode cX7_swingsAtAsks 58 = .ok (.return_, 1) := by decide +kernel
theorem dX7_isGapFit_0 : decode cX7_isGapFit 0 = .ok (.iconst 0, 1) := by decide +kernel
theorem dX7_isGapFit_1 : decode cX7_isGapFit 1 = .ok (.istore_n 3, 1) := by decide +kernel
theorem dX7_isGapFit_2 : decode cX7_isGapFit 2 = .ok (.iload_n 3, 1) := by decide +kernel
theorem dX7_isGapFit_3 : decode cX7_isGapFit 3 = .ok (.aload_n 0, 1) := by decide +kernel
theorem dX7_isGapFit_4 : decode cX7_isGapFit 4 = .ok (.getfield 10, 3) := by decide +kernel
theorem dX7_isGapFit_7 : decode cX7_isGapFit 7 = .ok (.getfield 203, 3) := by decide +kernel
theorem dX7_isGapFit_10 : decode cX7_isGapFit 10 = .ok (.if_icmp .ge 62, 3) := by decide +kernel
theorem dX7_isGapFit_13 : decode cX7_isGapFit 13 = .ok (.aload_n 0, 1) := by decide +kernel
theorem dX7_isGapFit_14 : decode cX7_isGapFit 14 = .ok (.getfield 10, 3) := by decide +kernel
theorem dX7_isGapFit_17 : decode cX7_isGapFit 17 = .ok (.iload_n 3, 1) := by decide +kernel
theorem dX7_isGapFit_18 : decode cX7_isGapFit 18 = .ok (.invokevirtual 276, 3) := by decide +kernel
theorem dX7_isGapFit_21 : decode cX7_isGapFit 21 = .ok (.astore 4, 2) := by decide +kernel
theorem dX7_isGapFit_23 : decode cX7_isGapFit 23 = .ok (.aload 4, 2) := by decide +kernel
theorem dX7_isGapFit_25 : decode cX7_isGapFit 25 = .ok (.ifnull 41, 3) := by decide +kernel
theorem dX7_isGapFit_28 : decode cX7_isGapFit 28 = .ok (.aload_n 0, 1) := by decide +kernel
theorem dX7_isGapFit_29 : decode cX7_isGapFit 29 = .ok (.getfield 55, 3) := by decide +kernel
theorem dX7_isGapFit_32 : decode cX7_isGapFit 32 = .ok (.iload_n 3, 1) := by decide +kernel
theorem dX7_isGapFit_33 : decode cX7_isGapFit 33 = .ok (.iaload, 1) := by decide +kernel
theorem dX7_isGapFit_34 : decode cX7_isGapFit 34 = .ok (.aload_n 0, 1) := by decide +kernel
theorem dX7_isGapFit_35 : decode cX7_isGapFit 35 = .ok (.getfield 10, 3) := by decide +kernel
theorem dX7_isGapFit_38 : decode cX7_isGapFit 38 = .ok (.aload_n 1, 1) := by decide +kernel
theorem dX7_isGapFit_39 : decode cX7_isGapFit 39 = .ok (.iload_n 2, 1) := by decide +kernel
theorem dX7_isGapFit_40 : decode cX7_isGapFit 40 = .ok (.aload 4, 2) := by decide +kernel
theorem dX7_isGapFit_42 : decode cX7_isGapFit 42 = .ok (.getfield 280, 3) := by decide +kernel
theorem dX7_isGapFit_45 : decode cX7_isGapFit 45 = .ok (.invokevirtual 186, 3) := by decide +kernel
theorem dX7_isGapFit_48 : decode cX7_isGapFit 48 = .ok (.if_icmp .le 7, 3) := by decide +kernel
theorem dX7_isGapFit_51 : decode cX7_isGapFit 51 = .ok (.iconst 1, 1) := by decide +kernel
theorem dX7_isGapFit_52 : decode cX7_isGapFit 52 = .ok (.goto 4, 3) := by decide +kernel
theorem dX7_isGapFit_55 : decode cX7_isGapFit 55 = .ok (.iconst 0, 1) := by decide +kernel
theorem dX7_isGapFit_56 : decode cX7_isGapFit 56 = .ok (.aload 4, 2) := by decide +kernel
theorem dX7_isGapFit_58 : decode cX7_isGapFit 58 = .ok (.getfield 291, 3) := by decide +kernel
theorem dX7_isGapFit_61 : decode cX7_isGapFit 61 = .ok (.if_icmp .eq 5, 3) := by decide +kernel
theorem dX7_isGapFit_64 : decode cX7_isGapFit 64 = .ok (.iconst 0, 1) := by decide +kernel
theorem dX7_isGapFit_65 : decode cX7_isGapFit 65 = .ok (.ireturn, 1) := by decide +kernel
theorem dX7_isGapFit_66 : decode cX7_isGapFit 66 = .ok (.iinc 3 1, 3) := by decide +kernel
theorem dX7_isGapFit_69 : decode cX7_isGapFit 69 = .ok (.goto (-67), 3) := by decide +kernel
theorem dX7_isGapFit_72 : decode cX7_isGapFit 72 = .ok (.iconst 1, 1) := by decide +kernel
theorem dX7_isGapFit_73 : decode cX7_isGapFit 73 = .ok (.ireturn, 1) := by decide +kernel
theorem dX7_friday_0 : decode cX7_friday 0 = .ok (.aload_n 0, 1) := by decide +kernel
theorem dX7_friday_1 : decode cX7_friday 1 = .ok (.iload_n 1, 1) := by decide +kernel
theorem dX7_friday_2 : decode cX7_friday 2 = .ok (.iload_n 2, 1) := by decide +kernel
theorem dX7_friday_3 : decode cX7_friday 3 = .ok (.invokestatic 197, 3) := by decide +kernel
theorem dX7_friday_6 : decode cX7_friday 6 = .ok (.ifCond .eq 16, 3) := by decide +kernel
theorem dX7_friday_9 : decode cX7_friday 9 = .ok (.iload_n 3, 1) := by decide +kernel
theorem dX7_friday_10 : decode cX7_friday 10 = .ok (.iconst 0, 1) := by decide +kernel
theorem dX7_friday_11 : decode cX7_friday 11 = .ok (.iconst 1, 1) := by decide +kernel
theorem dX7_friday_12 : decode cX7_friday 12 = .ok (.invokestatic 159, 3) := by decide +kernel
theorem dX7_friday_15 : decode cX7_friday 15 = .ok (.ifCond .eq 7, 3) := by decide +kernel
theorem dX7_friday_18 : decode cX7_friday 18 = .ok (.iconst 1, 1) := by decide +kernel
theorem dX7_friday_19 : decode cX7_friday 19 = .ok (.goto 4, 3) := by decide +kernel
theorem dX7_friday_22 : decode cX7_friday 22 = .ok (.iconst 0, 1) := by decide +kernel
theorem dX7_friday_23 : decode cX7_friday 23 = .ok (.bipush 100, 2) := by decide +kernel
theorem dX7_friday_25 : decode cX7_friday 25 = .ok (.invokevirtual 236, 3) := by decide +kernel
theorem dX7_friday_28 : decode cX7_friday 28 = .ok (.istore 4, 2) := by decide +kernel
theorem dX7_friday_30 : decode cX7_friday 30 = .ok (.iload 4, 2) := by decide +kernel
theorem dX7_friday_32 : decode cX7_friday 32 = .ok (.ifCond .eq 6, 3) := by decide +kernel
theorem dX7_friday_35 : decode cX7_friday 35 = .ok (.iload 4, 2) := by decide +kernel
theorem dX7_friday_37 : decode cX7_friday 37 = .ok (.ireturn, 1) := by decide +kernel
theorem dX7_friday_38 : decode cX7_friday 38 = .ok (.aload_n 0, 1) := by decide +kernel
theorem dX7_friday_39 : decode cX7_friday 39 = .ok (.getfield 44, 3) := by decide +kernel
theorem dX7_friday_42 : decode cX7_friday 42 = .ok (.iload_n 1, 1) := by decide +kernel
theorem dX7_friday_43 : decode cX7_friday 43 = .ok (.aaload, 1) := by decide +kernel
theorem dX7_friday_44 : decode cX7_friday 44 = .ok (.astore 5, 2) := by decide +kernel
theorem dX7_friday_46 : decode cX7_friday 46 = .ok (.iconst 0, 1) := by decide +kernel
theorem dX7_friday_47 : decode cX7_friday 47 = .ok (.istore 6, 2) := by decide +kernel
theorem dX7_friday_49 : decode cX7_friday 49 = .ok (.iconst 0, 1) := by decide +kernel
theorem dX7_friday_50 : decode cX7_friday 50 = .ok (.istore 7, 2) := by decide +kernel
theorem dX7_friday_52 : decode cX7_friday 52 = .ok (.iload 7, 2) := by decide +kernel
theorem dX7_friday_54 : decode cX7_friday 54 = .ok (.aload 5, 2) := by decide +kernel
theorem dX7_friday_56 : decode cX7_friday 56 = .ok (.invokevirtual 253, 3) := by decide +kernel
theorem dX7_friday_59 : decode cX7_friday 59 = .ok (.if_icmp .ge 29, 3) := by decide +kernel
theorem dX7_friday_62 : decode cX7_friday 62 = .ok (.iload 6, 2) := by decide +kernel
theorem dX7_friday_64 : decode cX7_friday 64 = .ok (.aload_n 0, 1) := by decide +kernel
theorem dX7_friday_65 : decode cX7_friday 65 = .ok (.getfield 10, 3) := by decide +kernel
theorem dX7_friday_68 : decode cX7_friday 68 = .ok (.aload 5, 2) := by decide +kernel
theorem dX7_friday_70 : decode cX7_friday 70 = .ok (.iload 7, 2) := by decide +kernel
theorem dX7_friday_72 : decode cX7_friday 72 = .ok (.invokevirtual 256, 3) := by decide +kernel
theorem dX7_friday_75 : decode cX7_friday 75 = .ok (.iload_n 2, 1) := by decide +kernel
theorem dX7_friday_76 : decode cX7_friday 76 = .ok (.invokevirtual 194, 3) := by decide +kernel
theorem dX7_friday_79 : decode cX7_friday 79 = .ok (.ior, 1) := by decide +kernel
theorem dX7_friday_80 : decode cX7_friday 80 = .ok (.istore 6, 2) := by decide +kernel
theorem dX7_friday_82 : decode cX7_friday 82 = .ok (.iinc 7 1, 3) := by decide +kernel
theorem dX7_friday_85 : decode cX7_friday 85 = .ok (.goto (-33), 3) := by decide +kernel
theorem dX7_friday_88 : decode cX7_friday 88 = .ok (.iload_n 3, 1) := by decide +kernel
theorem dX7_friday_89 : decode cX7_friday 89 = .ok (.ifCond .ne 15, 3) := by decide +kernel
theorem dX7_friday_92 : decode cX7_friday 92 = .ok (.aload_n 0, 1) := by decide +kernel
theorem dX7_friday_93 : decode cX7_friday 93 = .ok (.getfield 10, 3) := by decide +kernel
theorem dX7_friday_96 : decode cX7_friday 96 = .ok (.iload 6, 2) := by decide +kernel
theorem dX7_friday_98 : decode cX7_friday 98 = .ok (.invokevirtual 295, 3) := by decide +kernel
theorem dX7_friday_101 : decode cX7_friday 101 = .ok (.goto 5, 3) := by decide +kernel
theorem dX7_friday_104 : decode cX7_friday 104 = .ok (.iload 6, 2) := by decide +kernel
theorem dX7_friday_106 : decode cX7_friday 106 = .ok (.ireturn, 1) := by decide +kernel
theorem dX7_wolf_0 : decode cX7_wolf 0 = .ok (.iload_n 1, 1) := by decide +kernel
theorem dX7_wolf_1 : decode cX7_wolf 1 = .ok (.iconst (-1), 1) := by decide +kernel
theorem dX7_wolf_2 : decode cX7_wolf 2 = .ok (.if_icmp .ge 5, 3) := by decide +kernel
theorem dX7_wolf_5 : decode cX7_wolf 5 = .ok (.iconst (-1), 1) := by decide +kernel
theorem dX7_wolf_6 : decode cX7_wolf 6 = .ok (.ireturn, 1) := by decide +kernel
theorem dX7_wolf_7 : decode cX7_wolf 7 = .ok (.iload_n 1, 1) := by decide +kernel
theorem dX7_wolf_8 : decode cX7_wolf 8 = .ok (.iconst (-1), 1) := by decide +kernel
theorem dX7_wolf_9 : decode cX7_wolf 9 = .ok (.if_icmp .ne 20, 3) := by decide +kernel
theorem dX7_wolf_12 : decode cX7_wolf 12 = .ok (.aload_n 0, 1) := by decide +kernel
theorem dX7_wolf_13 : decode cX7_wolf 13 = .ok (.getfield 10, 3) := by decide +kernel
theorem dX7_wolf_16 : decode cX7_wolf 16 = .ok (.aload_n 0, 1) := by decide +kernel
theorem dX7_wolf_17 : decode cX7_wolf 17 = .ok (.getfield 10, 3) := by decide +kernel
theorem dX7_wolf_20 : decode cX7_wolf 20 = .ok (.getfield 117, 3) := by decide +kernel
theorem dX7_wolf_23 : decode cX7_wolf 23 = .ok (.invokevirtual 298, 3) := by decide +kernel
theorem dX7_wolf_26 : decode cX7_wolf 26 = .ok (.goto 18, 3) := by decide +kernel
theorem dX7_wolf_29 : decode cX7_wolf 29 = .ok (.aload_n 0, 1) := by decide +kernel
theorem dX7_wolf_30 : decode cX7_wolf 30 = .ok (.getfield 10, 3) := by decide +kernel
theorem dX7_wolf_33 : decode cX7_wolf 33 = .ok (.iload_n 1, 1) := by decide +kernel
theorem dX7_wolf_34 : decode cX7_wolf 34 = .ok (.aload_n 0, 1) := by decide +kernel
theorem dX7_wolf_35 : decode cX7_wolf 35 = .ok (.getfield 10, 3) := by decide +kernel
theorem dX7_wolf_38 : decode cX7_wolf 38 = .ok (.getfield 117, 3) := by decide +kernel
theorem dX7_wolf_41 : decode cX7_wolf 41 = .ok (.invokevirtual 302, 3) := by decide +kernel
theorem dX7_wolf_44 : decode cX7_wolf 44 = .ok (.ireturn, 1) := by decide +kernel
theorem dX7_beats_0 : decode cX7_beats 0 = .ok (.iload_n 1, 1) := by decide +kernel
theorem dX7_beats_1 : decode cX7_beats 1 = .ok (.ifCond .ge 5, 3) := by decide +kernel
theorem dX7_beats_4 : decode cX7_beats 4 = .ok (.iconst (-1), 1) := by decide +kernel
theorem dX7_beats_5 : decode cX7_beats 5 = .ok (.ireturn, 1) := by decide +kernel
theorem dX7_beats_6 : decode cX7_beats 6 = .ok (.aload_n 0, 1) := by decide +kernel
theorem dX7_beats_7 : decode cX7_beats 7 = .ok (.getfield 10, 3) := by decide +kernel
theorem dX7_beats_10 : decode cX7_beats 10 = .ok (.iload_n 1, 1) := by decide +kernel
theorem dX7_beats_11 : decode cX7_beats 11 = .ok (.aload_n 0, 1) := by decide +kernel
theorem dX7_beats_12 : decode cX7_beats 12 = .ok (.getfield 10, 3) := by decide +kernel
theorem dX7_beats_15 : decode cX7_beats 15 = .ok (.getfield 117, 3) := by decide +kernel
theorem dX7_beats_18 : decode cX7_beats 18 = .ok (.invokevirtual 302, 3) := by decide +kernel
theorem dX7_beats_21 : decode cX7_beats 21 = .ok (.istore_n 2, 1) := by decide +kernel
theorem dX7_beats_22 : decode cX7_beats 22 = .ok (.iload_n 2, 1) := by decide +kernel
theorem dX7_beats_23 : decode cX7_beats 23 = .ok (.ifCond .ge 6, 3) := by decide +kernel
theorem dX7_beats_26 : decode cX7_beats 26 = .ok (.bipush (-4), 2) := by decide +kernel
theorem dX7_beats_28 : decode cX7_beats 28 = .ok (.ireturn, 1) := by decide +kernel
theorem dX7_beats_29 : decode cX7_beats 29 = .ok (.aload_n 0, 1) := by decide +kernel
theorem dX7_beats_30 : decode cX7_beats 30 = .ok (.getfield 10, 3) := by decide +kernel
theorem dX7_beats_33 : decode cX7_beats 33 = .ok (.iload_n 2, 1) := by decide +kernel
theorem dX7_beats_34 : decode cX7_beats 34 = .ok (.bipush 10, 2) := by decide +kernel
theorem dX7_beats_36 : decode cX7_beats 36 = .ok (.idiv, 1) := by decide +kernel
theorem dX7_beats_37 : decode cX7_beats 37 = .ok (.iload_n 2, 1) := by decide +kernel
theorem dX7_beats_38 : decode cX7_beats 38 = .ok (.bipush 10, 2) := by decide +kernel
theorem dX7_beats_40 : decode cX7_beats 40 = .ok (.irem, 1) := by decide +kernel
theorem dX7_beats_41 : decode cX7_beats 41 = .ok (.aload_n 0, 1) := by decide +kernel
theorem dX7_beats_42 : decode cX7_beats 42 = .ok (.getfield 10, 3) := by decide +kernel
theorem dX7_beats_45 : decode cX7_beats 45 = .ok (.getfield 117, 3) := by decide +kernel
theorem dX7_beats_48 : decode cX7_beats 48 = .ok (.invokevirtual 306, 3) := by decide +kernel
theorem dX7_beats_51 : decode cX7_beats 51 = .ok (.istore_n 3, 1) := by decide +kernel
theorem dX7_beats_52 : decode cX7_beats 52 = .ok (.iload_n 3, 1) := by decide +kernel
theorem dX7_beats_53 : decode cX7_beats 53 = .ok (.ifCond .gt 9, 3) := by decide +kernel
theorem dX7_beats_56 : decode cX7_beats 56 = .ok (.sipush 600, 3) := by decide +kernel
theorem dX7_beats_59 : decode cX7_beats 59 = .ok (.goto 8, 3) := by decide +kernel
theorem dX7_beats_62 : decode cX7_beats 62 = .ok (.sipush 600, 3) := by decide +kernel
theorem dX7_beats_65 : decode cX7_beats 65 = .ok (.iload_n 3, 1) := by decide +kernel
theorem dX7_beats_66 : decode cX7_beats 66 = .ok (.idiv, 1) := by decide +kernel
theorem dX7_beats_67 : decode cX7_beats 67 = .ok (.ireturn, 1) := by decide +kernel
theorem dX7_ends_0 : decode cX7_ends 0 = .ok (.iload_n 1, 1) := by decide +kernel
theorem dX7_ends_1 : decode cX7_ends 1 = .ok (.iconst 0, 1) := by decide +kernel
theorem dX7_ends_2 : decode cX7_ends 2 = .ok (.iconst 1, 1) := by decide +kernel
theorem dX7_ends_3 : decode cX7_ends 3 = .ok (.invokestatic 159, 3) := by decide +kernel
theorem dX7_ends_6 : decode cX7_ends 6 = .ok (.ifCond .ne 5, 3) := by decide +kernel
theorem dX7_ends_9 : decode cX7_ends 9 = .ok (.iconst (-1), 1) := by decide +kernel
theorem dX7_ends_10 : decode cX7_ends 10 = .ok (.ireturn, 1) := by decide +kernel
theorem dX7_ends_11 : decode cX7_ends 11 = .ok (.aload_n 0, 1) := by decide +kernel
theorem dX7_ends_12 : decode cX7_ends 12 = .ok (.getfield 10, 3) := by decide +kernel
theorem dX7_ends_15 : decode cX7_ends 15 = .ok (.getfield 262, 3) := by decide +kernel
theorem dX7_ends_18 : decode cX7_ends 18 = .ok (.ifCond .ne 6, 3) := by decide +kernel
theorem dX7_ends_21 : decode cX7_ends 21 = .ok (.bipush (-3), 2) := by decide +kernel
theorem dX7_ends_23 : decode cX7_ends 23 = .ok (.ireturn, 1) := by decide +kernel
theorem dX7_ends_24 : decode cX7_ends 24 = .ok (.iconst 0, 1) := by decide +kernel
theorem dX7_ends_25 : decode cX7_ends 25 = .ok (.istore_n 2, 1) := by decide +kernel
theorem dX7_ends_26 : decode cX7_ends 26 = .ok (.iload_n 2, 1) := by decide +kernel
theorem dX7_ends_27 : decode cX7_ends 27 = .ok (.bipush 20, 2) := by decide +kernel
theorem dX7_ends_29 : decode cX7_ends 29 = .ok (.if_icmp .gt 75, 3) := by decide +kernel
theorem dX7_ends_32 : decode cX7_ends 32 = .ok (.iconst 0, 1) := by decide +kernel
theorem dX7_ends_33 : decode cX7_ends 33 = .ok (.istore_n 3, 1) := by decide +kernel
theorem dX7_ends_34 : decode cX7_ends 34 = .ok (.iload_n 3, 1) := by decide +kernel
theorem dX7_ends_35 : decode cX7_ends 35 = .ok (.aload_n 0, 1) := by decide +kernel
theorem dX7_ends_36 : decode cX7_ends 36 = .ok (.getfield 10, 3) := by decide +kernel
theorem dX7_ends_39 : decode cX7_ends 39 = .ok (.getfield 262, 3) := by decide +kernel
theorem dX7_ends_42 : decode cX7_ends 42 = .ok (.if_icmp .ge 56, 3) := by decide +kernel
theorem dX7_ends_45 : decode cX7_ends 45 = .ok (.aload_n 0, 1) := by decide +kernel
theorem dX7_ends_46 : decode cX7_ends 46 = .ok (.getfield 32, 3) := by decide +kernel
theorem dX7_ends_49 : decode cX7_ends 49 = .ok (.aload_n 0, 1) := by decide +kernel
theorem dX7_ends_50 : decode cX7_ends 50 = .ok (.getfield 10, 3) := by decide +kernel
theorem dX7_ends_53 : decode cX7_ends 53 = .ok (.getfield 117, 3) := by decide +kernel
theorem dX7_ends_56 : decode cX7_ends 56 = .ok (.invokevirtual 310, 3) := by decide +kernel
theorem dX7_ends_59 : decode cX7_ends 59 = .ok (.aload_n 0, 1) := by decide +kernel
theorem dX7_ends_60 : decode cX7_ends 60 = .ok (.getfield 32, 3) := by decide +kernel
theorem dX7_ends_63 : decode cX7_ends 63 = .ok (.iload_n 3, 1) := by decide +kernel
theorem dX7_ends_64 : decode cX7_ends 64 = .ok (.iload_n 2, 1) := by decide +kernel
theorem dX7_ends_65 : decode cX7_ends 65 = .ok (.invokevirtual 163, 3) := by decide +kernel
theorem dX7_ends_68 : decode cX7_ends 68 = .ok (.aload_n 0, 1) := by decide +kernel
theorem dX7_ends_69 : decode cX7_ends 69 = .ok (.getfield 10, 3) := by decide +kernel
theorem dX7_ends_72 : decode cX7_ends 72 = .ok (.aload_n 0, 1) := by decide +kernel
theorem dX7_ends_73 : decode cX7_ends 73 = .ok (.getfield 32, 3) := by decide +kernel
theorem dX7_ends_76 : decode cX7_ends 76 = .ok (.invokevirtual 298, 3) := by decide +kernel
theorem dX7_ends_79 : decode cX7_ends 79 = .ok (.ifCond .ne 13, 3) := by decide +kernel
theorem dX7_ends_82 : decode cX7_ends 82 = .ok (.iload_n 1, 1) := by decide +kernel
theorem dX7_ends_83 : decode cX7_ends 83 = .ok (.ifCond .ne 7, 3) := by decide +kernel
theorem dX7_ends_86 : decode cX7_ends 86 = .ok (.iload_n 2, 1) := by decide +kernel
theorem dX7_ends_87 : decode cX7_ends 87 = .ok (.goto 4, 3) := by decide +kernel
theorem dX7_ends_90 : decode cX7_ends 90 = .ok (.iload_n 3, 1) := by decide +kernel
theorem dX7_ends_91 : decode cX7_ends 91 = .ok (.ireturn, 1) := by decide +kernel
theorem dX7_ends_92 : decode cX7_ends 92 = .ok (.iinc 3 1, 3) := by decide +kernel
theorem dX7_ends_95 : decode cX7_ends 95 = .ok (.goto (-61), 3) := by decide +kernel
theorem dX7_ends_98 : decode cX7_ends 98 = .ok (.iinc 2 1, 3) := by decide +kernel
theorem dX7_ends_101 : decode cX7_ends 101 = .ok (.goto (-75), 3) := by decide +kernel
theorem dX7_ends_104 : decode cX7_ends 104 = .ok (.bipush (-4), 2) := by decide +kernel
theorem dX7_ends_106 : decode cX7_ends 106 = .ok (.ireturn, 1) := by decide +kernel
theorem dX7_rattles_0 : decode cX7_rattles 0 = .ok (.aload_n 0, 1) := by decide +kernel
theorem dX7_rattles_1 : decode cX7_rattles 1 = .ok (.iload_n 1, 1) := by decide +kernel
theorem dX7_rattles_2 : decode cX7_rattles 2 = .ok (.iload_n 2, 1) := by decide +kernel
theorem dX7_rattles_3 : decode cX7_rattles 3 = .ok (.invokestatic 197, 3) := by decide +kernel
theorem dX7_rattles_6 : decode cX7_rattles 6 = .ok (.ifCond .eq 16, 3) := by decide +kernel
theorem dX7_rattles_9 : decode cX7_rattles 9 = .ok (.iload_n 3, 1) := by decide +kernel
theorem dX7_rattles_10 : decode cX7_rattles 10 = .ok (.iconst 0, 1) := by decide +kernel
theorem dX7_rattles_11 : decode cX7_rattles 11 = .ok (.iconst 1, 1) := by decide +kernel
theorem dX7_rattles_12 : decode cX7_rattles 12 = .ok (.invokestatic 159, 3) := by decide +kernel
theorem dX7_rattles_15 : decode cX7_rattles 15 = .ok (.ifCond .eq 7, 3) := by decide +kernel
theorem dX7_rattles_18 : decode cX7_rattles 18 = .ok (.iconst 1, 1) := by decide +kernel
theorem dX7_rattles_19 : decode cX7_rattles 19 = .ok (.goto 4, 3) := by decide +kernel
theorem dX7_rattles_22 : decode cX7_rattles 22 = .ok (.iconst 0, 1) := by decide +kernel
theorem dX7_rattles_23 : decode cX7_rattles 23 = .ok (.bipush 10, 2) := by decide +kernel
theorem dX7_rattles_25 : decode cX7_rattles 25 = .ok (.invokevirtual 236, 3) := by decide +kernel
theorem dX7_rattles_28 : decode cX7_rattles 28 = .ok (.istore 4, 2) := by decide +kernel
theorem dX7_rattles_30 : decode cX7_rattles 30 = .ok (.iload 4, 2) := by decide +kernel
theorem dX7_rattles_32 : decode cX7_rattles 32 = .ok (.ifCond .eq 6, 3) := by decide +kernel
theorem dX7_rattles_35 : decode cX7_rattles 35 = .ok (.iload 4, 2) := by decide +kernel
theorem dX7_rattles_37 : decode cX7_rattles 37 = .ok (.ireturn, 1) := by decide +kernel
theorem dX7_rattles_38 : decode cX7_rattles 38 = .ok (.aload_n 0, 1) := by decide +kernel
theorem dX7_rattles_39 : decode cX7_rattles 39 = .ok (.aload_n 0, 1) := by decide +kernel
theorem dX7_rattles_40 : decode cX7_rattles 40 = .ok (.getfield 44, 3) := by decide +kernel
theorem dX7_rattles_43 : decode cX7_rattles 43 = .ok (.iload_n 1, 1) := by decide +kernel
theorem dX7_rattles_44 : decode cX7_rattles 44 = .ok (.aaload, 1) := by decide +kernel
theorem dX7_rattles_45 : decode cX7_rattles 45 = .ok (.iload_n 2, 1) := by decide +kernel
theorem dX7_rattles_46 : decode cX7_rattles 46 = .ok (.invokevirtual 240, 3) := by decide +kernel
theorem dX7_rattles_49 : decode cX7_rattles 49 = .ok (.istore 5, 2) := by decide +kernel
theorem dX7_rattles_51 : decode cX7_rattles 51 = .ok (.iconst 1, 1) := by decide +kernel
theorem dX7_rattles_52 : decode cX7_rattles 52 = .ok (.iload 5, 2) := by decide +kernel
theorem dX7_rattles_54 : decode cX7_rattles 54 = .ok (.ishl, 1) := by decide +kernel
theorem dX7_rattles_55 : decode cX7_rattles 55 = .ok (.iconst 1, 1) := by decide +kernel
theorem dX7_rattles_56 : decode cX7_rattles 56 = .ok (.isub, 1) := by decide +kernel
theorem dX7_rattles_57 : decode cX7_rattles 57 = .ok (.istore 6, 2) := by decide +kernel
theorem dX7_rattles_59 : decode cX7_rattles 59 = .ok (.aload_n 0, 1) := by decide +kernel
theorem dX7_rattles_60 : decode cX7_rattles 60 = .ok (.iload 6, 2) := by decide +kernel
theorem dX7_rattles_62 : decode cX7_rattles 62 = .ok (.invokevirtual 313, 3) := by decide +kernel
theorem dX7_rattles_65 : decode cX7_rattles 65 = .ok (.istore 7, 2) := by decide +kernel
theorem dX7_rattles_67 : decode cX7_rattles 67 = .ok (.iload 6, 2) := by decide +kernel
theorem dX7_rattles_69 : decode cX7_rattles 69 = .ok (.istore 8, 2) := by decide +kernel
theorem dX7_rattles_71 : decode cX7_rattles 71 = .ok (.iload 6, 2) := by decide +kernel
theorem dX7_rattles_73 : decode cX7_rattles 73 = .ok (.iconst 1, 1) := by decide +kernel
theorem dX7_rattles_74 : decode cX7_rattles 74 = .ok (.isub, 1) := by decide +kernel
theorem dX7_rattles_75 : decode cX7_rattles 75 = .ok (.istore 9, 2) := by decide +kernel
theorem dX7_rattles_77 : decode cX7_rattles 77 = .ok (.iload 9, 2) := by decide +kernel
theorem dX7_rattles_79 : decode cX7_rattles 79 = .ok (.ifCond .lt 37, 3) := by decide +kernel
theorem dX7_rattles_82 : decode cX7_rattles 82 = .ok (.iload 9, 2) := by decide +kernel
theorem dX7_rattles_84 : decode cX7_rattles 84 = .ok (.invokestatic 316, 3) := by decide +kernel
theorem dX7_rattles_87 : decode cX7_rattles 87 = .ok (.iload 8, 2) := by decide +kernel
theorem dX7_rattles_89 : decode cX7_rattles 89 = .ok (.invokestatic 316, 3) := by decide +kernel
theorem dX7_rattles_92 : decode cX7_rattles 92 = .ok (.if_icmp .gt 18, 3) := by decide +kernel
theorem dX7_rattles_95 : decode cX7_rattles 95 = .ok (.aload_n 0, 1) := by decide +kernel
theorem dX7_rattles_96 : decode cX7_rattles 96 = .ok (.iload 9, 2) := by decide +kernel
theorem dX7_rattles_98 : decode cX7_rattles 98 = .ok (.invokevirtual 313, 3) := by decide +kernel
theorem dX7_rattles_101 : decode cX7_rattles 101 = .ok (.iload 7, 2) := by decide +kernel
theorem dX7_rattles_103 : decode cX7_rattles 103 = .ok (.if_icmp .ne 7, 3) := by decide +kernel
theorem dX7_rattles_106 : decode cX7_rattles 106 = .ok (.iload 9, 2) := by decide +kernel
theorem dX7_rattles_108 : decode cX7_rattles 108 = .ok (.istore 8, 2) := by decide +kernel
theorem dX7_rattles_110 : decode cX7_rattles 110 = .ok (.iinc 9 (-1), 3) := by decide +kernel
theorem dX7_rattles_113 : decode cX7_rattles 113 = .ok (.goto (-36), 3) := by decide +kernel
theorem dX7_rattles_116 : decode cX7_rattles 116 = .ok (.iload_n 3, 1) := by decide +kernel
theorem dX7_rattles_117 : decode cX7_rattles 117 = .ok (.ifCond .ne 11, 3) := by decide +kernel
theorem dX7_rattles_120 : decode cX7_rattles 120 = .ok (.iload 8, 2) := by decide +kernel
theorem dX7_rattles_122 : decode cX7_rattles 122 = .ok (.invokestatic 316, 3) := by decide +kernel
theorem dX7_rattles_125 : decode cX7_rattles 125 = .ok (.goto 5, 3) := by decide +kernel
theorem dX7_rattles_128 : decode cX7_rattles 128 = .ok (.iload 8, 2) := by decide +kernel
theorem dX7_rattles_130 : decode cX7_rattles 130 = .ok (.ireturn, 1) := by decide +kernel
theorem dX7_buzzingAtSome_0 : decode cX7_buzzingAtSome 0 = .ok (.iconst 0, 1) := by decide +kernel
theorem dX7_buzzingAtSome_1 : decode cX7_buzzingAtSome 1 = .ok (.istore_n 2, 1) := by decide +kernel
theorem dX7_buzzingAtSome_2 : decode cX7_buzzingAtSome 2 = .ok (.iconst 0, 1) := by decide +kernel
theorem dX7_buzzingAtSome_3 : decode cX7_buzzingAtSome 3 = .ok (.istore_n 3, 1) := by decide +kernel
theorem dX7_buzzingAtSome_4 : decode cX7_buzzingAtSome 4 = .ok (.iload_n 3, 1) := by decide +kernel
theorem dX7_buzzingAtSome_5 : decode cX7_buzzingAtSome 5 = .ok (.aload_n 0, 1) := by decide +kernel
theorem dX7_buzzingAtSome_6 : decode cX7_buzzingAtSome 6 = .ok (.getfield 48, 3) := by decide +kernel
theorem dX7_buzzingAtSome_9 : decode cX7_buzzingAtSome 9 = .ok (.arraylength, 1) := by decide +kernel
theorem dX7_buzzingAtSome_10 : decode cX7_buzzingAtSome 10 = .ok (.if_icmp .ge 26, 3) := by decide +kernel
theorem dX7_buzzingAtSome_13 : decode cX7_buzzingAtSome 13 = .ok (.iload_n 1, 1) := by decide +kernel
theorem dX7_buzzingAtSome_14 : decode cX7_buzzingAtSome 14 = .ok (.iload_n 3, 1) := by decide +kernel
theorem dX7_buzzingAtSome_15 : decode cX7_buzzingAtSome 15 = .ok (.ishr, 1) := by decide +kernel
theorem dX7_buzzingAtSome_16 : decode cX7_buzzingAtSome 16 = .ok (.iconst 1, 1) := by decide +kernel
theorem dX7_buzzingAtSome_17 : decode cX7_buzzingAtSome 17 = .ok (.iand, 1) := by decide +kernel
theorem dX7_buzzingAtSome_18 : decode cX7_buzzingAtSome 18 = .ok (.ifCond .eq 12, 3) := by decide +kernel
theorem dX7_buzzingAtSome_21 : decode cX7_buzzingAtSome 21 = .ok (.iload_n 2, 1) := by decide +kernel
theorem dX7_buzzingAtSome_22 : decode cX7_buzzingAtSome 22 = .ok (.aload_n 0, 1) := by decide +kernel
theorem dX7_buzzingAtSome_23 : decode cX7_buzzingAtSome 23 = .ok (.getfield 48, 3) := by decide +kernel
theorem dX7_buzzingAtSome_26 : decode cX7_buzzingAtSome 26 = .ok (.iload_n 3, 1) := by decide +kernel
theorem dX7_buzzingAtSome_27 : decode cX7_buzzingAtSome 27 = .ok (.iaload, 1) := by decide +kernel
theorem dX7_buzzingAtSome_28 : decode cX7_buzzingAtSome 28 = .ok (.ior, 1) := by decide +kernel
theorem dX7_buzzingAtSome_29 : decode cX7_buzzingAtSome 29 = .ok (.istore_n 2, 1) := by decide +kernel
theorem dX7_buzzingAtSome_30 : decode cX7_buzzingAtSome 30 = .ok (.iinc 3 1, 3) := by decide +kernel
theorem dX7_buzzingAtSome_33 : decode cX7_buzzingAtSome 33 = .ok (.goto (-29), 3) := by decide +kernel
theorem dX7_buzzingAtSome_36 : decode cX7_buzzingAtSome 36 = .ok (.iload_n 2, 1) := by decide +kernel
theorem dX7_buzzingAtSome_37 : decode cX7_buzzingAtSome 37 = .ok (.ireturn, 1) := by decide +kernel
theorem dX7_harm_0 : decode cX7_harm 0 = .ok (.iload_n 1, 1) := by decide +kernel
theorem dX7_harm_1 : decode cX7_harm 1 = .ok (.iconst 0, 1) := by decide +kernel
theorem dX7_harm_2 : decode cX7_harm 2 = .ok (.bipush 20, 2) := by decide +kernel
theorem dX7_harm_4 : decode cX7_harm 4 = .ok (.invokestatic 159, 3) := by decide +kernel
theorem dX7_harm_7 : decode cX7_harm 7 = .ok (.ifCond .ne 5, 3) := by decide +kernel
theorem dX7_harm_10 : decode cX7_harm 10 = .ok (.iconst (-1), 1) := by decide +kernel
theorem dX7_harm_11 : decode cX7_harm 11 = .ok (.ireturn, 1) := by decide +kernel
theorem dX7_harm_12 : decode cX7_harm 12 = .ok (.aload_n 0, 1) := by decide +kernel
theorem dX7_harm_13 : decode cX7_harm 13 = .ok (.getfield 32, 3) := by decide +kernel
theorem dX7_harm_16 : decode cX7_harm 16 = .ok (.aload_n 0, 1) := by decide +kernel
theorem dX7_harm_17 : decode cX7_harm 17 = .ok (.getfield 10, 3) := by decide +kernel
theorem dX7_harm_20 : decode cX7_harm 20 = .ok (.getfield 117, 3) := by decide +kernel
theorem dX7_harm_23 : decode cX7_harm 23 = .ok (.invokevirtual 310, 3) := by decide +kernel
theorem dX7_harm_26 : decode cX7_harm 26 = .ok (.aload_n 0, 1) := by decide +kernel
theorem dX7_harm_27 : decode cX7_harm 27 = .ok (.getfield 32, 3) := by decide +kernel
theorem dX7_harm_30 : decode cX7_harm 30 = .ok (.bipush 20, 2) := by decide +kernel
theorem dX7_harm_32 : decode cX7_harm 32 = .ok (.aload_n 0, 1) := by decide +kernel
theorem dX7_harm_33 : decode cX7_harm 33 = .ok (.getfield 10, 3) := by decide +kernel
theorem dX7_harm_36 : decode cX7_harm 36 = .ok (.getfield 117, 3) := by decide +kernel
theorem dX7_harm_39 : decode cX7_harm 39 = .ok (.getfield 321, 3) := by decide +kernel
theorem dX7_harm_42 : decode cX7_harm 42 = .ok (.iload_n 1, 1) := by decide +kernel
theorem dX7_harm_43 : decode cX7_harm 43 = .ok (.iadd, 1) := by decide +kernel
theorem dX7_harm_44 : decode cX7_harm 44 = .ok (.invokestatic 250, 3) := by decide +kernel
theorem dX7_harm_47 : decode cX7_harm 47 = .ok (.putfield 321, 3) := by decide +kernel
theorem dX7_harm_50 : decode cX7_harm 50 = .ok (.aload_n 0, 1) := by decide +kernel
theorem dX7_harm_51 : decode cX7_harm 51 = .ok (.getfield 10, 3) := by decide +kernel
theorem dX7_harm_54 : decode cX7_harm 54 = .ok (.aload_n 0, 1) := by decide +kernel
theorem dX7_harm_55 : decode cX7_harm 55 = .ok (.getfield 10, 3) := by decide +kernel
theorem dX7_harm_58 : decode cX7_harm 58 = .ok (.getfield 117, 3) := by decide +kernel
theorem dX7_harm_61 : decode cX7_harm 61 = .ok (.invokevirtual 324, 3) := by decide +kernel
theorem dX7_harm_64 : decode cX7_harm 64 = .ok (.aload_n 0, 1) := by decide +kernel
theorem dX7_harm_65 : decode cX7_harm 65 = .ok (.getfield 10, 3) := by decide +kernel
theorem dX7_harm_68 : decode cX7_harm 68 = .ok (.aload_n 0, 1) := by decide +kernel
theorem dX7_harm_69 : decode cX7_harm 69 = .ok (.getfield 32, 3) := by decide +kernel
theorem dX7_harm_72 : decode cX7_harm 72 = .ok (.invokevirtual 324, 3) := by decide +kernel
theorem dX7_harm_75 : decode cX7_harm 75 = .ok (.isub, 1) := by decide +kernel
theorem dX7_harm_76 : decode cX7_harm 76 = .ok (.ireturn, 1) := by decide +kernel
theorem dX7_hair_0 : decode cX7_hair 0 = .ok (.aload_n 0, 1) := by decide +kernel
theorem dX7_hair_1 : decode cX7_hair 1 = .ok (.getfield 10, 3) := by decide +kernel
theorem dX7_hair_4 : decode cX7_hair 4 = .ok (.iload_n 1, 1) := by decide +kernel
theorem dX7_hair_5 : decode cX7_hair 5 = .ok (.invokevirtual 155, 3) := by decide +kernel
theorem dX7_hair_8 : decode cX7_hair 8 = .ok (.ifCond .eq 23, 3) := by decide +kernel
theorem dX7_hair_11 : decode cX7_hair 11 = .ok (.iload_n 2, 1) := by decide +kernel
theorem dX7_hair_12 : decode cX7_hair 12 = .ok (.iload_n 3, 1) := by decide +kernel
theorem dX7_hair_13 : decode cX7_hair 13 = .ok (.invokestatic 175, 3) := by decide +kernel
theorem dX7_hair_16 : decode cX7_hair 16 = .ok (.ifCond .eq 15, 3) := by decide +kernel
theorem dX7_hair_19 : decode cX7_hair 19 = .ok (.iload 4, 2) := by decide +kernel
theorem dX7_hair_21 : decode cX7_hair 21 = .ok (.bipush (-18), 2) := by decide +kernel
theorem dX7_hair_23 : decode cX7_hair 23 = .ok (.bipush 18, 2) := by decide +kernel
theorem dX7_hair_25 : decode cX7_hair 25 = .ok (.invokestatic 159, 3) := by decide +kernel
theorem dX7_hair_28 : decode cX7_hair 28 = .ok (.ifCond .ne 6, 3) := by decide +kernel
theorem dX7_hair_31 : decode cX7_hair 31 = .ok (.ldc 167, 2) := by decide +kernel
theorem dX7_hair_33 : decode cX7_hair 33 = .ok (.ireturn, 1) := by decide +kernel
theorem dX7_hair_34 : decode cX7_hair 34 = .ok (.aload_n 0, 1) := by decide +kernel
theorem dX7_hair_35 : decode cX7_hair 35 = .ok (.getfield 10, 3) := by decide +kernel
theorem dX7_hair_38 : decode cX7_hair 38 = .ok (.getfield 117, 3) := by decide +kernel
theorem dX7_hair_41 : decode cX7_hair 41 = .ok (.getfield 327, 3) := by decide +kernel
theorem dX7_hair_44 : decode cX7_hair 44 = .ok (.iload 4, 2) := by decide +kernel
theorem dX7_hair_46 : decode cX7_hair 46 = .ok (.iadd, 1) := by decide +kernel
theorem dX7_hair_47 : decode cX7_hair 47 = .ok (.istore 5, 2) := by decide +kernel
theorem dX7_hair_49 : decode cX7_hair 49 = .ok (.iload 5, 2) := by decide +kernel
theorem dX7_hair_51 : decode cX7_hair 51 = .ok (.bipush (-9), 2) := by decide +kernel
theorem dX7_hair_53 : decode cX7_hair 53 = .ok (.bipush 9, 2) := by decide +kernel
theorem dX7_hair_55 : decode cX7_hair 55 = .ok (.invokestatic 159, 3) := by decide +kernel
theorem dX7_hair_58 : decode cX7_hair 58 = .ok (.ifCond .ne 7, 3) := by decide +kernel
theorem dX7_hair_61 : decode cX7_hair 61 = .ok (.ldc_w 330, 3) := by decide +kernel
theorem dX7_hair_64 : decode cX7_hair 64 = .ok (.ireturn, 1) := by decide +kernel
theorem dX7_hair_65 : decode cX7_hair 65 = .ok (.aload_n 0, 1) := by decide +kernel
theorem dX7_hair_66 : decode cX7_hair 66 = .ok (.getfield 32, 3) := by decide +kernel
theorem dX7_hair_69 : decode cX7_hair 69 = .ok (.aload_n 0, 1) := by decide +kernel
theorem dX7_hair_70 : decode cX7_hair 70 = .ok (.getfield 10, 3) := by decide +kernel
theorem dX7_hair_73 : decode cX7_hair 73 = .ok (.getfield 117, 3) := by decide +kernel
theorem dX7_hair_76 : decode cX7_hair 76 = .ok (.invokevirtual 310, 3) := by decide +kernel
theorem dX7_hair_79 : decode cX7_hair 79 = .ok (.aload_n 0, 1) := by decide +kernel
theorem dX7_hair_80 : decode cX7_hair 80 = .ok (.getfield 32, 3) := by decide +kernel
theorem dX7_hair_83 : decode cX7_hair 83 = .ok (.iload 5, 2) := by decide +kernel
theorem dX7_hair_85 : decode cX7_hair 85 = .ok (.putfield 327, 3) := by decide +kernel
theorem dX7_hair_88 : decode cX7_hair 88 = .ok (.aload_n 0, 1) := by decide +kernel
theorem dX7_hair_89 : decode cX7_hair 89 = .ok (.getfield 10, 3) := by decide +kernel
theorem dX7_hair_92 : decode cX7_hair 92 = .ok (.iload_n 1, 1) := by decide +kernel
theorem dX7_hair_93 : decode cX7_hair 93 = .ok (.aload_n 0, 1) := by decide +kernel
theorem dX7_hair_94 : decode cX7_hair 94 = .ok (.getfield 32, 3) := by decide +kernel
theorem dX7_hair_97 : decode cX7_hair 97 = .ok (.iload_n 2, 1) := by decide +kernel
theorem dX7_hair_98 : decode cX7_hair 98 = .ok (.iload_n 3, 1) := by decide +kernel
theorem dX7_hair_99 : decode cX7_hair 99 = .ok (.invokevirtual 178, 3) := by decide +kernel
theorem dX7_hair_102 : decode cX7_hair 102 = .ok (.aload_n 0, 1) := by decide +kernel
theorem dX7_hair_103 : decode cX7_hair 103 = .ok (.getfield 10, 3) := by decide +kernel
theorem dX7_hair_106 : decode cX7_hair 106 = .ok (.iload_n 1, 1) := by decide +kernel
theorem dX7_hair_107 : decode cX7_hair 107 = .ok (.aload_n 0, 1) := by decide +kernel
theorem dX7_hair_108 : decode cX7_hair 108 = .ok (.getfield 10, 3) := by decide +kernel
theorem dX7_hair_111 : decode cX7_hair 111 = .ok (.getfield 117, 3) := by decide +kernel
theorem dX7_hair_114 : decode cX7_hair 114 = .ok (.iload_n 2, 1) := by decide +kernel
theorem dX7_hair_115 : decode cX7_hair 115 = .ok (.iload_n 3, 1) := by decide +kernel
theorem dX7_hair_116 : decode cX7_hair 116 = .ok (.invokevirtual 178, 3) := by decide +kernel
theorem dX7_hair_119 : decode cX7_hair 119 = .ok (.isub, 1) := by decide +kernel
theorem dX7_hair_120 : decode cX7_hair 120 = .ok (.ireturn, 1) := by decide +kernel
theorem dX7_judge_0 : decode cX7_judge 0 = .ok (.aload_n 0, 1) := by decide +kernel
theorem dX7_judge_1 : decode cX7_judge 1 = .ok (.getfield 10, 3) := by decide +kernel
theorem dX7_judge_4 : decode cX7_judge 4 = .ok (.iload_n 1, 1) := by decide +kernel
theorem dX7_judge_5 : decode cX7_judge 5 = .ok (.invokevirtual 155, 3) := by decide +kernel
theorem dX7_judge_8 : decode cX7_judge 8 = .ok (.ifCond .eq 10, 3) := by decide +kernel
theorem dX7_judge_11 : decode cX7_judge 11 = .ok (.iload_n 2, 1) := by decide +kernel
theorem dX7_judge_12 : decode cX7_judge 12 = .ok (.invokestatic 197, 3) := by decide +kernel
theorem dX7_judge_15 : decode cX7_judge 15 = .ok (.ifCond .ne 5, 3) := by decide +kernel
theorem dX7_judge_18 : decode cX7_judge 18 = .ok (.iconst (-1), 1) := by decide +kernel
theorem dX7_judge_19 : decode cX7_judge 19 = .ok (.ireturn, 1) := by decide +kernel
theorem dX7_judge_20 : decode cX7_judge 20 = .ok (.aload_n 0, 1) := by decide +kernel
theorem dX7_judge_21 : decode cX7_judge 21 = .ok (.iload_n 3, 1) := by decide +kernel
theorem dX7_judge_22 : decode cX7_judge 22 = .ok (.invokevirtual 58, 3) := by decide +kernel
theorem dX7_judge_25 : decode cX7_judge 25 = .ok (.istore 4, 2) := by decide +kernel
theorem dX7_judge_27 : decode cX7_judge 27 = .ok (.iload 4, 2) := by decide +kernel
theorem dX7_judge_29 : decode cX7_judge 29 = .ok (.ifCond .eq 6, 3) := by decide +kernel
theorem dX7_judge_32 : decode cX7_judge 32 = .ok (.iload 4, 2) := by decide +kernel
theorem dX7_judge_34 : decode cX7_judge 34 = .ok (.ireturn, 1) := by decide +kernel
theorem dX7_judge_35 : decode cX7_judge 35 = .ok (.aload_n 0, 1) := by decide +kernel
theorem dX7_judge_36 : decode cX7_judge 36 = .ok (.getfield 44, 3) := by decide +kernel
theorem dX7_judge_39 : decode cX7_judge 39 = .ok (.iload_n 3, 1) := by decide +kernel
theorem dX7_judge_40 : decode cX7_judge 40 = .ok (.aaload, 1) := by decide +kernel
theorem dX7_judge_41 : decode cX7_judge 41 = .ok (.astore 5, 2) := by decide +kernel
theorem dX7_judge_43 : decode cX7_judge 43 = .ok (.iconst 0, 1) := by decide +kernel
theorem dX7_judge_44 : decode cX7_judge 44 = .ok (.istore 6, 2) := by decide +kernel
theorem dX7_judge_46 : decode cX7_judge 46 = .ok (.iload 6, 2) := by decide +kernel
theorem dX7_judge_48 : decode cX7_judge 48 = .ok (.aload 5, 2) := by decide +kernel
theorem dX7_judge_50 : decode cX7_judge 50 = .ok (.invokevirtual 253, 3) := by decide +kernel
theorem dX7_judge_53 : decode cX7_judge 53 = .ok (.if_icmp .ge 60, 3) := by decide +kernel
theorem dX7_judge_56 : decode cX7_judge 56 = .ok (.aload 5, 2) := by decide +kernel
theorem dX7_judge_58 : decode cX7_judge 58 = .ok (.iload 6, 2) := by decide +kernel
theorem dX7_judge_60 : decode cX7_judge 60 = .ok (.invokevirtual 256, 3) := by decide +kernel
theorem dX7_judge_63 : decode cX7_judge 63 = .ok (.istore 7, 2) := by decide +kernel
theorem dX7_judge_65 : decode cX7_judge 65 = .ok (.iload 7, 2) := by decide +kernel
theorem dX7_judge_67 : decode cX7_judge 67 = .ok (.aload 5, 2) := by decide +kernel
theorem dX7_judge_69 : decode cX7_judge 69 = .ok (.invokevirtual 331, 3) := by decide +kernel
theorem dX7_judge_72 : decode cX7_judge 72 = .ok (.if_icmp .eq 35, 3) := by decide +kernel
theorem dX7_judge_75 : decode cX7_judge 75 = .ok (.iload 7, 2) := by decide +kernel
theorem dX7_judge_77 : decode cX7_judge 77 = .ok (.aload_n 0, 1) := by decide +kernel
theorem dX7_judge_78 : decode cX7_judge 78 = .ok (.getfield 10, 3) := by decide +kernel
theorem dX7_judge_81 : decode cX7_judge 81 = .ok (.iload_n 1, 1) := by decide +kernel
theorem dX7_judge_82 : decode cX7_judge 82 = .ok (.aload_n 0, 1) := by decide +kernel
theorem dX7_judge_83 : decode cX7_judge 83 = .ok (.getfield 10, 3) := by decide +kernel
theorem dX7_judge_86 : decode cX7_judge 86 = .ok (.getfield 117, 3) := by decide +kernel
theorem dX7_judge_89 : decode cX7_judge 89 = .ok (.bipush 10, 2) := by decide +kernel
theorem dX7_judge_91 : decode cX7_judge 91 = .ok (.iload 6, 2) := by decide +kernel
theorem dX7_judge_93 : decode cX7_judge 93 = .ok (.imul, 1) := by decide +kernel
theorem dX7_judge_94 : decode cX7_judge 94 = .ok (.bipush 10, 2) := by decide +kernel
theorem dX7_judge_96 : decode cX7_judge 96 = .ok (.iadd, 1) := by decide +kernel
theorem dX7_judge_97 : decode cX7_judge 97 = .ok (.iload_n 2, 1) := by decide +kernel
theorem dX7_judge_98 : decode cX7_judge 98 = .ok (.invokevirtual 178, 3) := by decide +kernel
theorem dX7_judge_101 : decode cX7_judge 101 = .ok (.if_icmp .eq 6, 3) := by decide +kernel
theorem dX7_judge_104 : decode cX7_judge 104 = .ok (.iload 6, 2) := by decide +kernel
theorem dX7_judge_106 : decode cX7_judge 106 = .ok (.ireturn, 1) := by decide +kernel
theorem dX7_judge_107 : decode cX7_judge 107 = .ok (.iinc 6 1, 3) := by decide +kernel
theorem dX7_judge_110 : decode cX7_judge 110 = .ok (.goto (-64), 3) := by decide +kernel
theorem dX7_judge_113 : decode cX7_judge 113 = .ok (.bipush (-4), 2) := by decide +kernel
theorem dX7_judge_115 : decode cX7_judge 115 = .ok (.ireturn, 1) := by decide +kernel
theorem dX7_image_0 : decode cX7_image 0 = .ok (.aload_n 0, 1) := by decide +kernel
theorem dX7_image_1 : decode cX7_image 1 = .ok (.getfield 16, 3) := by decide +kernel
theorem dX7_image_4 : decode cX7_image 4 = .ok (.aload_n 0, 1) := by decide +kernel
theorem dX7_image_5 : decode cX7_image 5 = .ok (.getfield 10, 3) := by decide +kernel
theorem dX7_image_8 : decode cX7_image 8 = .ok (.invokevirtual 81, 3) := by decide +kernel
theorem dX7_image_11 : decode cX7_image 11 = .ok (.aload_n 0, 1) := by decide +kernel
theorem dX7_image_12 : decode cX7_image 12 = .ok (.iconst 1, 1) := by decide +kernel
theorem dX7_image_13 : decode cX7_image 13 = .ok (.putfield 334, 3) := by decide +kernel
theorem dX7_image_16 : decode cX7_image 16 = .ok (.aload_n 0, 1) := by decide +kernel
theorem dX7_image_17 : decode cX7_image 17 = .ok (.getfield 10, 3) := by decide +kernel
theorem dX7_image_20 : decode cX7_image 20 = .ok (.getfield 203, 3) := by decide +kernel
theorem dX7_image_23 : decode cX7_image 23 = .ok (.ireturn, 1) := by decide +kernel
theorem dX7_restore_0 : decode cX7_restore 0 = .ok (.aload_n 0, 1) := by decide +kernel
theorem dX7_restore_1 : decode cX7_restore 1 = .ok (.getfield 334, 3) := by decide +kernel
theorem dX7_restore_4 : decode cX7_restore 4 = .ok (.ifCond .ne 6, 3) := by decide +kernel
theorem dX7_restore_7 : decode cX7_restore 7 = .ok (.bipush (-3), 2) := by decide +kernel
theorem dX7_restore_9 : decode cX7_restore 9 = .ok (.ireturn, 1) := by decide +kernel
theorem dX7_restore_10 : decode cX7_restore 10 = .ok (.aload_n 0, 1) := by decide +kernel
theorem dX7_restore_11 : decode cX7_restore 11 = .ok (.getfield 10, 3) := by decide +kernel
theorem dX7_restore_14 : decode cX7_restore 14 = .ok (.aload_n 0, 1) := by decide +kernel
theorem dX7_restore_15 : decode cX7_restore 15 = .ok (.getfield 16, 3) := by decide +kernel
theorem dX7_restore_18 : decode cX7_restore 18 = .ok (.invokevirtual 81, 3) := by decide +kernel
theorem dX7_restore_21 : decode cX7_restore 21 = .ok (.aload_n 0, 1) := by decide +kernel
theorem dX7_restore_22 : decode cX7_restore 22 = .ok (.getfield 10, 3) := by decide +kernel
theorem dX7_restore_25 : decode cX7_restore 25 = .ok (.getfield 203, 3) := by decide +kernel
theorem dX7_restore_28 : decode cX7_restore 28 = .ok (.ireturn, 1) := by decide +kernel
theorem dX7_count_0 : decode cX7_count 0 = .ok (.iload_n 1, 1) := by decide +kernel
theorem dX7_count_1 : decode cX7_count 1 = .ok (.tableswitch 89 0 5 #[39, 47, 55, 63, 71, 79], 39) := by decide +kernel
theorem dX7_count_40 : decode cX7_count 40 = .ok (.aload_n 0, 1) := by decide +kernel
theorem dX7_count_41 : decode cX7_count 41 = .ok (.getfield 10, 3) := by decide +kernel
theorem dX7_count_44 : decode cX7_count 44 = .ok (.getfield 262, 3) := by decide +kernel
theorem dX7_count_47 : decode cX7_count 47 = .ok (.ireturn, 1) := by decide +kernel
theorem dX7_count_48 : decode cX7_count 48 = .ok (.aload_n 0, 1) := by decide +kernel
theorem dX7_count_49 : decode cX7_count 49 = .ok (.getfield 10, 3) := by decide +kernel
theorem dX7_count_52 : decode cX7_count 52 = .ok (.getfield 206, 3) := by decide +kernel
theorem dX7_count_55 : decode cX7_count 55 = .ok (.ireturn, 1) := by decide +kernel
theorem dX7_count_56 : decode cX7_count 56 = .ok (.aload_n 0, 1) := by decide +kernel
theorem dX7_count_57 : decode cX7_count 57 = .ok (.getfield 10, 3) := by decide +kernel
theorem dX7_count_60 : decode cX7_count 60 = .ok (.getfield 203, 3) := by decide +kernel
theorem dX7_count_63 : decode cX7_count 63 = .ok (.ireturn, 1) := by decide +kernel
theorem dX7_count_64 : decode cX7_count 64 = .ok (.aload_n 0, 1) := by decide +kernel
theorem dX7_count_65 : decode cX7_count 65 = .ok (.getfield 10, 3) := by decide +kernel
theorem dX7_count_68 : decode cX7_count 68 = .ok (.invokevirtual 337, 3) := by decide +kernel
theorem dX7_count_71 : decode cX7_count 71 = .ok (.ireturn, 1) := by decide +kernel
theorem dX7_count_72 : decode cX7_count 72 = .ok (.aload_n 0, 1) := by decide +kernel
theorem dX7_count_73 : decode cX7_count 73 = .ok (.getfield 10, 3) := by decide +kernel
theorem dX7_count_76 : decode cX7_count 76 = .ok (.invokevirtual 340, 3) := by decide +kernel
theorem dX7_count_79 : decode cX7_count 79 = .ok (.ireturn, 1) := by decide +kernel
theorem dX7_count_80 : decode cX7_count 80 = .ok (.aload_n 0, 1) := by decide +kernel
theorem dX7_count_81 : decode cX7_count 81 = .ok (.getfield 10, 3) := by decide +kernel
theorem dX7_count_84 : decode cX7_count 84 = .ok (.bipush 127, 2) := by decide +kernel
theorem dX7_count_86 : decode cX7_count 86 = .ok (.invokevirtual 225, 3) := by decide +kernel
theorem dX7_count_89 : decode cX7_count 89 = .ok (.ireturn, 1) := by decide +kernel
theorem dX7_count_90 : decode cX7_count 90 = .ok (.iconst (-1), 1) := by decide +kernel
theorem dX7_count_91 : decode cX7_count 91 = .ok (.ireturn, 1) := by decide +kernel
theorem dX7_keep_0 : decode cX7_keep 0 = .ok (.iload_n 2, 1) := by decide +kernel
theorem dX7_keep_1 : decode cX7_keep 1 = .ok (.ifCond .eq 19, 3) := by decide +kernel
theorem dX7_keep_4 : decode cX7_keep 4 = .ok (.iload_n 2, 1) := by decide +kernel
theorem dX7_keep_5 : decode cX7_keep 5 = .ok (.iconst 1, 1) := by decide +kernel
theorem dX7_keep_6 : decode cX7_keep 6 = .ok (.if_icmp .ne 18, 3) := by decide +kernel
theorem dX7_keep_9 : decode cX7_keep 9 = .ok (.aload_n 0, 1) := by decide +kernel
theorem dX7_keep_10 : decode cX7_keep 10 = .ok (.getfield 10, 3) := by decide +kernel
theorem dX7_keep_13 : decode cX7_keep 13 = .ok (.iload_n 3, 1) := by decide +kernel
theorem dX7_keep_14 : decode cX7_keep 14 = .ok (.invokevirtual 216, 3) := by decide +kernel
theorem dX7_keep_17 : decode cX7_keep 17 = .ok (.ifCond .eq 7, 3) := by decide +kernel
theorem dX7_keep_20 : decode cX7_keep 20 = .ok (.iconst 1, 1) := by decide +kernel
theorem dX7_keep_21 : decode cX7_keep 21 = .ok (.goto 4, 3) := by decide +kernel
theorem dX7_keep_24 : decode cX7_keep 24 = .ok (.iconst 0, 1) := by decide +kernel
theorem dX7_keep_25 : decode cX7_keep 25 = .ok (.istore 4, 2) := by decide +kernel
theorem dX7_keep_27 : decode cX7_keep 27 = .ok (.iload_n 1, 1) := by decide +kernel
theorem dX7_keep_28 : decode cX7_keep 28 = .ok (.invokestatic 343, 3) := by decide +kernel
theorem dX7_keep_31 : decode cX7_keep 31 = .ok (.ifCond .eq 8, 3) := by decide +kernel
theorem dX7_keep_34 : decode cX7_keep 34 = .ok (.iload 4, 2) := by decide +kernel
theorem dX7_keep_36 : decode cX7_keep 36 = .ok (.ifCond .ne 5, 3) := by decide +kernel
theorem dX7_keep_39 : decode cX7_keep 39 = .ok (.iconst (-1), 1) := by decide +kernel
theorem dX7_keep_40 : decode cX7_keep 40 = .ok (.ireturn, 1) := by decide +kernel
theorem dX7_keep_41 : decode cX7_keep 41 = .ok (.aload_n 0, 1) := by decide +kernel
theorem dX7_keep_42 : decode cX7_keep 42 = .ok (.getfield 38, 3) := by decide +kernel
theorem dX7_keep_45 : decode cX7_keep 45 = .ok (.iload_n 1, 1) := by decide +kernel
theorem dX7_keep_46 : decode cX7_keep 46 = .ok (.iload_n 2, 1) := by decide +kernel
theorem dX7_keep_47 : decode cX7_keep 47 = .ok (.ifCond .ne 7, 3) := by decide +kernel
theorem dX7_keep_50 : decode cX7_keep 50 = .ok (.aconst_null, 1) := by decide +kernel
theorem dX7_keep_51 : decode cX7_keep 51 = .ok (.goto 11, 3) := by decide +kernel
theorem dX7_keep_54 : decode cX7_keep 54 = .ok (.aload_n 0, 1) := by decide +kernel
theorem dX7_keep_55 : decode cX7_keep 55 = .ok (.getfield 10, 3) := by decide +kernel
theorem dX7_keep_58 : decode cX7_keep 58 = .ok (.iload_n 3, 1) := by decide +kernel
theorem dX7_keep_59 : decode cX7_keep 59 = .ok (.invokevirtual 133, 3) := by decide +kernel
theorem dX7_keep_62 : decode cX7_keep 62 = .ok (.aastore, 1) := by decide +kernel
theorem dX7_keep_63 : decode cX7_keep 63 = .ok (.aload_n 0, 1) := by decide +kernel
theorem dX7_keep_64 : decode cX7_keep 64 = .ok (.getfield 44, 3) := by decide +kernel
theorem dX7_keep_67 : decode cX7_keep 67 = .ok (.iload_n 1, 1) := by decide +kernel
theorem dX7_keep_68 : decode cX7_keep 68 = .ok (.aconst_null, 1) := by decide +kernel
theorem dX7_keep_69 : decode cX7_keep 69 = .ok (.aastore, 1) := by decide +kernel
theorem dX7_keep_70 : decode cX7_keep 70 = .ok (.iconst 0, 1) := by decide +kernel
theorem dX7_keep_71 : decode cX7_keep 71 = .ok (.ireturn, 1) := by decide +kernel
theorem dX7_row_0 : decode cX7_row 0 = .ok (.iload_n 1, 1) := by decide +kernel
theorem dX7_row_1 : decode cX7_row 1 = .ok (.invokestatic 343, 3) := by decide +kernel
theorem dX7_row_4 : decode cX7_row 4 = .ok (.ifCond .eq 18, 3) := by decide +kernel
theorem dX7_row_7 : decode cX7_row 7 = .ok (.iload_n 2, 1) := by decide +kernel
theorem dX7_row_8 : decode cX7_row 8 = .ok (.iconst 0, 1) := by decide +kernel
theorem dX7_row_9 : decode cX7_row 9 = .ok (.iconst 2, 1) := by decide +kernel
theorem dX7_row_10 : decode cX7_row 10 = .ok (.invokestatic 159, 3) := by decide +kernel
theorem dX7_row_13 : decode cX7_row 13 = .ok (.ifCond .eq 9, 3) := by decide +kernel
theorem dX7_row_16 : decode cX7_row 16 = .ok (.iload_n 3, 1) := by decide +kernel
theorem dX7_row_17 : decode cX7_row 17 = .ok (.bipush 100, 2) := by decide +kernel
theorem dX7_row_19 : decode cX7_row 19 = .ok (.if_icmp .le 5, 3) := by decide +kernel
theorem dX7_row_22 : decode cX7_row 22 = .ok (.iconst (-1), 1) := by decide +kernel
theorem dX7_row_23 : decode cX7_row 23 = .ok (.ireturn, 1) := by decide +kernel
theorem dX7_row_24 : decode cX7_row 24 = .ok (.iload_n 3, 1) := by decide +kernel
theorem dX7_row_25 : decode cX7_row 25 = .ok (.ifCond .ge 6, 3) := by decide +kernel
theorem dX7_row_28 : decode cX7_row 28 = .ok (.bipush (-14), 2) := by decide +kernel
theorem dX7_row_30 : decode cX7_row 30 = .ok (.ireturn, 1) := by decide +kernel
theorem dX7_row_31 : decode cX7_row 31 = .ok (.aload_n 0, 1) := by decide +kernel
theorem dX7_row_32 : decode cX7_row 32 = .ok (.getfield 38, 3) := by decide +kernel
theorem dX7_row_35 : decode cX7_row 35 = .ok (.iload_n 1, 1) := by decide +kernel
theorem dX7_row_36 : decode cX7_row 36 = .ok (.aconst_null, 1) := by decide +kernel
theorem dX7_row_37 : decode cX7_row 37 = .ok (.aastore, 1) := by decide +kernel
theorem dX7_row_38 : decode cX7_row 38 = .ok (.aload_n 0, 1) := by decide +kernel
theorem dX7_row_39 : decode cX7_row 39 = .ok (.getfield 44, 3) := by decide +kernel
theorem dX7_row_42 : decode cX7_row 42 = .ok (.iload_n 1, 1) := by decide +kernel
theorem dX7_row_43 : decode cX7_row 43 = .ok (.new 42, 3) := by decide +kernel
theorem dX7_row_46 : decode cX7_row 46 = .ok (.dup, 1) := by decide +kernel
theorem dX7_row_47 : decode cX7_row 47 = .ok (.iload_n 2, 1) := by decide +kernel
theorem dX7_row_48 : decode cX7_row 48 = .ok (.iload_n 3, 1) := by decide +kernel
theorem dX7_row_49 : decode cX7_row 49 = .ok (.invokespecial 346, 3) := by decide +kernel
theorem dX7_row_52 : decode cX7_row 52 = .ok (.aastore, 1) := by decide +kernel
theorem dX7_row_53 : decode cX7_row 53 = .ok (.iconst 0, 1) := by decide +kernel
theorem dX7_row_54 : decode cX7_row 54 = .ok (.ireturn, 1) := by decide +kernel
theorem dX7_put_0 : decode cX7_put 0 = .ok (.aload_n 0, 1) := by decide +kernel
theorem dX7_put_1 : decode cX7_put 1 = .ok (.iload_n 1, 1) := by decide +kernel
theorem dX7_put_2 : decode cX7_put 2 = .ok (.invokevirtual 58, 3) := by decide +kernel
theorem dX7_put_5 : decode cX7_put 5 = .ok (.istore 4, 2) := by decide +kernel
theorem dX7_put_7 : decode cX7_put 7 = .ok (.iload 4, 2) := by decide +kernel
theorem dX7_put_9 : decode cX7_put 9 = .ok (.ifCond .eq 6, 3) := by decide +kernel
theorem dX7_put_12 : decode cX7_put 12 = .ok (.iload 4, 2) := by decide +kernel
theorem dX7_put_14 : decode cX7_put 14 = .ok (.ireturn, 1) := by decide +kernel
theorem dX7_put_15 : decode cX7_put 15 = .ok (.aload_n 0, 1) := by decide +kernel
theorem dX7_put_16 : decode cX7_put 16 = .ok (.getfield 44, 3) := by decide +kernel
theorem dX7_put_19 : decode cX7_put 19 = .ok (.iload_n 1, 1) := by decide +kernel
theorem dX7_put_20 : decode cX7_put 20 = .ok (.aaload, 1) := by decide +kernel
theorem dX7_put_21 : decode cX7_put 21 = .ok (.iload_n 2, 1) := by decide +kernel
theorem dX7_put_22 : decode cX7_put 22 = .ok (.iload_n 3, 1) := by decide +kernel
theorem dX7_put_23 : decode cX7_put 23 = .ok (.invokevirtual 348, 3) := by decide +kernel
theorem dX7_put_26 : decode cX7_put 26 = .ok (.ifCond .eq 7, 3) := by decide +kernel
theorem dX7_put_29 : decode cX7_put 29 = .ok (.iconst 0, 1) := by decide +kernel
theorem dX7_put_30 : decode cX7_put 30 = .ok (.goto 5, 3) := by decide +kernel
theorem dX7_put_33 : decode cX7_put 33 = .ok (.bipush (-13), 2) := by decide +kernel
theorem dX7_put_35 : decode cX7_put 35 = .ok (.ireturn, 1) := by decide +kernel
theorem dX7_element_0 : decode cX7_element 0 = .ok (.iload_n 1, 1) := by decide +kernel
theorem dX7_element_1 : decode cX7_element 1 = .ok (.invokestatic 343, 3) := by decide +kernel
theorem dX7_element_4 : decode cX7_element 4 = .ok (.ifCond .ne 14, 3) := by decide +kernel
theorem dX7_element_7 : decode cX7_element 7 = .ok (.new 350, 3) := by decide +kernel
theorem dX7_element_10 : decode cX7_element 10 = .ok (.dup, 1) := by decide +kernel
theorem dX7_element_11 : decode cX7_element 11 = .ok (.ldc_w 352, 3) := by decide +kernel
theorem dX7_element_14 : decode cX7_element 14 = .ok (.invokespecial 354, 3) := by decide +kernel
theorem dX7_element_17 : decode cX7_element 17 = .ok (.athrow, 1) := by decide +kernel
theorem dX7_element_18 : decode cX7_element 18 = .ok (.aload_n 0, 1) := by decide +kernel
theorem dX7_element_19 : decode cX7_element 19 = .ok (.iload_n 1, 1) := by decide +kernel
theorem dX7_element_20 : decode cX7_element 20 = .ok (.invokevirtual 58, 3) := by decide +kernel
theorem dX7_element_23 : decode cX7_element 23 = .ok (.ifCond .eq 14, 3) := by decide +kernel
theorem dX7_element_26 : decode cX7_element 26 = .ok (.new 357, 3) := by decide +kernel
theorem dX7_element_29 : decode cX7_element 29 = .ok (.dup, 1) := by decide +kernel
theorem dX7_element_30 : decode cX7_element 30 = .ok (.ldc_w 359, 3) := by decide +kernel
theorem dX7_element_33 : decode cX7_element 33 = .ok (.invokespecial 361, 3) := by decide +kernel
theorem dX7_element_36 : decode cX7_element 36 = .ok (.athrow, 1) := by decide +kernel
theorem dX7_element_37 : decode cX7_element 37 = .ok (.aload_n 0, 1) := by decide +kernel
theorem dX7_element_38 : decode cX7_element 38 = .ok (.getfield 44, 3) := by decide +kernel
theorem dX7_element_41 : decode cX7_element 41 = .ok (.iload_n 1, 1) := by decide +kernel
theorem dX7_element_42 : decode cX7_element 42 = .ok (.aaload, 1) := by decide +kernel
theorem dX7_element_43 : decode cX7_element 43 = .ok (.iload_n 2, 1) := by decide +kernel
theorem dX7_element_44 : decode cX7_element 44 = .ok (.invokevirtual 362, 3) := by decide +kernel
theorem dX7_element_47 : decode cX7_element 47 = .ok (.ifCond .ne 14, 3) := by decide +kernel
theorem dX7_element_50 : decode cX7_element 50 = .ok (.new 357, 3) := by decide +kernel
theorem dX7_element_53 : decode cX7_element 53 = .ok (.dup, 1) := by decide +kernel
theorem dX7_element_54 : decode cX7_element 54 = .ok (.ldc_w 365, 3) := by decide +kernel
theorem dX7_element_57 : decode cX7_element 57 = .ok (.invokespecial 361, 3) := by decide +kernel
theorem dX7_element_60 : decode cX7_element 60 = .ok (.athrow, 1) := by decide +kernel
theorem dX7_element_61 : decode cX7_element 61 = .ok (.aload_n 0, 1) := by decide +kernel
theorem dX7_element_62 : decode cX7_element 62 = .ok (.getfield 44, 3) := by decide +kernel
theorem dX7_element_65 : decode cX7_element 65 = .ok (.iload_n 1, 1) := by decide +kernel
theorem dX7_element_66 : decode cX7_element 66 = .ok (.aaload, 1) := by decide +kernel
theorem dX7_element_67 : decode cX7_element 67 = .ok (.iload_n 2, 1) := by decide +kernel
theorem dX7_element_68 : decode cX7_element 68 = .ok (.invokevirtual 256, 3) := by decide +kernel
theorem dX7_element_71 : decode cX7_element 71 = .ok (.i2l, 1) := by decide +kernel
theorem dX7_element_72 : decode cX7_element 72 = .ok (.lreturn, 1) := by decide +kernel
theorem dX7_copy_0 : decode cX7_copy 0 = .ok (.aload_n 0, 1) := by decide +kernel
theorem dX7_copy_1 : decode cX7_copy 1 = .ok (.iload_n 1, 1) := by decide +kernel
theorem dX7_copy_2 : decode cX7_copy 2 = .ok (.iload_n 3, 1) := by decide +kernel
theorem dX7_copy_3 : decode cX7_copy 3 = .ok (.invokevirtual 367, 3) := by decide +kernel
theorem dX7_copy_6 : decode cX7_copy 6 = .ok (.istore 6, 2) := by decide +kernel
theorem dX7_copy_8 : decode cX7_copy 8 = .ok (.iload 6, 2) := by decide +kernel
theorem dX7_copy_10 : decode cX7_copy 10 = .ok (.ifCond .eq 6, 3) := by decide +kernel
theorem dX7_copy_13 : decode cX7_copy 13 = .ok (.iload 6, 2) := by decide +kernel
theorem dX7_copy_15 : decode cX7_copy 15 = .ok (.ireturn, 1) := by decide +kernel
theorem dX7_copy_16 : decode cX7_copy 16 = .ok (.aload_n 0, 1) := by decide +kernel
theorem dX7_copy_17 : decode cX7_copy 17 = .ok (.getfield 44, 3) := by decide +kernel
theorem dX7_copy_20 : decode cX7_copy 20 = .ok (.iload_n 1, 1) := by decide +kernel
theorem dX7_copy_21 : decode cX7_copy 21 = .ok (.aaload, 1) := by decide +kernel
theorem dX7_copy_22 : decode cX7_copy 22 = .ok (.aload_n 0, 1) := by decide +kernel
theorem dX7_copy_23 : decode cX7_copy 23 = .ok (.getfield 44, 3) := by decide +kernel
theorem dX7_copy_26 : decode cX7_copy 26 = .ok (.iload_n 3, 1) := by decide +kernel
theorem dX7_copy_27 : decode cX7_copy 27 = .ok (.aaload, 1) := by decide +kernel
theorem dX7_copy_28 : decode cX7_copy 28 = .ok (.iload_n 2, 1) := by decide +kernel
theorem dX7_copy_29 : decode cX7_copy 29 = .ok (.iload 4, 2) := by decide +kernel
theorem dX7_copy_31 : decode cX7_copy 31 = .ok (.iload 5, 2) := by decide +kernel
theorem dX7_copy_33 : decode cX7_copy 33 = .ok (.invokevirtual 370, 3) := by decide +kernel
theorem dX7_copy_36 : decode cX7_copy 36 = .ok (.ifCond .eq 8, 3) := by decide +kernel
theorem dX7_copy_39 : decode cX7_copy 39 = .ok (.iload 5, 2) := by decide +kernel
theorem dX7_copy_41 : decode cX7_copy 41 = .ok (.goto 5, 3) := by decide +kernel
theorem dX7_copy_44 : decode cX7_copy 44 = .ok (.bipush (-13), 2) := by decide +kernel
theorem dX7_copy_46 : decode cX7_copy 46 = .ok (.ireturn, 1) := by decide +kernel
theorem dX7_price_0 : decode cX7_price 0 = .ok (.aload_n 0, 1) := by decide +kernel
theorem dX7_price_1 : decode cX7_price 1 = .ok (.iload_n 1, 1) := by decide +kernel
theorem dX7_price_2 : decode cX7_price 2 = .ok (.invokevirtual 374, 3) := by decide +kernel
theorem dX7_price_5 : decode cX7_price 5 = .ok (.istore_n 2, 1) := by decide +kernel
theorem dX7_price_6 : decode cX7_price 6 = .ok (.iload_n 2, 1) := by decide +kernel
theorem dX7_price_7 : decode cX7_price 7 = .ok (.ifCond .eq 7, 3) := by decide +kernel
theorem dX7_price_10 : decode cX7_price 10 = .ok (.iload_n 2, 1) := by decide +kernel
theorem dX7_price_11 : decode cX7_price 11 = .ok (.goto 12, 3) := by decide +kernel
theorem dX7_price_14 : decode cX7_price 14 = .ok (.aload_n 0, 1) := by decide +kernel
theorem dX7_price_15 : decode cX7_price 15 = .ok (.getfield 38, 3) := by decide +kernel
theorem dX7_price_18 : decode cX7_price 18 = .ok (.iload_n 1, 1) := by decide +kernel
theorem dX7_price_19 : decode cX7_price 19 = .ok (.aaload, 1) := by decide +kernel
theorem dX7_price_20 : decode cX7_price 20 = .ok (.invokevirtual 152, 3) := by decide +kernel
theorem dX7_price_23 : decode cX7_price 23 = .ok (.ireturn, 1) := by decide +kernel
theorem dX7_toss_0 : decode cX7_toss 0 = .ok (.aload_n 0, 1) := by decide +kernel
theorem dX7_toss_1 : decode cX7_toss 1 = .ok (.iload_n 1, 1) := by decide +kernel
theorem dX7_toss_2 : decode cX7_toss 2 = .ok (.invokevirtual 374, 3) := by decide +kernel
theorem dX7_toss_5 : decode cX7_toss 5 = .ok (.istore_n 2, 1) := by decide +kernel
theorem dX7_toss_6 : decode cX7_toss 6 = .ok (.iload_n 2, 1) := by decide +kernel
theorem dX7_toss_7 : decode cX7_toss 7 = .ok (.ifCond .eq 5, 3) := by decide +kernel
theorem dX7_toss_10 : decode cX7_toss 10 = .ok (.iload_n 2, 1) := by decide +kernel
theorem dX7_toss_11 : decode cX7_toss 11 = .ok (.ireturn, 1) := by decide +kernel
theorem dX7_toss_12 : decode cX7_toss 12 = .ok (.aload_n 0, 1) := by decide +kernel
theorem dX7_toss_13 : decode cX7_toss 13 = .ok (.getfield 38, 3) := by decide +kernel
theorem dX7_toss_16 : decode cX7_toss 16 = .ok (.iload_n 1, 1) := by decide +kernel
theorem dX7_toss_17 : decode cX7_toss 17 = .ok (.aaload, 1) := by decide +kernel
theorem dX7_toss_18 : decode cX7_toss 18 = .ok (.astore_n 3, 1) := by decide +kernel
theorem dX7_toss_19 : decode cX7_toss 19 = .ok (.aload_n 3, 1) := by decide +kernel
theorem dX7_toss_20 : decode cX7_toss 20 = .ok (.invokevirtual 377, 3) := by decide +kernel
theorem dX7_toss_23 : decode cX7_toss 23 = .ok (.goto 31, 3) := by decide +kernel
theorem dX7_toss_26 : decode cX7_toss 26 = .ok (.astore 4, 2) := by decide +kernel
theorem dX7_toss_28 : decode cX7_toss 28 = .ok (.sipush 200, 3) := by decide +kernel
theorem dX7_toss_31 : decode cX7_toss 31 = .ok (.aload_n 3, 1) := by decide +kernel
theorem dX7_toss_32 : decode cX7_toss 32 = .ok (.invokevirtual 152, 3) := by decide +kernel
theorem dX7_toss_35 : decode cX7_toss 35 = .ok (.iadd, 1) := by decide +kernel
theorem dX7_toss_36 : decode cX7_toss 36 = .ok (.ireturn, 1) := by decide +kernel
theorem dX7_toss_37 : decode cX7_toss 37 = .ok (.astore 4, 2) := by decide +kernel
theorem dX7_toss_39 : decode cX7_toss 39 = .ok (.bipush 100, 2) := by decide +kernel
theorem dX7_toss_41 : decode cX7_toss 41 = .ok (.aload_n 3, 1) := by decide +kernel
theorem dX7_toss_42 : decode cX7_toss 42 = .ok (.getfield 382, 3) := by decide +kernel
theorem dX7_toss_45 : decode cX7_toss 45 = .ok (.iadd, 1) := by decide +kernel
theorem dX7_toss_46 : decode cX7_toss 46 = .ok (.ireturn, 1) := by decide +kernel
theorem dX7_toss_47 : decode cX7_toss 47 = .ok (.astore 4, 2) := by decide +kernel
theorem dX7_toss_49 : decode cX7_toss 49 = .ok (.aload_n 3, 1) := by decide +kernel
theorem dX7_toss_50 : decode cX7_toss 50 = .ok (.getfield 382, 3) := by decide +kernel
theorem dX7_toss_53 : decode cX7_toss 53 = .ok (.ireturn, 1) := by decide +kernel
theorem dX7_toss_54 : decode cX7_toss 54 = .ok (.bipush (-15), 2) := by decide +kernel
theorem dX7_toss_56 : decode cX7_toss 56 = .ok (.ireturn, 1) := by decide +kernel
theorem dX7_isWithin_0 : decode cX7_isWithin 0 = .ok (.iload_n 0, 1) := by decide +kernel
theorem dX7_isWithin_1 : decode cX7_isWithin 1 = .ok (.iload_n 1, 1) := by decide +kernel
theorem dX7_isWithin_2 : decode cX7_isWithin 2 = .ok (.if_icmp .lt 12, 3) := by decide +kernel
theorem dX7_isWithin_5 : decode cX7_isWithin 5 = .ok (.iload_n 0, 1) := by decide +kernel
theorem dX7_isWithin_6 : decode cX7_isWithin 6 = .ok (.iload_n 2, 1) := by decide +kernel
theorem dX7_isWithin_7 : decode cX7_isWithin 7 = .ok (.if_icmp .gt 7, 3) := by decide +kernel
theorem dX7_isWithin_10 : decode cX7_isWithin 10 = .ok (.iconst 1, 1) := by decide +kernel
theorem dX7_isWithin_11 : decode cX7_isWithin 11 = .ok (.goto 4, 3) := by decide +kernel
theorem dX7_isWithin_14 : decode cX7_isWithin 14 = .ok (.iconst 0, 1) := by decide +kernel
theorem dX7_isWithin_15 : decode cX7_isWithin 15 = .ok (.ireturn, 1) := by decide +kernel
theorem dX7_isTone_0 : decode cX7_isTone 0 = .ok (.iload_n 0, 1) := by decide +kernel
theorem dX7_isTone_1 : decode cX7_isTone 1 = .ok (.iconst 1, 1) := by decide +kernel
theorem dX7_isTone_2 : decode cX7_isTone 2 = .ok (.sipush 1200, 3) := by decide +kernel
theorem dX7_isTone_5 : decode cX7_isTone 5 = .ok (.invokestatic 159, 3) := by decide +kernel
theorem dX7_isTone_8 : decode cX7_isTone 8 = .ok (.ireturn, 1) := by decide +kernel
theorem dX7_isStrong_0 : decode cX7_isStrong 0 = .ok (.iload_n 0, 1) := by decide +kernel
theorem dX7_isStrong_1 : decode cX7_isStrong 1 = .ok (.iconst 1, 1) := by decide +kernel
theorem dX7_isStrong_2 : decode cX7_isStrong 2 = .ok (.bipush 99, 2) := by decide +kernel
theorem dX7_isStrong_4 : decode cX7_isStrong 4 = .ok (.invokestatic 159, 3) := by decide +kernel
theorem dX7_isStrong_7 : decode cX7_isStrong 7 = .ok (.ireturn, 1) := by decide +kernel
theorem dX7_isBowed_0 : decode cX7_isBowed 0 = .ok (.iload_n 0, 1) := by decide +kernel
theorem dX7_isBowed_1 : decode cX7_isBowed 1 = .ok (.invokestatic 200, 3) := by decide +kernel
theorem dX7_isBowed_4 : decode cX7_isBowed 4 = .ok (.ifCond .eq 14, 3) := by decide +kernel
theorem dX7_isBowed_7 : decode cX7_isBowed 7 = .ok (.iload_n 1, 1) := by decide +kernel
theorem dX7_isBowed_8 : decode cX7_isBowed 8 = .ok (.invokestatic 197, 3) := by decide +kernel
theorem dX7_isBowed_11 : decode cX7_isBowed 11 = .ok (.ifCond .eq 7, 3) := by decide +kernel
theorem dX7_isBowed_14 : decode cX7_isBowed 14 = .ok (.iconst 1, 1) := by decide +kernel
theorem dX7_isBowed_15 : decode cX7_isBowed 15 = .ok (.goto 4, 3) := by decide +kernel
theorem dX7_isBowed_18 : decode cX7_isBowed 18 = .ok (.iconst 0, 1) := by decide +kernel
theorem dX7_isBowed_19 : decode cX7_isBowed 19 = .ok (.ireturn, 1) := by decide +kernel
theorem dX7_isShelf_0 : decode cX7_isShelf 0 = .ok (.iload_n 0, 1) := by decide +kernel
theorem dX7_isShelf_1 : decode cX7_isShelf 1 = .ok (.iconst 0, 1) := by decide +kernel
theorem dX7_isShelf_2 : decode cX7_isShelf 2 = .ok (.bipush 7, 2) := by decide +kernel
theorem dX7_isShelf_4 : decode cX7_isShelf 4 = .ok (.invokestatic 159, 3) := by decide +kernel
theorem dX7_isShelf_7 : decode cX7_isShelf 7 = .ok (.ireturn, 1) := by decide +kernel
theorem dX7_rowRefusal_0 : decode cX7_rowRefusal 0 = .ok (.iload_n 1, 1) := by decide +kernel
theorem dX7_rowRefusal_1 : decode cX7_rowRefusal 1 = .ok (.invokestatic 343, 3) := by decide +kernel
theorem dX7_rowRefusal_4 : decode cX7_rowRefusal 4 = .ok (.ifCond .ne 5, 3) := by decide +kernel
theorem dX7_rowRefusal_7 : decode cX7_rowRefusal 7 = .ok (.iconst (-1), 1) := by decide +kernel
theorem dX7_rowRefusal_8 : decode cX7_rowRefusal 8 = .ok (.ireturn, 1) := by decide +kernel
theorem dX7_rowRefusal_9 : decode cX7_rowRefusal 9 = .ok (.aload_n 0, 1) := by decide +kernel
theorem dX7_rowRefusal_10 : decode cX7_rowRefusal 10 = .ok (.getfield 44, 3) := by decide +kernel
theorem dX7_rowRefusal_13 : decode cX7_rowRefusal 13 = .ok (.iload_n 1, 1) := by decide +kernel
theorem dX7_rowRefusal_14 : decode cX7_rowRefusal 14 = .ok (.aaload, 1) := by decide +kernel
theorem dX7_rowRefusal_15 : decode cX7_rowRefusal 15 = .ok (.ifnull 5, 3) := by decide +kernel
theorem dX7_rowRefusal_18 : decode cX7_rowRefusal 18 = .ok (.iconst 0, 1) := by decide +kernel
theorem dX7_rowRefusal_19 : decode cX7_rowRefusal 19 = .ok (.ireturn, 1) := by decide +kernel
theorem dX7_rowRefusal_20 : decode cX7_rowRefusal 20 = .ok (.aload_n 0, 1) := by decide +kernel
theorem dX7_rowRefusal_21 : decode cX7_rowRefusal 21 = .ok (.getfield 38, 3) := by decide +kernel
theorem dX7_rowRefusal_24 : decode cX7_rowRefusal 24 = .ok (.iload_n 1, 1) := by decide +kernel
theorem dX7_rowRefusal_25 : decode cX7_rowRefusal 25 = .ok (.aaload, 1) := by decide +kernel
theorem dX7_rowRefusal_26 : decode cX7_rowRefusal 26 = .ok (.ifnonnull 8, 3) := by decide +kernel
theorem dX7_rowRefusal_29 : decode cX7_rowRefusal 29 = .ok (.bipush (-11), 2) := by decide +kernel
theorem dX7_rowRefusal_31 : decode cX7_rowRefusal 31 = .ok (.goto 5, 3) := by decide +kernel
theorem dX7_rowRefusal_34 : decode cX7_rowRefusal 34 = .ok (.bipush (-12), 2) := by decide +kernel
theorem dX7_rowRefusal_36 : decode cX7_rowRefusal 36 = .ok (.ireturn, 1) := by decide +kernel
theorem dX7_thingRefusal_0 : decode cX7_thingRefusal 0 = .ok (.iload_n 1, 1) := by decide +kernel
theorem dX7_thingRefusal_1 : decode cX7_thingRefusal 1 = .ok (.invokestatic 343, 3) := by decide +kernel
theorem dX7_thingRefusal_4 : decode cX7_thingRefusal 4 = .ok (.ifCond .ne 5, 3) := by decide +kernel
theorem dX7_thingRefusal_7 : decode cX7_thingRefusal 7 = .ok (.iconst (-1), 1) := by decide +kernel
theorem dX7_thingRefusal_8 : decode cX7_thingRefusal 8 = .ok (.ireturn, 1) := by decide +kernel
theorem dX7_thingRefusal_9 : decode cX7_thingRefusal 9 = .ok (.aload_n 0, 1) := by decide +kernel
theorem dX7_thingRefusal_10 : decode cX7_thingRefusal 10 = .ok (.getfield 38, 3) := by decide +kernel
theorem dX7_thingRefusal_13 : decode cX7_thingRefusal 13 = .ok (.iload_n 1, 1) := by decide +kernel
theorem dX7_thingRefusal_14 : decode cX7_thingRefusal 14 = .ok (.aaload, 1) := by decide +kernel
theorem dX7_thingRefusal_15 : decode cX7_thingRefusal 15 = .ok (.ifnull 5, 3) := by decide +kernel
theorem dX7_thingRefusal_18 : decode cX7_thingRefusal 18 = .ok (.iconst 0, 1) := by decide +kernel
theorem dX7_thingRefusal_19 : decode cX7_thingRefusal 19 = .ok (.ireturn, 1) := by decide +kernel
theorem dX7_thingRefusal_20 : decode cX7_thingRefusal 20 = .ok (.aload_n 0, 1) := by decide +kernel
theorem dX7_thingRefusal_21 : decode cX7_thingRefusal 21 = .ok (.getfield 44, 3) := by decide +kernel
theorem dX7_thingRefusal_24 : decode cX7_thingRefusal 24 = .ok (.iload_n 1, 1) := by decide +kernel
theorem dX7_thingRefusal_25 : decode cX7_thingRefusal 25 = .ok (.aaload, 1) := by decide +kernel
theorem dX7_thingRefusal_26 : decode cX7_thingRefusal 26 = .ok (.ifnonnull 8, 3) := by decide +kernel
theorem dX7_thingRefusal_29 : decode cX7_thingRefusal 29 = .ok (.bipush (-11), 2) := by decide +kernel
theorem dX7_thingRefusal_31 : decode cX7_thingRefusal 31 = .ok (.goto 5, 3) := by decide +kernel
theorem dX7_thingRefusal_34 : decode cX7_thingRefusal 34 = .ok (.bipush (-12), 2) := by decide +kernel
theorem dX7_thingRefusal_36 : decode cX7_thingRefusal 36 = .ok (.ireturn, 1) := by decide +kernel
theorem dX7_pairRefusal_0 : decode cX7_pairRefusal 0 = .ok (.aload_n 0, 1) := by decide +kernel
theorem dX7_pairRefusal_1 : decode cX7_pairRefusal 1 = .ok (.iload_n 1, 1) := by decide +kernel
theorem dX7_pairRefusal_2 : decode cX7_pairRefusal 2 = .ok (.invokevirtual 58, 3) := by decide +kernel
theorem dX7_pairRefusal_5 : decode cX7_pairRefusal 5 = .ok (.istore_n 3, 1) := by decide +kernel
theorem dX7_pairRefusal_6 : decode cX7_pairRefusal 6 = .ok (.aload_n 0, 1) := by decide +kernel
theorem dX7_pairRefusal_7 : decode cX7_pairRefusal 7 = .ok (.iload_n 2, 1) := by decide +kernel
theorem dX7_pairRefusal_8 : decode cX7_pairRefusal 8 = .ok (.invokevirtual 58, 3) := by decide +kernel
theorem dX7_pairRefusal_11 : decode cX7_pairRefusal 11 = .ok (.istore 4, 2) := by decide +kernel
theorem dX7_pairRefusal_13 : decode cX7_pairRefusal 13 = .ok (.iload_n 3, 1) := by decide +kernel
theorem dX7_pairRefusal_14 : decode cX7_pairRefusal 14 = .ok (.iconst (-1), 1) := by decide +kernel
theorem dX7_pairRefusal_15 : decode cX7_pairRefusal 15 = .ok (.if_icmp .eq 9, 3) := by decide +kernel
theorem dX7_pairRefusal_18 : decode cX7_pairRefusal 18 = .ok (.iload 4, 2) := by decide +kernel
theorem dX7_pairRefusal_20 : decode cX7_pairRefusal 20 = .ok (.iconst (-1), 1) := by decide +kernel
theorem dX7_pairRefusal_21 : decode cX7_pairRefusal 21 = .ok (.if_icmp .ne 5, 3) := by decide +kernel
theorem dX7_pairRefusal_24 : decode cX7_pairRefusal 24 = .ok (.iconst (-1), 1) := by decide +kernel
theorem dX7_pairRefusal_25 : decode cX7_pairRefusal 25 = .ok (.ireturn, 1) := by decide +kernel
theorem dX7_pairRefusal_26 : decode cX7_pairRefusal 26 = .ok (.iload_n 3, 1) := by decide +kernel
theorem dX7_pairRefusal_27 : decode cX7_pairRefusal 27 = .ok (.bipush (-11), 2) := by decide +kernel
theorem dX7_pairRefusal_29 : decode cX7_pairRefusal 29 = .ok (.if_icmp .eq 10, 3) := by decide +kernel
theorem dX7_pairRefusal_32 : decode cX7_pairRefusal 32 = .ok (.iload 4, 2) := by decide +kernel
theorem dX7_pairRefusal_34 : decode cX7_pairRefusal 34 = .ok (.bipush (-11), 2) := by decide +kernel
theorem dX7_pairRefusal_36 : decode cX7_pairRefusal 36 = .ok (.if_icmp .ne 6, 3) := by decide +kernel
theorem dX7_pairRefusal_39 : decode cX7_pairRefusal 39 = .ok (.bipush (-11), 2) := by decide +kernel
theorem dX7_pairRefusal_41 : decode cX7_pairRefusal 41 = .ok (.ireturn, 1) := by decide +kernel
theorem dX7_pairRefusal_42 : decode cX7_pairRefusal 42 = .ok (.iload_n 3, 1) := by decide +kernel
theorem dX7_pairRefusal_43 : decode cX7_pairRefusal 43 = .ok (.ifCond .ne 8, 3) := by decide +kernel
theorem dX7_pairRefusal_46 : decode cX7_pairRefusal 46 = .ok (.iload 4, 2) := by decide +kernel
theorem dX7_pairRefusal_48 : decode cX7_pairRefusal 48 = .ok (.ifCond .eq 6, 3) := by decide +kernel
theorem dX7_pairRefusal_51 : decode cX7_pairRefusal 51 = .ok (.bipush (-12), 2) := by decide +kernel
theorem dX7_pairRefusal_53 : decode cX7_pairRefusal 53 = .ok (.ireturn, 1) := by decide +kernel
theorem dX7_pairRefusal_54 : decode cX7_pairRefusal 54 = .ok (.aload_n 0, 1) := by decide +kernel
theorem dX7_pairRefusal_55 : decode cX7_pairRefusal 55 = .ok (.getfield 44, 3) := by decide +kernel
theorem dX7_pairRefusal_58 : decode cX7_pairRefusal 58 = .ok (.iload_n 1, 1) := by decide +kernel
theorem dX7_pairRefusal_59 : decode cX7_pairRefusal 59 = .ok (.aaload, 1) := by decide +kernel
theorem dX7_pairRefusal_60 : decode cX7_pairRefusal 60 = .ok (.getfield 62, 3) := by decide +kernel
theorem dX7_pairRefusal_63 : decode cX7_pairRefusal 63 = .ok (.aload_n 0, 1) := by decide +kernel
theorem dX7_pairRefusal_64 : decode cX7_pairRefusal 64 = .ok (.getfield 44, 3) := by decide +kernel
theorem dX7_pairRefusal_67 : decode cX7_pairRefusal 67 = .ok (.iload_n 2, 1) := by decide +kernel
theorem dX7_pairRefusal_68 : decode cX7_pairRefusal 68 = .ok (.aaload, 1) := by decide +kernel
theorem dX7_pairRefusal_69 : decode cX7_pairRefusal 69 = .ok (.getfield 62, 3) := by decide +kernel
theorem dX7_pairRefusal_72 : decode cX7_pairRefusal 72 = .ok (.if_icmp .ne 7, 3) := by decide +kernel
theorem dX7_pairRefusal_75 : decode cX7_pairRefusal 75 = .ok (.iconst 0, 1) := by decide +kernel
theorem dX7_pairRefusal_76 : decode cX7_pairRefusal 76 = .ok (.goto 5, 3) := by decide +kernel
theorem dX7_pairRefusal_79 : decode cX7_pairRefusal 79 = .ok (.bipush (-12), 2) := by decide +kernel
theorem dX7_pairRefusal_81 : decode cX7_pairRefusal 81 = .ok (.ireturn, 1) := by decide +kernel
theorem dX7_tonesRefusal_0 : decode cX7_tonesRefusal 0 = .ok (.iload_n 2, 1) := by decide +kernel
theorem dX7_tonesRefusal_1 : decode cX7_tonesRefusal 1 = .ok (.ifCond .ne 5, 3) := by decide +kernel
theorem dX7_tonesRefusal_4 : decode cX7_tonesRefusal 4 = .ok (.iconst (-1), 1) := by decide +kernel
theorem dX7_tonesRefusal_5 : decode cX7_tonesRefusal 5 = .ok (.ireturn, 1) := by decide +kernel
theorem dX7_tonesRefusal_6 : decode cX7_tonesRefusal 6 = .ok (.aload_n 0, 1) := by decide +kernel
theorem dX7_tonesRefusal_7 : decode cX7_tonesRefusal 7 = .ok (.iload_n 1, 1) := by decide +kernel
theorem dX7_tonesRefusal_8 : decode cX7_tonesRefusal 8 = .ok (.invokevirtual 58, 3) := by decide +kernel
theorem dX7_tonesRefusal_11 : decode cX7_tonesRefusal 11 = .ok (.istore 4, 2) := by decide +kernel
theorem dX7_tonesRefusal_13 : decode cX7_tonesRefusal 13 = .ok (.iload 4, 2) := by decide +kernel
theorem dX7_tonesRefusal_15 : decode cX7_tonesRefusal 15 = .ok (.ifCond .eq 6, 3) := by decide +kernel
theorem dX7_tonesRefusal_18 : decode cX7_tonesRefusal 18 = .ok (.iload 4, 2) := by decide +kernel
theorem dX7_tonesRefusal_20 : decode cX7_tonesRefusal 20 = .ok (.ireturn, 1) := by decide +kernel
theorem dX7_tonesRefusal_21 : decode cX7_tonesRefusal 21 = .ok (.aload_n 0, 1) := by decide +kernel
theorem dX7_tonesRefusal_22 : decode cX7_tonesRefusal 22 = .ok (.getfield 44, 3) := by decide +kernel
theorem dX7_tonesRefusal_25 : decode cX7_tonesRefusal 25 = .ok (.iload_n 1, 1) := by decide +kernel
theorem dX7_tonesRefusal_26 : decode cX7_tonesRefusal 26 = .ok (.aaload, 1) := by decide +kernel
theorem dX7_tonesRefusal_27 : decode cX7_tonesRefusal 27 = .ok (.astore 5, 2) := by decide +kernel
theorem dX7_tonesRefusal_29 : decode cX7_tonesRefusal 29 = .ok (.aload 5, 2) := by decide +kernel
theorem dX7_tonesRefusal_31 : decode cX7_tonesRefusal 31 = .ok (.invokevirtual 253, 3) := by decide +kernel
theorem dX7_tonesRefusal_34 : decode cX7_tonesRefusal 34 = .ok (.iload_n 3, 1) := by decide +kernel
theorem dX7_tonesRefusal_35 : decode cX7_tonesRefusal 35 = .ok (.if_icmp .le 6, 3) := by decide +kernel
theorem dX7_tonesRefusal_38 : decode cX7_tonesRefusal 38 = .ok (.bipush (-13), 2) := by decide +kernel
theorem dX7_tonesRefusal_40 : decode cX7_tonesRefusal 40 = .ok (.ireturn, 1) := by decide +kernel
theorem dX7_tonesRefusal_41 : decode cX7_tonesRefusal 41 = .ok (.iconst 0, 1) := by decide +kernel
theorem dX7_tonesRefusal_42 : decode cX7_tonesRefusal 42 = .ok (.istore 6, 2) := by decide +kernel
theorem dX7_tonesRefusal_44 : decode cX7_tonesRefusal 44 = .ok (.iload 6, 2) := by decide +kernel
theorem dX7_tonesRefusal_46 : decode cX7_tonesRefusal 46 = .ok (.aload 5, 2) := by decide +kernel
theorem dX7_tonesRefusal_48 : decode cX7_tonesRefusal 48 = .ok (.invokevirtual 253, 3) := by decide +kernel
theorem dX7_tonesRefusal_51 : decode cX7_tonesRefusal 51 = .ok (.if_icmp .ge 25, 3) := by decide +kernel
theorem dX7_tonesRefusal_54 : decode cX7_tonesRefusal 54 = .ok (.aload 5, 2) := by decide +kernel
theorem dX7_tonesRefusal_56 : decode cX7_tonesRefusal 56 = .ok (.iload 6, 2) := by decide +kernel
theorem dX7_tonesRefusal_58 : decode cX7_tonesRefusal 58 = .ok (.invokevirtual 256, 3) := by decide +kernel
theorem dX7_tonesRefusal_61 : decode cX7_tonesRefusal 61 = .ok (.invokestatic 200, 3) := by decide +kernel
theorem dX7_tonesRefusal_64 : decode cX7_tonesRefusal 64 = .ok (.ifCond .ne 6, 3) := by decide +kernel
theorem dX7_tonesRefusal_67 : decode cX7_tonesRefusal 67 = .ok (.bipush (-13), 2) := by decide +kernel
theorem dX7_tonesRefusal_69 : decode cX7_tonesRefusal 69 = .ok (.ireturn, 1) := by decide +kernel
theorem dX7_tonesRefusal_70 : decode cX7_tonesRefusal 70 = .ok (.iinc 6 1, 3) := by decide +kernel
theorem dX7_tonesRefusal_73 : decode cX7_tonesRefusal 73 = .ok (.goto (-29), 3) := by decide +kernel
theorem dX7_tonesRefusal_76 : decode cX7_tonesRefusal 76 = .ok (.iconst 0, 1) := by decide +kernel
theorem dX7_tonesRefusal_77 : decode cX7_tonesRefusal 77 = .ok (.ireturn, 1) := by decide +kernel
