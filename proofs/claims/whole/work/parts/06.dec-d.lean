theorem dX6_keep_75 : decode cX6_keep 75 = .ok (.goto (-24), 3) := by decide +kernel
theorem dX6_keep_78 : decode cX6_keep 78 = .ok (.aload_n 0, 1) := by decide +kernel
theorem dX6_keep_79 : decode cX6_keep 79 = .ok (.aload_n 0, 1) := by decide +kernel
theorem dX6_keep_80 : decode cX6_keep 80 = .ok (.getfield 64, 3) := by decide +kernel
theorem dX6_keep_83 : decode cX6_keep 83 = .ok (.iload_n 2, 1) := by decide +kernel
theorem dX6_keep_84 : decode cX6_keep 84 = .ok (.iconst 5, 1) := by decide +kernel
theorem dX6_keep_85 : decode cX6_keep 85 = .ok (.iadd, 1) := by decide +kernel
theorem dX6_keep_86 : decode cX6_keep 86 = .ok (.invokevirtual 204, 3) := by decide +kernel
theorem dX6_keep_89 : decode cX6_keep 89 = .ok (.iconst 0, 1) := by decide +kernel
theorem dX6_keep_90 : decode cX6_keep 90 = .ok (.istore_n 3, 1) := by decide +kernel
theorem dX6_keep_91 : decode cX6_keep 91 = .ok (.iload_n 3, 1) := by decide +kernel
theorem dX6_keep_92 : decode cX6_keep 92 = .ok (.bipush 60, 2) := by decide +kernel
theorem dX6_keep_94 : decode cX6_keep 94 = .ok (.if_icmp .ge 26, 3) := by decide +kernel
theorem dX6_keep_97 : decode cX6_keep 97 = .ok (.aload_n 0, 1) := by decide +kernel
theorem dX6_keep_98 : decode cX6_keep 98 = .ok (.getfield 64, 3) := by decide +kernel
theorem dX6_keep_101 : decode cX6_keep 101 = .ok (.iload_n 2, 1) := by decide +kernel
theorem dX6_keep_102 : decode cX6_keep 102 = .ok (.bipush 20, 2) := by decide +kernel
theorem dX6_keep_104 : decode cX6_keep 104 = .ok (.iadd, 1) := by decide +kernel
theorem dX6_keep_105 : decode cX6_keep 105 = .ok (.iload_n 3, 1) := by decide +kernel
theorem dX6_keep_106 : decode cX6_keep 106 = .ok (.iadd, 1) := by decide +kernel
theorem dX6_keep_107 : decode cX6_keep 107 = .ok (.aload_n 0, 1) := by decide +kernel
theorem dX6_keep_108 : decode cX6_keep 108 = .ok (.getfield 58, 3) := by decide +kernel
theorem dX6_keep_111 : decode cX6_keep 111 = .ok (.iload_n 3, 1) := by decide +kernel
theorem dX6_keep_112 : decode cX6_keep 112 = .ok (.iaload, 1) := by decide +kernel
theorem dX6_keep_113 : decode cX6_keep 113 = .ok (.iastore, 1) := by decide +kernel
theorem dX6_keep_114 : decode cX6_keep 114 = .ok (.iinc 3 1, 3) := by decide +kernel
theorem dX6_keep_117 : decode cX6_keep 117 = .ok (.goto (-26), 3) := by decide +kernel
theorem dX6_keep_120 : decode cX6_keep 120 = .ok (.iconst 0, 1) := by decide +kernel
theorem dX6_keep_121 : decode cX6_keep 121 = .ok (.istore_n 3, 1) := by decide +kernel
theorem dX6_keep_122 : decode cX6_keep 122 = .ok (.iload_n 3, 1) := by decide +kernel
theorem dX6_keep_123 : decode cX6_keep 123 = .ok (.sipush 840, 3) := by decide +kernel
theorem dX6_keep_126 : decode cX6_keep 126 = .ok (.if_icmp .ge 26, 3) := by decide +kernel
theorem dX6_keep_129 : decode cX6_keep 129 = .ok (.aload_n 0, 1) := by decide +kernel
theorem dX6_keep_130 : decode cX6_keep 130 = .ok (.getfield 64, 3) := by decide +kernel
theorem dX6_keep_133 : decode cX6_keep 133 = .ok (.iload_n 2, 1) := by decide +kernel
theorem dX6_keep_134 : decode cX6_keep 134 = .ok (.bipush 80, 2) := by decide +kernel
theorem dX6_keep_136 : decode cX6_keep 136 = .ok (.iadd, 1) := by decide +kernel
theorem dX6_keep_137 : decode cX6_keep 137 = .ok (.iload_n 3, 1) := by decide +kernel
theorem dX6_keep_138 : decode cX6_keep 138 = .ok (.iadd, 1) := by decide +kernel
theorem dX6_keep_139 : decode cX6_keep 139 = .ok (.aload_n 0, 1) := by decide +kernel
theorem dX6_keep_140 : decode cX6_keep 140 = .ok (.getfield 61, 3) := by decide +kernel
theorem dX6_keep_143 : decode cX6_keep 143 = .ok (.iload_n 3, 1) := by decide +kernel
theorem dX6_keep_144 : decode cX6_keep 144 = .ok (.iaload, 1) := by decide +kernel
theorem dX6_keep_145 : decode cX6_keep 145 = .ok (.iastore, 1) := by decide +kernel
theorem dX6_keep_146 : decode cX6_keep 146 = .ok (.iinc 3 1, 3) := by decide +kernel
theorem dX6_keep_149 : decode cX6_keep 149 = .ok (.goto (-27), 3) := by decide +kernel
theorem dX6_keep_152 : decode cX6_keep 152 = .ok (.aload_n 0, 1) := by decide +kernel
theorem dX6_keep_153 : decode cX6_keep 153 = .ok (.getfield 160, 3) := by decide +kernel
theorem dX6_keep_156 : decode cX6_keep 156 = .ok (.ireturn, 1) := by decide +kernel
theorem dX6_on_0 : decode cX6_on 0 = .ok (.iload_n 1, 1) := by decide +kernel
theorem dX6_on_1 : decode cX6_on 1 = .ok (.iconst 0, 1) := by decide +kernel
theorem dX6_on_2 : decode cX6_on 2 = .ok (.iconst 2, 1) := by decide +kernel
theorem dX6_on_3 : decode cX6_on 3 = .ok (.invokestatic 92, 3) := by decide +kernel
theorem dX6_on_6 : decode cX6_on 6 = .ok (.ifCond .ne 5, 3) := by decide +kernel
theorem dX6_on_9 : decode cX6_on 9 = .ok (.iconst (-1), 1) := by decide +kernel
theorem dX6_on_10 : decode cX6_on 10 = .ok (.ireturn, 1) := by decide +kernel
theorem dX6_on_11 : decode cX6_on 11 = .ok (.sipush 920, 3) := by decide +kernel
theorem dX6_on_14 : decode cX6_on 14 = .ok (.iload_n 1, 1) := by decide +kernel
theorem dX6_on_15 : decode cX6_on 15 = .ok (.imul, 1) := by decide +kernel
theorem dX6_on_16 : decode cX6_on 16 = .ok (.istore_n 2, 1) := by decide +kernel
theorem dX6_on_17 : decode cX6_on 17 = .ok (.aload_n 0, 1) := by decide +kernel
theorem dX6_on_18 : decode cX6_on 18 = .ok (.getfield 64, 3) := by decide +kernel
theorem dX6_on_21 : decode cX6_on 21 = .ok (.iload_n 2, 1) := by decide +kernel
theorem dX6_on_22 : decode cX6_on 22 = .ok (.iaload, 1) := by decide +kernel
theorem dX6_on_23 : decode cX6_on 23 = .ok (.bipush (-9), 2) := by decide +kernel
theorem dX6_on_25 : decode cX6_on 25 = .ok (.if_icmp .ne 9, 3) := by decide +kernel
theorem dX6_on_28 : decode cX6_on 28 = .ok (.aload_n 0, 1) := by decide +kernel
theorem dX6_on_29 : decode cX6_on 29 = .ok (.iconst 1, 1) := by decide +kernel
theorem dX6_on_30 : decode cX6_on 30 = .ok (.invokevirtual 100, 3) := by decide +kernel
theorem dX6_on_33 : decode cX6_on 33 = .ok (.ireturn, 1) := by decide +kernel
theorem dX6_on_34 : decode cX6_on 34 = .ok (.aload_n 0, 1) := by decide +kernel
theorem dX6_on_35 : decode cX6_on 35 = .ok (.aload_n 0, 1) := by decide +kernel
theorem dX6_on_36 : decode cX6_on 36 = .ok (.getfield 64, 3) := by decide +kernel
theorem dX6_on_39 : decode cX6_on 39 = .ok (.iload_n 2, 1) := by decide +kernel
theorem dX6_on_40 : decode cX6_on 40 = .ok (.iaload, 1) := by decide +kernel
theorem dX6_on_41 : decode cX6_on 41 = .ok (.putfield 160, 3) := by decide +kernel
theorem dX6_on_44 : decode cX6_on 44 = .ok (.aload_n 0, 1) := by decide +kernel
theorem dX6_on_45 : decode cX6_on 45 = .ok (.aload_n 0, 1) := by decide +kernel
theorem dX6_on_46 : decode cX6_on 46 = .ok (.getfield 64, 3) := by decide +kernel
theorem dX6_on_49 : decode cX6_on 49 = .ok (.iload_n 2, 1) := by decide +kernel
theorem dX6_on_50 : decode cX6_on 50 = .ok (.iconst 1, 1) := by decide +kernel
theorem dX6_on_51 : decode cX6_on 51 = .ok (.iadd, 1) := by decide +kernel
theorem dX6_on_52 : decode cX6_on 52 = .ok (.iaload, 1) := by decide +kernel
theorem dX6_on_53 : decode cX6_on 53 = .ok (.putfield 157, 3) := by decide +kernel
theorem dX6_on_56 : decode cX6_on 56 = .ok (.iconst 0, 1) := by decide +kernel
theorem dX6_on_57 : decode cX6_on 57 = .ok (.istore_n 3, 1) := by decide +kernel
theorem dX6_on_58 : decode cX6_on 58 = .ok (.iload_n 3, 1) := by decide +kernel
theorem dX6_on_59 : decode cX6_on 59 = .ok (.iconst 3, 1) := by decide +kernel
theorem dX6_on_60 : decode cX6_on 60 = .ok (.if_icmp .ge 25, 3) := by decide +kernel
theorem dX6_on_63 : decode cX6_on 63 = .ok (.aload_n 0, 1) := by decide +kernel
theorem dX6_on_64 : decode cX6_on 64 = .ok (.getfield 34, 3) := by decide +kernel
theorem dX6_on_67 : decode cX6_on 67 = .ok (.iload_n 3, 1) := by decide +kernel
theorem dX6_on_68 : decode cX6_on 68 = .ok (.aload_n 0, 1) := by decide +kernel
theorem dX6_on_69 : decode cX6_on 69 = .ok (.getfield 64, 3) := by decide +kernel
theorem dX6_on_72 : decode cX6_on 72 = .ok (.iload_n 2, 1) := by decide +kernel
theorem dX6_on_73 : decode cX6_on 73 = .ok (.iconst 2, 1) := by decide +kernel
theorem dX6_on_74 : decode cX6_on 74 = .ok (.iadd, 1) := by decide +kernel
theorem dX6_on_75 : decode cX6_on 75 = .ok (.iload_n 3, 1) := by decide +kernel
theorem dX6_on_76 : decode cX6_on 76 = .ok (.iadd, 1) := by decide +kernel
theorem dX6_on_77 : decode cX6_on 77 = .ok (.iaload, 1) := by decide +kernel
theorem dX6_on_78 : decode cX6_on 78 = .ok (.iastore, 1) := by decide +kernel
theorem dX6_on_79 : decode cX6_on 79 = .ok (.iinc 3 1, 3) := by decide +kernel
theorem dX6_on_82 : decode cX6_on 82 = .ok (.goto (-24), 3) := by decide +kernel
theorem dX6_on_85 : decode cX6_on 85 = .ok (.aload_n 0, 1) := by decide +kernel
theorem dX6_on_86 : decode cX6_on 86 = .ok (.aload_n 0, 1) := by decide +kernel
theorem dX6_on_87 : decode cX6_on 87 = .ok (.getfield 64, 3) := by decide +kernel
theorem dX6_on_90 : decode cX6_on 90 = .ok (.iload_n 2, 1) := by decide +kernel
theorem dX6_on_91 : decode cX6_on 91 = .ok (.iconst 5, 1) := by decide +kernel
theorem dX6_on_92 : decode cX6_on 92 = .ok (.iadd, 1) := by decide +kernel
theorem dX6_on_93 : decode cX6_on 93 = .ok (.invokevirtual 208, 3) := by decide +kernel
theorem dX6_on_96 : decode cX6_on 96 = .ok (.iconst 0, 1) := by decide +kernel
theorem dX6_on_97 : decode cX6_on 97 = .ok (.istore_n 3, 1) := by decide +kernel
theorem dX6_on_98 : decode cX6_on 98 = .ok (.iload_n 3, 1) := by decide +kernel
theorem dX6_on_99 : decode cX6_on 99 = .ok (.bipush 60, 2) := by decide +kernel
theorem dX6_on_101 : decode cX6_on 101 = .ok (.if_icmp .ge 26, 3) := by decide +kernel
theorem dX6_on_104 : decode cX6_on 104 = .ok (.aload_n 0, 1) := by decide +kernel
theorem dX6_on_105 : decode cX6_on 105 = .ok (.getfield 58, 3) := by decide +kernel
theorem dX6_on_108 : decode cX6_on 108 = .ok (.iload_n 3, 1) := by decide +kernel
theorem dX6_on_109 : decode cX6_on 109 = .ok (.aload_n 0, 1) := by decide +kernel
theorem dX6_on_110 : decode cX6_on 110 = .ok (.getfield 64, 3) := by decide +kernel
theorem dX6_on_113 : decode cX6_on 113 = .ok (.iload_n 2, 1) := by decide +kernel
theorem dX6_on_114 : decode cX6_on 114 = .ok (.bipush 20, 2) := by decide +kernel
theorem dX6_on_116 : decode cX6_on 116 = .ok (.iadd, 1) := by decide +kernel
theorem dX6_on_117 : decode cX6_on 117 = .ok (.iload_n 3, 1) := by decide +kernel
theorem dX6_on_118 : decode cX6_on 118 = .ok (.iadd, 1) := by decide +kernel
theorem dX6_on_119 : decode cX6_on 119 = .ok (.iaload, 1) := by decide +kernel
theorem dX6_on_120 : decode cX6_on 120 = .ok (.iastore, 1) := by decide +kernel
theorem dX6_on_121 : decode cX6_on 121 = .ok (.iinc 3 1, 3) := by decide +kernel
theorem dX6_on_124 : decode cX6_on 124 = .ok (.goto (-26), 3) := by decide +kernel
theorem dX6_on_127 : decode cX6_on 127 = .ok (.iconst 0, 1) := by decide +kernel
theorem dX6_on_128 : decode cX6_on 128 = .ok (.istore_n 3, 1) := by decide +kernel
theorem dX6_on_129 : decode cX6_on 129 = .ok (.iload_n 3, 1) := by decide +kernel
theorem dX6_on_130 : decode cX6_on 130 = .ok (.sipush 840, 3) := by decide +kernel
theorem dX6_on_133 : decode cX6_on 133 = .ok (.if_icmp .ge 26, 3) := by decide +kernel
theorem dX6_on_136 : decode cX6_on 136 = .ok (.aload_n 0, 1) := by decide +kernel
theorem dX6_on_137 : decode cX6_on 137 = .ok (.getfield 61, 3) := by decide +kernel
theorem dX6_on_140 : decode cX6_on 140 = .ok (.iload_n 3, 1) := by decide +kernel
theorem dX6_on_141 : decode cX6_on 141 = .ok (.aload_n 0, 1) := by decide +kernel
theorem dX6_on_142 : decode cX6_on 142 = .ok (.getfield 64, 3) := by decide +kernel
theorem dX6_on_145 : decode cX6_on 145 = .ok (.iload_n 2, 1) := by decide +kernel
theorem dX6_on_146 : decode cX6_on 146 = .ok (.bipush 80, 2) := by decide +kernel
theorem dX6_on_148 : decode cX6_on 148 = .ok (.iadd, 1) := by decide +kernel
theorem dX6_on_149 : decode cX6_on 149 = .ok (.iload_n 3, 1) := by decide +kernel
theorem dX6_on_150 : decode cX6_on 150 = .ok (.iadd, 1) := by decide +kernel
theorem dX6_on_151 : decode cX6_on 151 = .ok (.iaload, 1) := by decide +kernel
theorem dX6_on_152 : decode cX6_on 152 = .ok (.iastore, 1) := by decide +kernel
theorem dX6_on_153 : decode cX6_on 153 = .ok (.iinc 3 1, 3) := by decide +kernel
theorem dX6_on_156 : decode cX6_on 156 = .ok (.goto (-27), 3) := by decide +kernel
theorem dX6_on_159 : decode cX6_on 159 = .ok (.aload_n 0, 1) := by decide +kernel
theorem dX6_on_160 : decode cX6_on 160 = .ok (.getfield 160, 3) := by decide +kernel
theorem dX6_on_163 : decode cX6_on 163 = .ok (.ireturn, 1) := by decide +kernel
theorem dX6_putAhead_0 : decode cX6_putAhead 0 = .ok (.aload_n 0, 1) := by decide +kernel
theorem dX6_putAhead_1 : decode cX6_putAhead 1 = .ok (.aload_n 0, 1) := by decide +kernel
theorem dX6_putAhead_2 : decode cX6_putAhead 2 = .ok (.getfield 67, 3) := by decide +kernel
theorem dX6_putAhead_5 : decode cX6_putAhead 5 = .ok (.iconst 0, 1) := by decide +kernel
theorem dX6_putAhead_6 : decode cX6_putAhead 6 = .ok (.invokevirtual 204, 3) := by decide +kernel
theorem dX6_putAhead_9 : decode cX6_putAhead 9 = .ok (.return_, 1) := by decide +kernel
theorem dX6_comeBack_0 : decode cX6_comeBack 0 = .ok (.aload_n 0, 1) := by decide +kernel
theorem dX6_comeBack_1 : decode cX6_comeBack 1 = .ok (.aload_n 0, 1) := by decide +kernel
theorem dX6_comeBack_2 : decode cX6_comeBack 2 = .ok (.getfield 67, 3) := by decide +kernel
theorem dX6_comeBack_5 : decode cX6_comeBack 5 = .ok (.iconst 0, 1) := by decide +kernel
theorem dX6_comeBack_6 : decode cX6_comeBack 6 = .ok (.invokevirtual 208, 3) := by decide +kernel
theorem dX6_comeBack_9 : decode cX6_comeBack 9 = .ok (.return_, 1) := by decide +kernel
theorem dX6_behind_0 : decode cX6_behind 0 = .ok (.aload_n 0, 1) := by decide +kernel
theorem dX6_behind_1 : decode cX6_behind 1 = .ok (.iload_n 1, 1) := by decide +kernel
theorem dX6_behind_2 : decode cX6_behind 2 = .ok (.invokevirtual 224, 3) := by decide +kernel
theorem dX6_behind_5 : decode cX6_behind 5 = .ok (.ifCond .eq 21, 3) := by decide +kernel
theorem dX6_behind_8 : decode cX6_behind 8 = .ok (.iload_n 2, 1) := by decide +kernel
theorem dX6_behind_9 : decode cX6_behind 9 = .ok (.iconst 0, 1) := by decide +kernel
theorem dX6_behind_10 : decode cX6_behind 10 = .ok (.bipush 60, 2) := by decide +kernel
theorem dX6_behind_12 : decode cX6_behind 12 = .ok (.invokestatic 92, 3) := by decide +kernel
theorem dX6_behind_15 : decode cX6_behind 15 = .ok (.ifCond .eq 11, 3) := by decide +kernel
theorem dX6_behind_18 : decode cX6_behind 18 = .ok (.aload_n 0, 1) := by decide +kernel
theorem dX6_behind_19 : decode cX6_behind 19 = .ok (.iload_n 3, 1) := by decide +kernel
theorem dX6_behind_20 : decode cX6_behind 20 = .ok (.invokevirtual 163, 3) := by decide +kernel
theorem dX6_behind_23 : decode cX6_behind 23 = .ok (.ifCond .ne 5, 3) := by decide +kernel
theorem dX6_behind_26 : decode cX6_behind 26 = .ok (.iconst (-1), 1) := by decide +kernel
theorem dX6_behind_27 : decode cX6_behind 27 = .ok (.ireturn, 1) := by decide +kernel
theorem dX6_behind_28 : decode cX6_behind 28 = .ok (.aload_n 0, 1) := by decide +kernel
theorem dX6_behind_29 : decode cX6_behind 29 = .ok (.invokevirtual 239, 3) := by decide +kernel
theorem dX6_behind_32 : decode cX6_behind 32 = .ok (.iconst 0, 1) := by decide +kernel
theorem dX6_behind_33 : decode cX6_behind 33 = .ok (.istore 4, 2) := by decide +kernel
theorem dX6_behind_35 : decode cX6_behind 35 = .ok (.iconst 0, 1) := by decide +kernel
theorem dX6_behind_36 : decode cX6_behind 36 = .ok (.istore 5, 2) := by decide +kernel
theorem dX6_behind_38 : decode cX6_behind 38 = .ok (.iload 5, 2) := by decide +kernel
theorem dX6_behind_40 : decode cX6_behind 40 = .ok (.iload_n 2, 1) := by decide +kernel
theorem dX6_behind_41 : decode cX6_behind 41 = .ok (.if_icmp .ge 19, 3) := by decide +kernel
theorem dX6_behind_44 : decode cX6_behind 44 = .ok (.iload 4, 2) := by decide +kernel
theorem dX6_behind_46 : decode cX6_behind 46 = .ok (.aload_n 0, 1) := by decide +kernel
theorem dX6_behind_47 : decode cX6_behind 47 = .ok (.iload_n 1, 1) := by decide +kernel
theorem dX6_behind_48 : decode cX6_behind 48 = .ok (.invokevirtual 221, 3) := by decide +kernel
theorem dX6_behind_51 : decode cX6_behind 51 = .ok (.iadd, 1) := by decide +kernel
theorem dX6_behind_52 : decode cX6_behind 52 = .ok (.istore 4, 2) := by decide +kernel
theorem dX6_behind_54 : decode cX6_behind 54 = .ok (.iinc 5 1, 3) := by decide +kernel
theorem dX6_behind_57 : decode cX6_behind 57 = .ok (.goto (-19), 3) := by decide +kernel
theorem dX6_behind_60 : decode cX6_behind 60 = .ok (.aload_n 0, 1) := by decide +kernel
theorem dX6_behind_61 : decode cX6_behind 61 = .ok (.getfield 28, 3) := by decide +kernel
theorem dX6_behind_64 : decode cX6_behind 64 = .ok (.iload_n 3, 1) := by decide +kernel
theorem dX6_behind_65 : decode cX6_behind 65 = .ok (.iaload, 1) := by decide +kernel
theorem dX6_behind_66 : decode cX6_behind 66 = .ok (.istore 5, 2) := by decide +kernel
theorem dX6_behind_68 : decode cX6_behind 68 = .ok (.aload_n 0, 1) := by decide +kernel
theorem dX6_behind_69 : decode cX6_behind 69 = .ok (.invokevirtual 242, 3) := by decide +kernel
theorem dX6_behind_72 : decode cX6_behind 72 = .ok (.aload_n 0, 1) := by decide +kernel
theorem dX6_behind_73 : decode cX6_behind 73 = .ok (.iload 4, 2) := by decide +kernel
theorem dX6_behind_75 : decode cX6_behind 75 = .ok (.iload 5, 2) := by decide +kernel
theorem dX6_behind_77 : decode cX6_behind 77 = .ok (.invokevirtual 118, 3) := by decide +kernel
theorem dX6_behind_80 : decode cX6_behind 80 = .ok (.ireturn, 1) := by decide +kernel
theorem dX6_setWas_0 : decode cX6_setWas 0 = .ok (.iconst 0, 1) := by decide +kernel
theorem dX6_setWas_1 : decode cX6_setWas 1 = .ok (.istore_n 1, 1) := by decide +kernel
theorem dX6_setWas_2 : decode cX6_setWas 2 = .ok (.iload_n 1, 1) := by decide +kernel
theorem dX6_setWas_3 : decode cX6_setWas 3 = .ok (.bipush 10, 2) := by decide +kernel
theorem dX6_setWas_5 : decode cX6_setWas 5 = .ok (.if_icmp .ge 21, 3) := by decide +kernel
theorem dX6_setWas_8 : decode cX6_setWas 8 = .ok (.aload_n 0, 1) := by decide +kernel
theorem dX6_setWas_9 : decode cX6_setWas 9 = .ok (.getfield 70, 3) := by decide +kernel
theorem dX6_setWas_12 : decode cX6_setWas 12 = .ok (.iload_n 1, 1) := by decide +kernel
theorem dX6_setWas_13 : decode cX6_setWas 13 = .ok (.aload_n 0, 1) := by decide +kernel
theorem dX6_setWas_14 : decode cX6_setWas 14 = .ok (.getfield 28, 3) := by decide +kernel
theorem dX6_setWas_17 : decode cX6_setWas 17 = .ok (.iload_n 1, 1) := by decide +kernel
theorem dX6_setWas_18 : decode cX6_setWas 18 = .ok (.iaload, 1) := by decide +kernel
theorem dX6_setWas_19 : decode cX6_setWas 19 = .ok (.iastore, 1) := by decide +kernel
theorem dX6_setWas_20 : decode cX6_setWas 20 = .ok (.iinc 1 1, 3) := by decide +kernel
theorem dX6_setWas_23 : decode cX6_setWas 23 = .ok (.goto (-21), 3) := by decide +kernel
theorem dX6_setWas_26 : decode cX6_setWas 26 = .ok (.return_, 1) := by decide +kernel
theorem dX6_isWas_0 : decode cX6_isWas 0 = .ok (.iconst 1, 1) := by decide +kernel
theorem dX6_isWas_1 : decode cX6_isWas 1 = .ok (.istore_n 1, 1) := by decide +kernel
theorem dX6_isWas_2 : decode cX6_isWas 2 = .ok (.iconst 0, 1) := by decide +kernel
theorem dX6_isWas_3 : decode cX6_isWas 3 = .ok (.istore_n 2, 1) := by decide +kernel
theorem dX6_isWas_4 : decode cX6_isWas 4 = .ok (.iload_n 2, 1) := by decide +kernel
theorem dX6_isWas_5 : decode cX6_isWas 5 = .ok (.aload_n 0, 1) := by decide +kernel
theorem dX6_isWas_6 : decode cX6_isWas 6 = .ok (.getfield 151, 3) := by decide +kernel
theorem dX6_isWas_9 : decode cX6_isWas 9 = .ok (.if_icmp .ge 34, 3) := by decide +kernel
theorem dX6_isWas_12 : decode cX6_isWas 12 = .ok (.iload_n 1, 1) := by decide +kernel
theorem dX6_isWas_13 : decode cX6_isWas 13 = .ok (.ifCond .eq 22, 3) := by decide +kernel
theorem dX6_isWas_16 : decode cX6_isWas 16 = .ok (.aload_n 0, 1) := by decide +kernel
theorem dX6_isWas_17 : decode cX6_isWas 17 = .ok (.getfield 70, 3) := by decide +kernel
theorem dX6_isWas_20 : decode cX6_isWas 20 = .ok (.iload_n 2, 1) := by decide +kernel
theorem dX6_isWas_21 : decode cX6_isWas 21 = .ok (.iaload, 1) := by decide +kernel
theorem dX6_isWas_22 : decode cX6_isWas 22 = .ok (.aload_n 0, 1) := by decide +kernel
theorem dX6_isWas_23 : decode cX6_isWas 23 = .ok (.getfield 28, 3) := by decide +kernel
theorem dX6_isWas_26 : decode cX6_isWas 26 = .ok (.iload_n 2, 1) := by decide +kernel
theorem dX6_isWas_27 : decode cX6_isWas 27 = .ok (.iaload, 1) := by decide +kernel
theorem dX6_isWas_28 : decode cX6_isWas 28 = .ok (.if_icmp .ne 7, 3) := by decide +kernel
theorem dX6_isWas_31 : decode cX6_isWas 31 = .ok (.iconst 1, 1) := by decide +kernel
theorem dX6_isWas_32 : decode cX6_isWas 32 = .ok (.goto 4, 3) := by decide +kernel
theorem dX6_isWas_35 : decode cX6_isWas 35 = .ok (.iconst 0, 1) := by decide +kernel
theorem dX6_isWas_36 : decode cX6_isWas 36 = .ok (.istore_n 1, 1) := by decide +kernel
theorem dX6_isWas_37 : decode cX6_isWas 37 = .ok (.iinc 2 1, 3) := by decide +kernel
theorem dX6_isWas_40 : decode cX6_isWas 40 = .ok (.goto (-36), 3) := by decide +kernel
theorem dX6_isWas_43 : decode cX6_isWas 43 = .ok (.iload_n 1, 1) := by decide +kernel
theorem dX6_isWas_44 : decode cX6_isWas 44 = .ok (.ireturn, 1) := by decide +kernel
theorem dX6_topOf_0 : decode cX6_topOf 0 = .ok (.iload_n 1, 1) := by decide +kernel
theorem dX6_topOf_1 : decode cX6_topOf 1 = .ok (.istore_n 3, 1) := by decide +kernel
theorem dX6_topOf_2 : decode cX6_topOf 2 = .ok (.iload_n 1, 1) := by decide +kernel
theorem dX6_topOf_3 : decode cX6_topOf 3 = .ok (.iconst 1, 1) := by decide +kernel
theorem dX6_topOf_4 : decode cX6_topOf 4 = .ok (.iadd, 1) := by decide +kernel
theorem dX6_topOf_5 : decode cX6_topOf 5 = .ok (.istore 4, 2) := by decide +kernel
theorem dX6_topOf_7 : decode cX6_topOf 7 = .ok (.iload 4, 2) := by decide +kernel
theorem dX6_topOf_9 : decode cX6_topOf 9 = .ok (.iload_n 2, 1) := by decide +kernel
theorem dX6_topOf_10 : decode cX6_topOf 10 = .ok (.if_icmp .gt 32, 3) := by decide +kernel
theorem dX6_topOf_13 : decode cX6_topOf 13 = .ok (.aload_n 0, 1) := by decide +kernel
theorem dX6_topOf_14 : decode cX6_topOf 14 = .ok (.getfield 28, 3) := by decide +kernel
theorem dX6_topOf_17 : decode cX6_topOf 17 = .ok (.iload 4, 2) := by decide +kernel
theorem dX6_topOf_19 : decode cX6_topOf 19 = .ok (.iaload, 1) := by decide +kernel
theorem dX6_topOf_20 : decode cX6_topOf 20 = .ok (.aload_n 0, 1) := by decide +kernel
theorem dX6_topOf_21 : decode cX6_topOf 21 = .ok (.getfield 28, 3) := by decide +kernel
theorem dX6_topOf_24 : decode cX6_topOf 24 = .ok (.iload_n 3, 1) := by decide +kernel
theorem dX6_topOf_25 : decode cX6_topOf 25 = .ok (.iaload, 1) := by decide +kernel
theorem dX6_topOf_26 : decode cX6_topOf 26 = .ok (.if_icmp .le 8, 3) := by decide +kernel
theorem dX6_topOf_29 : decode cX6_topOf 29 = .ok (.iload 4, 2) := by decide +kernel
theorem dX6_topOf_31 : decode cX6_topOf 31 = .ok (.goto 4, 3) := by decide +kernel
theorem dX6_topOf_34 : decode cX6_topOf 34 = .ok (.iload_n 3, 1) := by decide +kernel
theorem dX6_topOf_35 : decode cX6_topOf 35 = .ok (.istore_n 3, 1) := by decide +kernel
theorem dX6_topOf_36 : decode cX6_topOf 36 = .ok (.iinc 4 1, 3) := by decide +kernel
theorem dX6_topOf_39 : decode cX6_topOf 39 = .ok (.goto (-32), 3) := by decide +kernel
theorem dX6_topOf_42 : decode cX6_topOf 42 = .ok (.iload_n 3, 1) := by decide +kernel
theorem dX6_topOf_43 : decode cX6_topOf 43 = .ok (.ireturn, 1) := by decide +kernel
theorem dX6_highestNow_0 : decode cX6_highestNow 0 = .ok (.aload_n 0, 1) := by decide +kernel
theorem dX6_highestNow_1 : decode cX6_highestNow 1 = .ok (.getfield 151, 3) := by decide +kernel
theorem dX6_highestNow_4 : decode cX6_highestNow 4 = .ok (.ifCond .ne 7, 3) := by decide +kernel
theorem dX6_highestNow_7 : decode cX6_highestNow 7 = .ok (.iconst 0, 1) := by decide +kernel
theorem dX6_highestNow_8 : decode cX6_highestNow 8 = .ok (.goto 19, 3) := by decide +kernel
theorem dX6_highestNow_11 : decode cX6_highestNow 11 = .ok (.aload_n 0, 1) := by decide +kernel
theorem dX6_highestNow_12 : decode cX6_highestNow 12 = .ok (.getfield 28, 3) := by decide +kernel
theorem dX6_highestNow_15 : decode cX6_highestNow 15 = .ok (.aload_n 0, 1) := by decide +kernel
theorem dX6_highestNow_16 : decode cX6_highestNow 16 = .ok (.iconst 0, 1) := by decide +kernel
theorem dX6_highestNow_17 : decode cX6_highestNow 17 = .ok (.aload_n 0, 1) := by decide +kernel
theorem dX6_highestNow_18 : decode cX6_highestNow 18 = .ok (.getfield 151, 3) := by decide +kernel
theorem dX6_highestNow_21 : decode cX6_highestNow 21 = .ok (.iconst 1, 1) := by decide +kernel
theorem dX6_highestNow_22 : decode cX6_highestNow 22 = .ok (.isub, 1) := by decide +kernel
theorem dX6_highestNow_23 : decode cX6_highestNow 23 = .ok (.invokevirtual 245, 3) := by decide +kernel
theorem dX6_highestNow_26 : decode cX6_highestNow 26 = .ok (.iaload, 1) := by decide +kernel
theorem dX6_highestNow_27 : decode cX6_highestNow 27 = .ok (.ireturn, 1) := by decide +kernel
theorem dX6_rest_0 : decode cX6_rest 0 = .ok (.aload_n 0, 1) := by decide +kernel
theorem dX6_rest_1 : decode cX6_rest 1 = .ok (.iload_n 1, 1) := by decide +kernel
theorem dX6_rest_2 : decode cX6_rest 2 = .ok (.invokevirtual 224, 3) := by decide +kernel
theorem dX6_rest_5 : decode cX6_rest 5 = .ok (.ifCond .ne 5, 3) := by decide +kernel
theorem dX6_rest_8 : decode cX6_rest 8 = .ok (.iconst (-1), 1) := by decide +kernel
theorem dX6_rest_9 : decode cX6_rest 9 = .ok (.ireturn, 1) := by decide +kernel
theorem dX6_rest_10 : decode cX6_rest 10 = .ok (.aload_n 0, 1) := by decide +kernel
theorem dX6_rest_11 : decode cX6_rest 11 = .ok (.invokevirtual 239, 3) := by decide +kernel
theorem dX6_rest_14 : decode cX6_rest 14 = .ok (.bipush (-9), 2) := by decide +kernel
theorem dX6_rest_16 : decode cX6_rest 16 = .ok (.istore_n 2, 1) := by decide +kernel
theorem dX6_rest_17 : decode cX6_rest 17 = .ok (.iconst 0, 1) := by decide +kernel
theorem dX6_rest_18 : decode cX6_rest 18 = .ok (.istore_n 3, 1) := by decide +kernel
theorem dX6_rest_19 : decode cX6_rest 19 = .ok (.iconst 0, 1) := by decide +kernel
theorem dX6_rest_20 : decode cX6_rest 20 = .ok (.istore 4, 2) := by decide +kernel
theorem dX6_rest_22 : decode cX6_rest 22 = .ok (.iload 4, 2) := by decide +kernel
theorem dX6_rest_24 : decode cX6_rest 24 = .ok (.bipush 100, 2) := by decide +kernel
theorem dX6_rest_26 : decode cX6_rest 26 = .ok (.if_icmp .gt 45, 3) := by decide +kernel
theorem dX6_rest_29 : decode cX6_rest 29 = .ok (.iload_n 2, 1) := by decide +kernel
theorem dX6_rest_30 : decode cX6_rest 30 = .ok (.bipush (-9), 2) := by decide +kernel
theorem dX6_rest_32 : decode cX6_rest 32 = .ok (.if_icmp .ne 39, 3) := by decide +kernel
theorem dX6_rest_35 : decode cX6_rest 35 = .ok (.aload_n 0, 1) := by decide +kernel
theorem dX6_rest_36 : decode cX6_rest 36 = .ok (.invokevirtual 248, 3) := by decide +kernel
theorem dX6_rest_39 : decode cX6_rest 39 = .ok (.istore_n 3, 1) := by decide +kernel
theorem dX6_rest_40 : decode cX6_rest 40 = .ok (.aload_n 0, 1) := by decide +kernel
theorem dX6_rest_41 : decode cX6_rest 41 = .ok (.invokevirtual 251, 3) := by decide +kernel
theorem dX6_rest_44 : decode cX6_rest 44 = .ok (.aload_n 0, 1) := by decide +kernel
theorem dX6_rest_45 : decode cX6_rest 45 = .ok (.iload_n 1, 1) := by decide +kernel
theorem dX6_rest_46 : decode cX6_rest 46 = .ok (.invokevirtual 221, 3) := by decide +kernel
theorem dX6_rest_49 : decode cX6_rest 49 = .ok (.pop, 1) := by decide +kernel
theorem dX6_rest_50 : decode cX6_rest 50 = .ok (.aload_n 0, 1) := by decide +kernel
theorem dX6_rest_51 : decode cX6_rest 51 = .ok (.invokevirtual 254, 3) := by decide +kernel
theorem dX6_rest_54 : decode cX6_rest 54 = .ok (.ifCond .eq 8, 3) := by decide +kernel
theorem dX6_rest_57 : decode cX6_rest 57 = .ok (.iload 4, 2) := by decide +kernel
theorem dX6_rest_59 : decode cX6_rest 59 = .ok (.goto 5, 3) := by decide +kernel
theorem dX6_rest_62 : decode cX6_rest 62 = .ok (.bipush (-9), 2) := by decide +kernel
theorem dX6_rest_64 : decode cX6_rest 64 = .ok (.istore_n 2, 1) := by decide +kernel
theorem dX6_rest_65 : decode cX6_rest 65 = .ok (.iinc 4 1, 3) := by decide +kernel
theorem dX6_rest_68 : decode cX6_rest 68 = .ok (.goto (-46), 3) := by decide +kernel
theorem dX6_rest_71 : decode cX6_rest 71 = .ok (.aload_n 0, 1) := by decide +kernel
theorem dX6_rest_72 : decode cX6_rest 72 = .ok (.invokevirtual 242, 3) := by decide +kernel
theorem dX6_rest_75 : decode cX6_rest 75 = .ok (.iload_n 2, 1) := by decide +kernel
theorem dX6_rest_76 : decode cX6_rest 76 = .ok (.bipush (-9), 2) := by decide +kernel
theorem dX6_rest_78 : decode cX6_rest 78 = .ok (.if_icmp .ne 8, 3) := by decide +kernel
theorem dX6_rest_81 : decode cX6_rest 81 = .ok (.bipush (-9), 2) := by decide +kernel
theorem dX6_rest_83 : decode cX6_rest 83 = .ok (.goto 9, 3) := by decide +kernel
theorem dX6_rest_86 : decode cX6_rest 86 = .ok (.aload_n 0, 1) := by decide +kernel
theorem dX6_rest_87 : decode cX6_rest 87 = .ok (.iload_n 3, 1) := by decide +kernel
theorem dX6_rest_88 : decode cX6_rest 88 = .ok (.iload_n 2, 1) := by decide +kernel
theorem dX6_rest_89 : decode cX6_rest 89 = .ok (.invokevirtual 118, 3) := by decide +kernel
theorem dX6_rest_92 : decode cX6_rest 92 = .ok (.ireturn, 1) := by decide +kernel
theorem dX6_round_0 : decode cX6_round 0 = .ok (.aload_n 0, 1) := by decide +kernel
theorem dX6_round_1 : decode cX6_round 1 = .ok (.iload_n 1, 1) := by decide +kernel
theorem dX6_round_2 : decode cX6_round 2 = .ok (.invokevirtual 224, 3) := by decide +kernel
theorem dX6_round_5 : decode cX6_round 5 = .ok (.ifCond .ne 5, 3) := by decide +kernel
theorem dX6_round_8 : decode cX6_round 8 = .ok (.iconst (-1), 1) := by decide +kernel
theorem dX6_round_9 : decode cX6_round 9 = .ok (.ireturn, 1) := by decide +kernel
theorem dX6_round_10 : decode cX6_round 10 = .ok (.aload_n 0, 1) := by decide +kernel
theorem dX6_round_11 : decode cX6_round 11 = .ok (.invokevirtual 239, 3) := by decide +kernel
theorem dX6_round_14 : decode cX6_round 14 = .ok (.aload_n 0, 1) := by decide +kernel
theorem dX6_round_15 : decode cX6_round 15 = .ok (.invokevirtual 251, 3) := by decide +kernel
theorem dX6_round_18 : decode cX6_round 18 = .ok (.bipush (-9), 2) := by decide +kernel
theorem dX6_round_20 : decode cX6_round 20 = .ok (.istore_n 2, 1) := by decide +kernel
theorem dX6_round_21 : decode cX6_round 21 = .ok (.iconst 1, 1) := by decide +kernel
theorem dX6_round_22 : decode cX6_round 22 = .ok (.istore_n 3, 1) := by decide +kernel
theorem dX6_round_23 : decode cX6_round 23 = .ok (.iload_n 3, 1) := by decide +kernel
theorem dX6_round_24 : decode cX6_round 24 = .ok (.bipush 100, 2) := by decide +kernel
theorem dX6_round_26 : decode cX6_round 26 = .ok (.if_icmp .gt 35, 3) := by decide +kernel
theorem dX6_round_29 : decode cX6_round 29 = .ok (.iload_n 2, 1) := by decide +kernel
theorem dX6_round_30 : decode cX6_round 30 = .ok (.bipush (-9), 2) := by decide +kernel
theorem dX6_round_32 : decode cX6_round 32 = .ok (.if_icmp .ne 29, 3) := by decide +kernel
theorem dX6_round_35 : decode cX6_round 35 = .ok (.aload_n 0, 1) := by decide +kernel
theorem dX6_round_36 : decode cX6_round 36 = .ok (.iload_n 1, 1) := by decide +kernel
theorem dX6_round_37 : decode cX6_round 37 = .ok (.invokevirtual 221, 3) := by decide +kernel
theorem dX6_round_40 : decode cX6_round 40 = .ok (.pop, 1) := by decide +kernel
theorem dX6_round_41 : decode cX6_round 41 = .ok (.aload_n 0, 1) := by decide +kernel
theorem dX6_round_42 : decode cX6_round 42 = .ok (.invokevirtual 254, 3) := by decide +kernel
theorem dX6_round_45 : decode cX6_round 45 = .ok (.ifCond .eq 7, 3) := by decide +kernel
theorem dX6_round_48 : decode cX6_round 48 = .ok (.iload_n 3, 1) := by decide +kernel
theorem dX6_round_49 : decode cX6_round 49 = .ok (.goto 5, 3) := by decide +kernel
theorem dX6_round_52 : decode cX6_round 52 = .ok (.bipush (-9), 2) := by decide +kernel
theorem dX6_round_54 : decode cX6_round 54 = .ok (.istore_n 2, 1) := by decide +kernel
theorem dX6_round_55 : decode cX6_round 55 = .ok (.iinc 3 1, 3) := by decide +kernel
theorem dX6_round_58 : decode cX6_round 58 = .ok (.goto (-35), 3) := by decide +kernel
theorem dX6_round_61 : decode cX6_round 61 = .ok (.aload_n 0, 1) := by decide +kernel
theorem dX6_round_62 : decode cX6_round 62 = .ok (.invokevirtual 242, 3) := by decide +kernel
theorem dX6_round_65 : decode cX6_round 65 = .ok (.iload_n 2, 1) := by decide +kernel
theorem dX6_round_66 : decode cX6_round 66 = .ok (.ireturn, 1) := by decide +kernel
theorem dX6_bestOf_0 : decode cX6_bestOf 0 = .ok (.aload_n 0, 1) := by decide +kernel
theorem dX6_bestOf_1 : decode cX6_bestOf 1 = .ok (.invokevirtual 239, 3) := by decide +kernel
theorem dX6_bestOf_4 : decode cX6_bestOf 4 = .ok (.bipush (-9), 2) := by decide +kernel
theorem dX6_bestOf_6 : decode cX6_bestOf 6 = .ok (.istore_n 3, 1) := by decide +kernel
theorem dX6_bestOf_7 : decode cX6_bestOf 7 = .ok (.iconst 0, 1) := by decide +kernel
theorem dX6_bestOf_8 : decode cX6_bestOf 8 = .ok (.istore 4, 2) := by decide +kernel
theorem dX6_bestOf_10 : decode cX6_bestOf 10 = .ok (.iconst 0, 1) := by decide +kernel
theorem dX6_bestOf_11 : decode cX6_bestOf 11 = .ok (.istore 5, 2) := by decide +kernel
theorem dX6_bestOf_13 : decode cX6_bestOf 13 = .ok (.iload 5, 2) := by decide +kernel
theorem dX6_bestOf_15 : decode cX6_bestOf 15 = .ok (.aload_n 0, 1) := by decide +kernel
theorem dX6_bestOf_16 : decode cX6_bestOf 16 = .ok (.invokevirtual 217, 3) := by decide +kernel
theorem dX6_bestOf_19 : decode cX6_bestOf 19 = .ok (.if_icmp .ge 78, 3) := by decide +kernel
theorem dX6_bestOf_22 : decode cX6_bestOf 22 = .ok (.aload_n 0, 1) := by decide +kernel
theorem dX6_bestOf_23 : decode cX6_bestOf 23 = .ok (.iload 5, 2) := by decide +kernel
theorem dX6_bestOf_25 : decode cX6_bestOf 25 = .ok (.invokevirtual 221, 3) := by decide +kernel
theorem dX6_bestOf_28 : decode cX6_bestOf 28 = .ok (.pop, 1) := by decide +kernel
theorem dX6_bestOf_29 : decode cX6_bestOf 29 = .ok (.aload_n 0, 1) := by decide +kernel
theorem dX6_bestOf_30 : decode cX6_bestOf 30 = .ok (.getfield 28, 3) := by decide +kernel
theorem dX6_bestOf_33 : decode cX6_bestOf 33 = .ok (.iload_n 1, 1) := by decide +kernel
theorem dX6_bestOf_34 : decode cX6_bestOf 34 = .ok (.iaload, 1) := by decide +kernel
theorem dX6_bestOf_35 : decode cX6_bestOf 35 = .ok (.istore 6, 2) := by decide +kernel
theorem dX6_bestOf_37 : decode cX6_bestOf 37 = .ok (.aload_n 0, 1) := by decide +kernel
theorem dX6_bestOf_38 : decode cX6_bestOf 38 = .ok (.invokevirtual 242, 3) := by decide +kernel
theorem dX6_bestOf_41 : decode cX6_bestOf 41 = .ok (.iload_n 3, 1) := by decide +kernel
theorem dX6_bestOf_42 : decode cX6_bestOf 42 = .ok (.bipush (-9), 2) := by decide +kernel
theorem dX6_bestOf_44 : decode cX6_bestOf 44 = .ok (.if_icmp .eq 14, 3) := by decide +kernel
theorem dX6_bestOf_47 : decode cX6_bestOf 47 = .ok (.iload_n 2, 1) := by decide +kernel
theorem dX6_bestOf_48 : decode cX6_bestOf 48 = .ok (.iload 6, 2) := by decide +kernel
theorem dX6_bestOf_50 : decode cX6_bestOf 50 = .ok (.imul, 1) := by decide +kernel
theorem dX6_bestOf_51 : decode cX6_bestOf 51 = .ok (.iload_n 2, 1) := by decide +kernel
theorem dX6_bestOf_52 : decode cX6_bestOf 52 = .ok (.iload 4, 2) := by decide +kernel
theorem dX6_bestOf_54 : decode cX6_bestOf 54 = .ok (.imul, 1) := by decide +kernel
theorem dX6_bestOf_55 : decode cX6_bestOf 55 = .ok (.if_icmp .le 7, 3) := by decide +kernel
theorem dX6_bestOf_58 : decode cX6_bestOf 58 = .ok (.iconst 1, 1) := by decide +kernel
theorem dX6_bestOf_59 : decode cX6_bestOf 59 = .ok (.goto 4, 3) := by decide +kernel
theorem dX6_bestOf_62 : decode cX6_bestOf 62 = .ok (.iconst 0, 1) := by decide +kernel
theorem dX6_bestOf_63 : decode cX6_bestOf 63 = .ok (.istore 7, 2) := by decide +kernel
theorem dX6_bestOf_65 : decode cX6_bestOf 65 = .ok (.iload 7, 2) := by decide +kernel
theorem dX6_bestOf_67 : decode cX6_bestOf 67 = .ok (.ifCond .eq 8, 3) := by decide +kernel
theorem dX6_bestOf_70 : decode cX6_bestOf 70 = .ok (.iload 5, 2) := by decide +kernel
theorem dX6_bestOf_72 : decode cX6_bestOf 72 = .ok (.goto 4, 3) := by decide +kernel
theorem dX6_bestOf_75 : decode cX6_bestOf 75 = .ok (.iload_n 3, 1) := by decide +kernel
theorem dX6_bestOf_76 : decode cX6_bestOf 76 = .ok (.istore_n 3, 1) := by decide +kernel
theorem dX6_bestOf_77 : decode cX6_bestOf 77 = .ok (.iload 7, 2) := by decide +kernel
theorem dX6_bestOf_79 : decode cX6_bestOf 79 = .ok (.ifCond .eq 8, 3) := by decide +kernel
theorem dX6_bestOf_82 : decode cX6_bestOf 82 = .ok (.iload 6, 2) := by decide +kernel
theorem dX6_bestOf_84 : decode cX6_bestOf 84 = .ok (.goto 5, 3) := by decide +kernel
theorem dX6_bestOf_87 : decode cX6_bestOf 87 = .ok (.iload 4, 2) := by decide +kernel
theorem dX6_bestOf_89 : decode cX6_bestOf 89 = .ok (.istore 4, 2) := by decide +kernel
theorem dX6_bestOf_91 : decode cX6_bestOf 91 = .ok (.iinc 5 1, 3) := by decide +kernel
theorem dX6_bestOf_94 : decode cX6_bestOf 94 = .ok (.goto (-81), 3) := by decide +kernel
theorem dX6_bestOf_97 : decode cX6_bestOf 97 = .ok (.aload_n 0, 1) := by decide +kernel
theorem dX6_bestOf_98 : decode cX6_bestOf 98 = .ok (.iload 4, 2) := by decide +kernel
theorem dX6_bestOf_100 : decode cX6_bestOf 100 = .ok (.iload_n 3, 1) := by decide +kernel
theorem dX6_bestOf_101 : decode cX6_bestOf 101 = .ok (.invokevirtual 118, 3) := by decide +kernel
theorem dX6_bestOf_104 : decode cX6_bestOf 104 = .ok (.ireturn, 1) := by decide +kernel
theorem dX6_highest_0 : decode cX6_highest 0 = .ok (.aload_n 0, 1) := by decide +kernel
theorem dX6_highest_1 : decode cX6_highest 1 = .ok (.iload_n 1, 1) := by decide +kernel
theorem dX6_highest_2 : decode cX6_highest 2 = .ok (.invokevirtual 163, 3) := by decide +kernel
theorem dX6_highest_5 : decode cX6_highest 5 = .ok (.ifCond .eq 12, 3) := by decide +kernel
theorem dX6_highest_8 : decode cX6_highest 8 = .ok (.aload_n 0, 1) := by decide +kernel
theorem dX6_highest_9 : decode cX6_highest 9 = .ok (.iload_n 1, 1) := by decide +kernel
theorem dX6_highest_10 : decode cX6_highest 10 = .ok (.iconst 1, 1) := by decide +kernel
theorem dX6_highest_11 : decode cX6_highest 11 = .ok (.invokevirtual 258, 3) := by decide +kernel
theorem dX6_highest_14 : decode cX6_highest 14 = .ok (.goto 4, 3) := by decide +kernel
theorem dX6_highest_17 : decode cX6_highest 17 = .ok (.iconst (-1), 1) := by decide +kernel
theorem dX6_highest_18 : decode cX6_highest 18 = .ok (.ireturn, 1) := by decide +kernel
theorem dX6_lowest_0 : decode cX6_lowest 0 = .ok (.aload_n 0, 1) := by decide +kernel
theorem dX6_lowest_1 : decode cX6_lowest 1 = .ok (.iload_n 1, 1) := by decide +kernel
theorem dX6_lowest_2 : decode cX6_lowest 2 = .ok (.invokevirtual 163, 3) := by decide +kernel
theorem dX6_lowest_5 : decode cX6_lowest 5 = .ok (.ifCond .eq 12, 3) := by decide +kernel
theorem dX6_lowest_8 : decode cX6_lowest 8 = .ok (.aload_n 0, 1) := by decide +kernel
theorem dX6_lowest_9 : decode cX6_lowest 9 = .ok (.iload_n 1, 1) := by decide +kernel
theorem dX6_lowest_10 : decode cX6_lowest 10 = .ok (.iconst (-1), 1) := by decide +kernel
theorem dX6_lowest_11 : decode cX6_lowest 11 = .ok (.invokevirtual 258, 3) := by decide +kernel
theorem dX6_lowest_14 : decode cX6_lowest 14 = .ok (.goto 4, 3) := by decide +kernel
theorem dX6_lowest_17 : decode cX6_lowest 17 = .ok (.iconst (-1), 1) := by decide +kernel
theorem dX6_lowest_18 : decode cX6_lowest 18 = .ok (.ireturn, 1) := by decide +kernel
theorem dX6_isGoal_0 : decode cX6_isGoal 0 = .ok (.aload_n 0, 1) := by decide +kernel
theorem dX6_isGoal_1 : decode cX6_isGoal 1 = .ok (.getfield 261, 3) := by decide +kernel
theorem dX6_isGoal_4 : decode cX6_isGoal 4 = .ok (.ifCond .ge 25, 3) := by decide +kernel
theorem dX6_isGoal_7 : decode cX6_isGoal 7 = .ok (.aload_n 0, 1) := by decide +kernel
theorem dX6_isGoal_8 : decode cX6_isGoal 8 = .ok (.getfield 28, 3) := by decide +kernel
theorem dX6_isGoal_11 : decode cX6_isGoal 11 = .ok (.aload_n 0, 1) := by decide +kernel
theorem dX6_isGoal_12 : decode cX6_isGoal 12 = .ok (.getfield 264, 3) := by decide +kernel
theorem dX6_isGoal_15 : decode cX6_isGoal 15 = .ok (.iaload, 1) := by decide +kernel
theorem dX6_isGoal_16 : decode cX6_isGoal 16 = .ok (.aload_n 0, 1) := by decide +kernel
theorem dX6_isGoal_17 : decode cX6_isGoal 17 = .ok (.getfield 267, 3) := by decide +kernel
theorem dX6_isGoal_20 : decode cX6_isGoal 20 = .ok (.if_icmp .lt 7, 3) := by decide +kernel
theorem dX6_isGoal_23 : decode cX6_isGoal 23 = .ok (.iconst 1, 1) := by decide +kernel
theorem dX6_isGoal_24 : decode cX6_isGoal 24 = .ok (.goto 4, 3) := by decide +kernel
theorem dX6_isGoal_27 : decode cX6_isGoal 27 = .ok (.iconst 0, 1) := by decide +kernel
theorem dX6_isGoal_28 : decode cX6_isGoal 28 = .ok (.ireturn, 1) := by decide +kernel
theorem dX6_isGoal_29 : decode cX6_isGoal 29 = .ok (.iconst 1, 1) := by decide +kernel
theorem dX6_isGoal_30 : decode cX6_isGoal 30 = .ok (.istore_n 1, 1) := by decide +kernel
theorem dX6_isGoal_31 : decode cX6_isGoal 31 = .ok (.iconst 0, 1) := by decide +kernel
theorem dX6_isGoal_32 : decode cX6_isGoal 32 = .ok (.istore_n 2, 1) := by decide +kernel
theorem dX6_isGoal_33 : decode cX6_isGoal 33 = .ok (.iload_n 2, 1) := by decide +kernel
theorem dX6_isGoal_34 : decode cX6_isGoal 34 = .ok (.aload_n 0, 1) := by decide +kernel
theorem dX6_isGoal_35 : decode cX6_isGoal 35 = .ok (.getfield 151, 3) := by decide +kernel
theorem dX6_isGoal_38 : decode cX6_isGoal 38 = .ok (.if_icmp .ge 39, 3) := by decide +kernel
theorem dX6_isGoal_41 : decode cX6_isGoal 41 = .ok (.iload_n 1, 1) := by decide +kernel
theorem dX6_isGoal_42 : decode cX6_isGoal 42 = .ok (.ifCond .eq 27, 3) := by decide +kernel
theorem dX6_isGoal_45 : decode cX6_isGoal 45 = .ok (.aload_n 0, 1) := by decide +kernel
theorem dX6_isGoal_46 : decode cX6_isGoal 46 = .ok (.getfield 261, 3) := by decide +kernel
theorem dX6_isGoal_49 : decode cX6_isGoal 49 = .ok (.iload_n 2, 1) := by decide +kernel
theorem dX6_isGoal_50 : decode cX6_isGoal 50 = .ok (.invokestatic 185, 3) := by decide +kernel
theorem dX6_isGoal_53 : decode cX6_isGoal 53 = .ok (.ifCond .eq 12, 3) := by decide +kernel
theorem dX6_isGoal_56 : decode cX6_isGoal 56 = .ok (.aload_n 0, 1) := by decide +kernel
theorem dX6_isGoal_57 : decode cX6_isGoal 57 = .ok (.getfield 28, 3) := by decide +kernel
theorem dX6_isGoal_60 : decode cX6_isGoal 60 = .ok (.iload_n 2, 1) := by decide +kernel
theorem dX6_isGoal_61 : decode cX6_isGoal 61 = .ok (.iaload, 1) := by decide +kernel
theorem dX6_isGoal_62 : decode cX6_isGoal 62 = .ok (.ifCond .ne 7, 3) := by decide +kernel
theorem dX6_isGoal_65 : decode cX6_isGoal 65 = .ok (.iconst 1, 1) := by decide +kernel
theorem dX6_isGoal_66 : decode cX6_isGoal 66 = .ok (.goto 4, 3) := by decide +kernel
theorem dX6_isGoal_69 : decode cX6_isGoal 69 = .ok (.iconst 0, 1) := by decide +kernel
theorem dX6_isGoal_70 : decode cX6_isGoal 70 = .ok (.istore_n 1, 1) := by decide +kernel
theorem dX6_isGoal_71 : decode cX6_isGoal 71 = .ok (.iinc 2 1, 3) := by decide +kernel
theorem dX6_isGoal_74 : decode cX6_isGoal 74 = .ok (.goto (-41), 3) := by decide +kernel
theorem dX6_isGoal_77 : decode cX6_isGoal 77 = .ok (.iload_n 1, 1) := by decide +kernel
theorem dX6_isGoal_78 : decode cX6_isGoal 78 = .ok (.ireturn, 1) := by decide +kernel
theorem dX6_playOn_0 : decode cX6_playOn 0 = .ok (.iload_n 1, 1) := by decide +kernel
theorem dX6_playOn_1 : decode cX6_playOn 1 = .ok (.iload_n 2, 1) := by decide +kernel
theorem dX6_playOn_2 : decode cX6_playOn 2 = .ok (.if_icmp .ne 53, 3) := by decide +kernel
theorem dX6_playOn_5 : decode cX6_playOn 5 = .ok (.aload_n 0, 1) := by decide +kernel
theorem dX6_playOn_6 : decode cX6_playOn 6 = .ok (.invokevirtual 270, 3) := by decide +kernel
theorem dX6_playOn_9 : decode cX6_playOn 9 = .ok (.ifCond .eq 45, 3) := by decide +kernel
theorem dX6_playOn_12 : decode cX6_playOn 12 = .ok (.iload_n 3, 1) := by decide +kernel
theorem dX6_playOn_13 : decode cX6_playOn 13 = .ok (.aload_n 0, 1) := by decide +kernel
theorem dX6_playOn_14 : decode cX6_playOn 14 = .ok (.getfield 273, 3) := by decide +kernel
theorem dX6_playOn_17 : decode cX6_playOn 17 = .ok (.if_icmp .ge 37, 3) := by decide +kernel
theorem dX6_playOn_20 : decode cX6_playOn 20 = .ok (.aload_n 0, 1) := by decide +kernel
theorem dX6_playOn_21 : decode cX6_playOn 21 = .ok (.iload_n 3, 1) := by decide +kernel
theorem dX6_playOn_22 : decode cX6_playOn 22 = .ok (.putfield 273, 3) := by decide +kernel
theorem dX6_playOn_25 : decode cX6_playOn 25 = .ok (.iconst 0, 1) := by decide +kernel
theorem dX6_playOn_26 : decode cX6_playOn 26 = .ok (.istore 4, 2) := by decide +kernel
theorem dX6_playOn_28 : decode cX6_playOn 28 = .ok (.iload 4, 2) := by decide +kernel
theorem dX6_playOn_30 : decode cX6_playOn 30 = .ok (.iload_n 2, 1) := by decide +kernel
theorem dX6_playOn_31 : decode cX6_playOn 31 = .ok (.if_icmp .ge 23, 3) := by decide +kernel
theorem dX6_playOn_34 : decode cX6_playOn 34 = .ok (.aload_n 0, 1) := by decide +kernel
theorem dX6_playOn_35 : decode cX6_playOn 35 = .ok (.getfield 79, 3) := by decide +kernel
theorem dX6_playOn_38 : decode cX6_playOn 38 = .ok (.iload 4, 2) := by decide +kernel
theorem dX6_playOn_40 : decode cX6_playOn 40 = .ok (.aload_n 0, 1) := by decide +kernel
theorem dX6_playOn_41 : decode cX6_playOn 41 = .ok (.getfield 76, 3) := by decide +kernel
theorem dX6_playOn_44 : decode cX6_playOn 44 = .ok (.iload 4, 2) := by decide +kernel
theorem dX6_playOn_46 : decode cX6_playOn 46 = .ok (.iaload, 1) := by decide +kernel
theorem dX6_playOn_47 : decode cX6_playOn 47 = .ok (.iastore, 1) := by decide +kernel
theorem dX6_playOn_48 : decode cX6_playOn 48 = .ok (.iinc 4 1, 3) := by decide +kernel
theorem dX6_playOn_51 : decode cX6_playOn 51 = .ok (.goto (-23), 3) := by decide +kernel
theorem dX6_playOn_54 : decode cX6_playOn 54 = .ok (.return_, 1) := by decide +kernel
theorem dX6_playOn_55 : decode cX6_playOn 55 = .ok (.aload_n 0, 1) := by decide +kernel
theorem dX6_playOn_56 : decode cX6_playOn 56 = .ok (.aload_n 0, 1) := by decide +kernel
theorem dX6_playOn_57 : decode cX6_playOn 57 = .ok (.getfield 73, 3) := by decide +kernel
theorem dX6_playOn_60 : decode cX6_playOn 60 = .ok (.bipush 14, 2) := by decide +kernel
theorem dX6_playOn_62 : decode cX6_playOn 62 = .ok (.iload_n 1, 1) := by decide +kernel
theorem dX6_playOn_63 : decode cX6_playOn 63 = .ok (.imul, 1) := by decide +kernel
theorem dX6_playOn_64 : decode cX6_playOn 64 = .ok (.invokevirtual 204, 3) := by decide +kernel
theorem dX6_playOn_67 : decode cX6_playOn 67 = .ok (.iconst 0, 1) := by decide +kernel
theorem dX6_playOn_68 : decode cX6_playOn 68 = .ok (.istore 4, 2) := by decide +kernel
theorem dX6_playOn_70 : decode cX6_playOn 70 = .ok (.iload 4, 2) := by decide +kernel
theorem dX6_playOn_72 : decode cX6_playOn 72 = .ok (.aload_n 0, 1) := by decide +kernel
theorem dX6_playOn_73 : decode cX6_playOn 73 = .ok (.invokevirtual 217, 3) := by decide +kernel
theorem dX6_playOn_76 : decode cX6_playOn 76 = .ok (.if_icmp .ge 52, 3) := by decide +kernel
theorem dX6_playOn_79 : decode cX6_playOn 79 = .ok (.aload_n 0, 1) := by decide +kernel
theorem dX6_playOn_80 : decode cX6_playOn 80 = .ok (.getfield 76, 3) := by decide +kernel
theorem dX6_playOn_83 : decode cX6_playOn 83 = .ok (.iload_n 1, 1) := by decide +kernel
theorem dX6_playOn_84 : decode cX6_playOn 84 = .ok (.iload 4, 2) := by decide +kernel
theorem dX6_playOn_86 : decode cX6_playOn 86 = .ok (.iastore, 1) := by decide +kernel
theorem dX6_playOn_87 : decode cX6_playOn 87 = .ok (.aload_n 0, 1) := by decide +kernel
theorem dX6_playOn_88 : decode cX6_playOn 88 = .ok (.iload 4, 2) := by decide +kernel
theorem dX6_playOn_90 : decode cX6_playOn 90 = .ok (.invokevirtual 221, 3) := by decide +kernel
theorem dX6_playOn_93 : decode cX6_playOn 93 = .ok (.pop, 1) := by decide +kernel
theorem dX6_playOn_94 : decode cX6_playOn 94 = .ok (.aload_n 0, 1) := by decide +kernel
theorem dX6_playOn_95 : decode cX6_playOn 95 = .ok (.iload_n 1, 1) := by decide +kernel
theorem dX6_playOn_96 : decode cX6_playOn 96 = .ok (.iconst 1, 1) := by decide +kernel
theorem dX6_playOn_97 : decode cX6_playOn 97 = .ok (.iadd, 1) := by decide +kernel
theorem dX6_playOn_98 : decode cX6_playOn 98 = .ok (.iload_n 2, 1) := by decide +kernel
theorem dX6_playOn_99 : decode cX6_playOn 99 = .ok (.iload_n 3, 1) := by decide +kernel
theorem dX6_playOn_100 : decode cX6_playOn 100 = .ok (.aload_n 0, 1) := by decide +kernel
theorem dX6_playOn_101 : decode cX6_playOn 101 = .ok (.iload 4, 2) := by decide +kernel
theorem dX6_playOn_103 : decode cX6_playOn 103 = .ok (.invokevirtual 230, 3) := by decide +kernel
theorem dX6_playOn_106 : decode cX6_playOn 106 = .ok (.iadd, 1) := by decide +kernel
theorem dX6_playOn_107 : decode cX6_playOn 107 = .ok (.invokevirtual 276, 3) := by decide +kernel
theorem dX6_playOn_110 : decode cX6_playOn 110 = .ok (.aload_n 0, 1) := by decide +kernel
theorem dX6_playOn_111 : decode cX6_playOn 111 = .ok (.aload_n 0, 1) := by decide +kernel
theorem dX6_playOn_112 : decode cX6_playOn 112 = .ok (.getfield 73, 3) := by decide +kernel
theorem dX6_playOn_115 : decode cX6_playOn 115 = .ok (.bipush 14, 2) := by decide +kernel
theorem dX6_playOn_117 : decode cX6_playOn 117 = .ok (.iload_n 1, 1) := by decide +kernel
theorem dX6_playOn_118 : decode cX6_playOn 118 = .ok (.imul, 1) := by decide +kernel
theorem dX6_playOn_119 : decode cX6_playOn 119 = .ok (.invokevirtual 208, 3) := by decide +kernel
theorem dX6_playOn_122 : decode cX6_playOn 122 = .ok (.iinc 4 1, 3) := by decide +kernel
theorem dX6_playOn_125 : decode cX6_playOn 125 = .ok (.goto (-55), 3) := by decide +kernel
theorem dX6_playOn_128 : decode cX6_playOn 128 = .ok (.return_, 1) := by decide +kernel
theorem dX6_layBest_0 : decode cX6_layBest 0 = .ok (.aload_n 0, 1) := by decide +kernel
theorem dX6_layBest_1 : decode cX6_layBest 1 = .ok (.iload_n 1, 1) := by decide +kernel
theorem dX6_layBest_2 : decode cX6_layBest 2 = .ok (.iload_n 2, 1) := by decide +kernel
theorem dX6_layBest_3 : decode cX6_layBest 3 = .ok (.invokevirtual 233, 3) := by decide +kernel
theorem dX6_layBest_6 : decode cX6_layBest 6 = .ok (.pop, 1) := by decide +kernel
theorem dX6_layBest_7 : decode cX6_layBest 7 = .ok (.iconst 0, 1) := by decide +kernel
theorem dX6_layBest_8 : decode cX6_layBest 8 = .ok (.istore_n 3, 1) := by decide +kernel
theorem dX6_layBest_9 : decode cX6_layBest 9 = .ok (.iload_n 3, 1) := by decide +kernel
theorem dX6_layBest_10 : decode cX6_layBest 10 = .ok (.iload_n 2, 1) := by decide +kernel
theorem dX6_layBest_11 : decode cX6_layBest 11 = .ok (.if_icmp .ge 21, 3) := by decide +kernel
theorem dX6_layBest_14 : decode cX6_layBest 14 = .ok (.aload_n 0, 1) := by decide +kernel
theorem dX6_layBest_15 : decode cX6_layBest 15 = .ok (.iload_n 1, 1) := by decide +kernel
theorem dX6_layBest_16 : decode cX6_layBest 16 = .ok (.iload_n 3, 1) := by decide +kernel
theorem dX6_layBest_17 : decode cX6_layBest 17 = .ok (.aload_n 0, 1) := by decide +kernel
theorem dX6_layBest_18 : decode cX6_layBest 18 = .ok (.getfield 79, 3) := by decide +kernel
theorem dX6_layBest_21 : decode cX6_layBest 21 = .ok (.iload_n 3, 1) := by decide +kernel
theorem dX6_layBest_22 : decode cX6_layBest 22 = .ok (.iaload, 1) := by decide +kernel
theorem dX6_layBest_23 : decode cX6_layBest 23 = .ok (.invokevirtual 107, 3) := by decide +kernel
theorem dX6_layBest_26 : decode cX6_layBest 26 = .ok (.iinc 3 1, 3) := by decide +kernel
theorem dX6_layBest_29 : decode cX6_layBest 29 = .ok (.goto (-20), 3) := by decide +kernel
theorem dX6_layBest_32 : decode cX6_layBest 32 = .ok (.return_, 1) := by decide +kernel
theorem dX6_flat_0 : decode cX6_flat 0 = .ok (.aload_n 0, 1) := by decide +kernel
theorem dX6_flat_1 : decode cX6_flat 1 = .ok (.iload_n 1, 1) := by decide +kernel
theorem dX6_flat_2 : decode cX6_flat 2 = .ok (.invokevirtual 214, 3) := by decide +kernel
theorem dX6_flat_5 : decode cX6_flat 5 = .ok (.ifCond .eq 10, 3) := by decide +kernel
theorem dX6_flat_8 : decode cX6_flat 8 = .ok (.iload_n 2, 1) := by decide +kernel
theorem dX6_flat_9 : decode cX6_flat 9 = .ok (.invokestatic 96, 3) := by decide +kernel
theorem dX6_flat_12 : decode cX6_flat 12 = .ok (.ifCond .ne 5, 3) := by decide +kernel
theorem dX6_flat_15 : decode cX6_flat 15 = .ok (.iconst (-1), 1) := by decide +kernel
theorem dX6_flat_16 : decode cX6_flat 16 = .ok (.ireturn, 1) := by decide +kernel
theorem dX6_flat_17 : decode cX6_flat 17 = .ok (.aload_n 0, 1) := by decide +kernel
theorem dX6_flat_18 : decode cX6_flat 18 = .ok (.getfield 151, 3) := by decide +kernel
theorem dX6_flat_21 : decode cX6_flat 21 = .ok (.ifCond .ne 6, 3) := by decide +kernel
theorem dX6_flat_24 : decode cX6_flat 24 = .ok (.bipush (-4), 2) := by decide +kernel
theorem dX6_flat_26 : decode cX6_flat 26 = .ok (.ireturn, 1) := by decide +kernel
theorem dX6_flat_27 : decode cX6_flat 27 = .ok (.aload_n 0, 1) := by decide +kernel
theorem dX6_flat_28 : decode cX6_flat 28 = .ok (.iload_n 1, 1) := by decide +kernel
theorem dX6_flat_29 : decode cX6_flat 29 = .ok (.putfield 261, 3) := by decide +kernel
theorem dX6_flat_32 : decode cX6_flat 32 = .ok (.iconst 0, 1) := by decide +kernel
theorem dX6_flat_33 : decode cX6_flat 33 = .ok (.istore_n 3, 1) := by decide +kernel
theorem dX6_flat_34 : decode cX6_flat 34 = .ok (.iload_n 3, 1) := by decide +kernel
theorem dX6_flat_35 : decode cX6_flat 35 = .ok (.iconst 3, 1) := by decide +kernel
theorem dX6_flat_36 : decode cX6_flat 36 = .ok (.if_icmp .gt 49, 3) := by decide +kernel
theorem dX6_flat_39 : decode cX6_flat 39 = .ok (.aload_n 0, 1) := by decide +kernel
theorem dX6_flat_40 : decode cX6_flat 40 = .ok (.ldc_w 279, 3) := by decide +kernel
theorem dX6_flat_43 : decode cX6_flat 43 = .ok (.putfield 273, 3) := by decide +kernel
theorem dX6_flat_46 : decode cX6_flat 46 = .ok (.aload_n 0, 1) := by decide +kernel
theorem dX6_flat_47 : decode cX6_flat 47 = .ok (.iconst 0, 1) := by decide +kernel
theorem dX6_flat_48 : decode cX6_flat 48 = .ok (.iload_n 3, 1) := by decide +kernel
theorem dX6_flat_49 : decode cX6_flat 49 = .ok (.iconst 0, 1) := by decide +kernel
theorem dX6_flat_50 : decode cX6_flat 50 = .ok (.invokevirtual 276, 3) := by decide +kernel
theorem dX6_flat_53 : decode cX6_flat 53 = .ok (.aload_n 0, 1) := by decide +kernel
theorem dX6_flat_54 : decode cX6_flat 54 = .ok (.getfield 273, 3) := by decide +kernel
theorem dX6_flat_57 : decode cX6_flat 57 = .ok (.ldc_w 279, 3) := by decide +kernel
theorem dX6_flat_60 : decode cX6_flat 60 = .ok (.if_icmp .ge 19, 3) := by decide +kernel
theorem dX6_flat_63 : decode cX6_flat 63 = .ok (.aload_n 0, 1) := by decide +kernel
theorem dX6_flat_64 : decode cX6_flat 64 = .ok (.iload_n 2, 1) := by decide +kernel
theorem dX6_flat_65 : decode cX6_flat 65 = .ok (.iload_n 3, 1) := by decide +kernel
theorem dX6_flat_66 : decode cX6_flat 66 = .ok (.invokevirtual 280, 3) := by decide +kernel
theorem dX6_flat_69 : decode cX6_flat 69 = .ok (.aload_n 0, 1) := by decide +kernel
theorem dX6_flat_70 : decode cX6_flat 70 = .ok (.aload_n 0, 1) := by decide +kernel
theorem dX6_flat_71 : decode cX6_flat 71 = .ok (.getfield 273, 3) := by decide +kernel
theorem dX6_flat_74 : decode cX6_flat 74 = .ok (.iload_n 3, 1) := by decide +kernel
theorem dX6_flat_75 : decode cX6_flat 75 = .ok (.invokevirtual 118, 3) := by decide +kernel
theorem dX6_flat_78 : decode cX6_flat 78 = .ok (.ireturn, 1) := by decide +kernel
theorem dX6_flat_79 : decode cX6_flat 79 = .ok (.iinc 3 1, 3) := by decide +kernel
theorem dX6_flat_82 : decode cX6_flat 82 = .ok (.goto (-48), 3) := by decide +kernel
theorem dX6_flat_85 : decode cX6_flat 85 = .ok (.bipush (-9), 2) := by decide +kernel
theorem dX6_flat_87 : decode cX6_flat 87 = .ok (.ireturn, 1) := by decide +kernel
theorem dX6_raise_0 : decode cX6_raise 0 = .ok (.aload_n 0, 1) := by decide +kernel
theorem dX6_raise_1 : decode cX6_raise 1 = .ok (.iload_n 1, 1) := by decide +kernel
theorem dX6_raise_2 : decode cX6_raise 2 = .ok (.invokevirtual 163, 3) := by decide +kernel
theorem dX6_raise_5 : decode cX6_raise 5 = .ok (.ifCond .eq 30, 3) := by decide +kernel
theorem dX6_raise_8 : decode cX6_raise 8 = .ok (.iload_n 2, 1) := by decide +kernel
theorem dX6_raise_9 : decode cX6_raise 9 = .ok (.iconst 0, 1) := by decide +kernel
theorem dX6_raise_10 : decode cX6_raise 10 = .ok (.bipush 99, 2) := by decide +kernel
theorem dX6_raise_12 : decode cX6_raise 12 = .ok (.invokestatic 92, 3) := by decide +kernel
theorem dX6_raise_15 : decode cX6_raise 15 = .ok (.ifCond .eq 20, 3) := by decide +kernel
theorem dX6_raise_18 : decode cX6_raise 18 = .ok (.iload_n 3, 1) := by decide +kernel
theorem dX6_raise_19 : decode cX6_raise 19 = .ok (.iconst 0, 1) := by decide +kernel
theorem dX6_raise_20 : decode cX6_raise 20 = .ok (.iconst 3, 1) := by decide +kernel
theorem dX6_raise_21 : decode cX6_raise 21 = .ok (.invokestatic 92, 3) := by decide +kernel
theorem dX6_raise_24 : decode cX6_raise 24 = .ok (.ifCond .eq 11, 3) := by decide +kernel
theorem dX6_raise_27 : decode cX6_raise 27 = .ok (.iload 4, 2) := by decide +kernel
theorem dX6_raise_29 : decode cX6_raise 29 = .ok (.invokestatic 96, 3) := by decide +kernel
theorem dX6_raise_32 : decode cX6_raise 32 = .ok (.ifCond .ne 5, 3) := by decide +kernel
theorem dX6_raise_35 : decode cX6_raise 35 = .ok (.iconst (-1), 1) := by decide +kernel
theorem dX6_raise_36 : decode cX6_raise 36 = .ok (.ireturn, 1) := by decide +kernel
theorem dX6_raise_37 : decode cX6_raise 37 = .ok (.aload_n 0, 1) := by decide +kernel
theorem dX6_raise_38 : decode cX6_raise 38 = .ok (.iconst (-1), 1) := by decide +kernel
theorem dX6_raise_39 : decode cX6_raise 39 = .ok (.putfield 261, 3) := by decide +kernel
theorem dX6_raise_42 : decode cX6_raise 42 = .ok (.aload_n 0, 1) := by decide +kernel
theorem dX6_raise_43 : decode cX6_raise 43 = .ok (.iload_n 1, 1) := by decide +kernel
theorem dX6_raise_44 : decode cX6_raise 44 = .ok (.putfield 264, 3) := by decide +kernel
theorem dX6_raise_47 : decode cX6_raise 47 = .ok (.aload_n 0, 1) := by decide +kernel
theorem dX6_raise_48 : decode cX6_raise 48 = .ok (.iload_n 2, 1) := by decide +kernel
theorem dX6_raise_49 : decode cX6_raise 49 = .ok (.putfield 267, 3) := by decide +kernel
theorem dX6_raise_52 : decode cX6_raise 52 = .ok (.aload_n 0, 1) := by decide +kernel
theorem dX6_raise_53 : decode cX6_raise 53 = .ok (.ldc_w 279, 3) := by decide +kernel
theorem dX6_raise_56 : decode cX6_raise 56 = .ok (.putfield 273, 3) := by decide +kernel
theorem dX6_raise_59 : decode cX6_raise 59 = .ok (.aload_n 0, 1) := by decide +kernel
theorem dX6_raise_60 : decode cX6_raise 60 = .ok (.iconst 0, 1) := by decide +kernel
theorem dX6_raise_61 : decode cX6_raise 61 = .ok (.iload_n 3, 1) := by decide +kernel
theorem dX6_raise_62 : decode cX6_raise 62 = .ok (.iconst 0, 1) := by decide +kernel
theorem dX6_raise_63 : decode cX6_raise 63 = .ok (.invokevirtual 276, 3) := by decide +kernel
theorem dX6_raise_66 : decode cX6_raise 66 = .ok (.aload_n 0, 1) := by decide +kernel
theorem dX6_raise_67 : decode cX6_raise 67 = .ok (.getfield 273, 3) := by decide +kernel
theorem dX6_raise_70 : decode cX6_raise 70 = .ok (.ldc_w 279, 3) := by decide +kernel
theorem dX6_raise_73 : decode cX6_raise 73 = .ok (.if_icmp .ne 6, 3) := by decide +kernel
theorem dX6_raise_76 : decode cX6_raise 76 = .ok (.bipush (-9), 2) := by decide +kernel
theorem dX6_raise_78 : decode cX6_raise 78 = .ok (.ireturn, 1) := by decide +kernel
theorem dX6_raise_79 : decode cX6_raise 79 = .ok (.aload_n 0, 1) := by decide +kernel
theorem dX6_raise_80 : decode cX6_raise 80 = .ok (.iload 4, 2) := by decide +kernel
theorem dX6_raise_82 : decode cX6_raise 82 = .ok (.iload_n 3, 1) := by decide +kernel
theorem dX6_raise_83 : decode cX6_raise 83 = .ok (.invokevirtual 280, 3) := by decide +kernel
theorem dX6_raise_86 : decode cX6_raise 86 = .ok (.aload_n 0, 1) := by decide +kernel
theorem dX6_raise_87 : decode cX6_raise 87 = .ok (.getfield 273, 3) := by decide +kernel
theorem dX6_raise_90 : decode cX6_raise 90 = .ok (.ireturn, 1) := by decide +kernel
theorem dX6_keeps_0 : decode cX6_keeps 0 = .ok (.aload_n 0, 1) := by decide +kernel
theorem dX6_keeps_1 : decode cX6_keeps 1 = .ok (.iload_n 1, 1) := by decide +kernel
theorem dX6_keeps_2 : decode cX6_keeps 2 = .ok (.invokevirtual 163, 3) := by decide +kernel
theorem dX6_keeps_5 : decode cX6_keeps 5 = .ok (.ifCond .ne 5, 3) := by decide +kernel
theorem dX6_keeps_8 : decode cX6_keeps 8 = .ok (.iconst (-1), 1) := by decide +kernel
theorem dX6_keeps_9 : decode cX6_keeps 9 = .ok (.ireturn, 1) := by decide +kernel
theorem dX6_keeps_10 : decode cX6_keeps 10 = .ok (.aload_n 0, 1) := by decide +kernel
theorem dX6_keeps_11 : decode cX6_keeps 11 = .ok (.invokevirtual 239, 3) := by decide +kernel
theorem dX6_keeps_14 : decode cX6_keeps 14 = .ok (.iconst 0, 1) := by decide +kernel
theorem dX6_keeps_15 : decode cX6_keeps 15 = .ok (.istore_n 2, 1) := by decide +kernel
theorem dX6_keeps_16 : decode cX6_keeps 16 = .ok (.iconst 0, 1) := by decide +kernel
theorem dX6_keeps_17 : decode cX6_keeps 17 = .ok (.istore_n 3, 1) := by decide +kernel
theorem dX6_keeps_18 : decode cX6_keeps 18 = .ok (.aload_n 0, 1) := by decide +kernel
theorem dX6_keeps_19 : decode cX6_keeps 19 = .ok (.getfield 28, 3) := by decide +kernel
theorem dX6_keeps_22 : decode cX6_keeps 22 = .ok (.iload_n 1, 1) := by decide +kernel
theorem dX6_keeps_23 : decode cX6_keeps 23 = .ok (.iaload, 1) := by decide +kernel
theorem dX6_keeps_24 : decode cX6_keeps 24 = .ok (.istore 4, 2) := by decide +kernel
theorem dX6_keeps_26 : decode cX6_keeps 26 = .ok (.iconst 1, 1) := by decide +kernel
theorem dX6_keeps_27 : decode cX6_keeps 27 = .ok (.istore 5, 2) := by decide +kernel
theorem dX6_keeps_29 : decode cX6_keeps 29 = .ok (.iload 5, 2) := by decide +kernel
theorem dX6_keeps_31 : decode cX6_keeps 31 = .ok (.aload_n 0, 1) := by decide +kernel
theorem dX6_keeps_32 : decode cX6_keeps 32 = .ok (.invokevirtual 217, 3) := by decide +kernel
theorem dX6_keeps_35 : decode cX6_keeps 35 = .ok (.if_icmp .ge 76, 3) := by decide +kernel
theorem dX6_keeps_38 : decode cX6_keeps 38 = .ok (.aload_n 0, 1) := by decide +kernel
theorem dX6_keeps_39 : decode cX6_keeps 39 = .ok (.iload 5, 2) := by decide +kernel
theorem dX6_keeps_41 : decode cX6_keeps 41 = .ok (.invokevirtual 221, 3) := by decide +kernel
theorem dX6_keeps_44 : decode cX6_keeps 44 = .ok (.pop, 1) := by decide +kernel
theorem dX6_keeps_45 : decode cX6_keeps 45 = .ok (.aload_n 0, 1) := by decide +kernel
theorem dX6_keeps_46 : decode cX6_keeps 46 = .ok (.getfield 28, 3) := by decide +kernel
theorem dX6_keeps_49 : decode cX6_keeps 49 = .ok (.iload_n 1, 1) := by decide +kernel
theorem dX6_keeps_50 : decode cX6_keeps 50 = .ok (.iaload, 1) := by decide +kernel
theorem dX6_keeps_51 : decode cX6_keeps 51 = .ok (.iload 4, 2) := by decide +kernel
theorem dX6_keeps_53 : decode cX6_keeps 53 = .ok (.if_icmp .ne 17, 3) := by decide +kernel
theorem dX6_keeps_56 : decode cX6_keeps 56 = .ok (.aload_n 0, 1) := by decide +kernel
theorem dX6_keeps_57 : decode cX6_keeps 57 = .ok (.iload 5, 2) := by decide +kernel
theorem dX6_keeps_59 : decode cX6_keeps 59 = .ok (.invokevirtual 230, 3) := by decide +kernel
theorem dX6_keeps_62 : decode cX6_keeps 62 = .ok (.iload_n 3, 1) := by decide +kernel
theorem dX6_keeps_63 : decode cX6_keeps 63 = .ok (.if_icmp .le 7, 3) := by decide +kernel
theorem dX6_keeps_66 : decode cX6_keeps 66 = .ok (.iconst 1, 1) := by decide +kernel
theorem dX6_keeps_67 : decode cX6_keeps 67 = .ok (.goto 4, 3) := by decide +kernel
theorem dX6_keeps_70 : decode cX6_keeps 70 = .ok (.iconst 0, 1) := by decide +kernel
theorem dX6_keeps_71 : decode cX6_keeps 71 = .ok (.istore 6, 2) := by decide +kernel
theorem dX6_keeps_73 : decode cX6_keeps 73 = .ok (.aload_n 0, 1) := by decide +kernel
theorem dX6_keeps_74 : decode cX6_keeps 74 = .ok (.invokevirtual 242, 3) := by decide +kernel
theorem dX6_keeps_77 : decode cX6_keeps 77 = .ok (.iload 6, 2) := by decide +kernel
theorem dX6_keeps_79 : decode cX6_keeps 79 = .ok (.ifCond .eq 8, 3) := by decide +kernel
theorem dX6_keeps_82 : decode cX6_keeps 82 = .ok (.iload 5, 2) := by decide +kernel
theorem dX6_keeps_84 : decode cX6_keeps 84 = .ok (.goto 4, 3) := by decide +kernel
theorem dX6_keeps_87 : decode cX6_keeps 87 = .ok (.iload_n 2, 1) := by decide +kernel
theorem dX6_keeps_88 : decode cX6_keeps 88 = .ok (.istore_n 2, 1) := by decide +kernel
theorem dX6_keeps_89 : decode cX6_keeps 89 = .ok (.iload 6, 2) := by decide +kernel
theorem dX6_keeps_91 : decode cX6_keeps 91 = .ok (.ifCond .eq 12, 3) := by decide +kernel
theorem dX6_keeps_94 : decode cX6_keeps 94 = .ok (.aload_n 0, 1) := by decide +kernel
theorem dX6_keeps_95 : decode cX6_keeps 95 = .ok (.iload 5, 2) := by decide +kernel
theorem dX6_keeps_97 : decode cX6_keeps 97 = .ok (.invokevirtual 230, 3) := by decide +kernel
theorem dX6_keeps_100 : decode cX6_keeps 100 = .ok (.goto 4, 3) := by decide +kernel
theorem dX6_keeps_103 : decode cX6_keeps 103 = .ok (.iload_n 3, 1) := by decide +kernel
theorem dX6_keeps_104 : decode cX6_keeps 104 = .ok (.istore_n 3, 1) := by decide +kernel
theorem dX6_keeps_105 : decode cX6_keeps 105 = .ok (.iinc 5 1, 3) := by decide +kernel
theorem dX6_keeps_108 : decode cX6_keeps 108 = .ok (.goto (-79), 3) := by decide +kernel
theorem dX6_keeps_111 : decode cX6_keeps 111 = .ok (.aload_n 0, 1) := by decide +kernel
theorem dX6_keeps_112 : decode cX6_keeps 112 = .ok (.iload_n 2, 1) := by decide +kernel
theorem dX6_keeps_113 : decode cX6_keeps 113 = .ok (.iload_n 3, 1) := by decide +kernel
theorem dX6_keeps_114 : decode cX6_keeps 114 = .ok (.invokevirtual 118, 3) := by decide +kernel
theorem dX6_keeps_117 : decode cX6_keeps 117 = .ok (.ireturn, 1) := by decide +kernel
theorem dX6_rivalOn_0 : decode cX6_rivalOn 0 = .ok (.iload 4, 2) := by decide +kernel
theorem dX6_rivalOn_2 : decode cX6_rivalOn 2 = .ok (.iload 5, 2) := by decide +kernel
theorem dX6_rivalOn_4 : decode cX6_rivalOn 4 = .ok (.if_icmp .ne 10, 3) := by decide +kernel
theorem dX6_rivalOn_7 : decode cX6_rivalOn 7 = .ok (.aload_n 0, 1) := by decide +kernel
theorem dX6_rivalOn_8 : decode cX6_rivalOn 8 = .ok (.getfield 28, 3) := by decide +kernel
theorem dX6_rivalOn_11 : decode cX6_rivalOn 11 = .ok (.iload_n 3, 1) := by decide +kernel
theorem dX6_rivalOn_12 : decode cX6_rivalOn 12 = .ok (.iaload, 1) := by decide +kernel
theorem dX6_rivalOn_13 : decode cX6_rivalOn 13 = .ok (.ireturn, 1) := by decide +kernel
theorem dX6_rivalOn_14 : decode cX6_rivalOn 14 = .ok (.aload_n 0, 1) := by decide +kernel
theorem dX6_rivalOn_15 : decode cX6_rivalOn 15 = .ok (.aload_n 0, 1) := by decide +kernel
theorem dX6_rivalOn_16 : decode cX6_rivalOn 16 = .ok (.getfield 73, 3) := by decide +kernel
theorem dX6_rivalOn_19 : decode cX6_rivalOn 19 = .ok (.bipush 14, 2) := by decide +kernel
theorem dX6_rivalOn_21 : decode cX6_rivalOn 21 = .ok (.iload 4, 2) := by decide +kernel
theorem dX6_rivalOn_23 : decode cX6_rivalOn 23 = .ok (.imul, 1) := by decide +kernel
theorem dX6_rivalOn_24 : decode cX6_rivalOn 24 = .ok (.invokevirtual 204, 3) := by decide +kernel
theorem dX6_rivalOn_27 : decode cX6_rivalOn 27 = .ok (.iload 4, 2) := by decide +kernel
theorem dX6_rivalOn_29 : decode cX6_rivalOn 29 = .ok (.iconst 2, 1) := by decide +kernel
theorem dX6_rivalOn_30 : decode cX6_rivalOn 30 = .ok (.irem, 1) := by decide +kernel
theorem dX6_rivalOn_31 : decode cX6_rivalOn 31 = .ok (.ifCond .ne 7, 3) := by decide +kernel
theorem dX6_rivalOn_34 : decode cX6_rivalOn 34 = .ok (.iconst 1, 1) := by decide +kernel
theorem dX6_rivalOn_35 : decode cX6_rivalOn 35 = .ok (.goto 4, 3) := by decide +kernel
theorem dX6_rivalOn_38 : decode cX6_rivalOn 38 = .ok (.iconst 0, 1) := by decide +kernel
theorem dX6_rivalOn_39 : decode cX6_rivalOn 39 = .ok (.istore 6, 2) := by decide +kernel
theorem dX6_rivalOn_41 : decode cX6_rivalOn 41 = .ok (.bipush (-9), 2) := by decide +kernel
theorem dX6_rivalOn_43 : decode cX6_rivalOn 43 = .ok (.istore 7, 2) := by decide +kernel
theorem dX6_rivalOn_45 : decode cX6_rivalOn 45 = .ok (.iconst 0, 1) := by decide +kernel
theorem dX6_rivalOn_46 : decode cX6_rivalOn 46 = .ok (.istore 8, 2) := by decide +kernel
theorem dX6_rivalOn_48 : decode cX6_rivalOn 48 = .ok (.iconst 0, 1) := by decide +kernel
theorem dX6_rivalOn_49 : decode cX6_rivalOn 49 = .ok (.istore 9, 2) := by decide +kernel
theorem dX6_rivalOn_51 : decode cX6_rivalOn 51 = .ok (.iload 9, 2) := by decide +kernel
theorem dX6_rivalOn_53 : decode cX6_rivalOn 53 = .ok (.iconst 3, 1) := by decide +kernel
theorem dX6_rivalOn_54 : decode cX6_rivalOn 54 = .ok (.if_icmp .ge 118, 3) := by decide +kernel
theorem dX6_rivalOn_57 : decode cX6_rivalOn 57 = .ok (.aload_n 0, 1) := by decide +kernel
theorem dX6_rivalOn_58 : decode cX6_rivalOn 58 = .ok (.iload 6, 2) := by decide +kernel
theorem dX6_rivalOn_60 : decode cX6_rivalOn 60 = .ok (.ifCond .eq 7, 3) := by decide +kernel
theorem dX6_rivalOn_63 : decode cX6_rivalOn 63 = .ok (.iload_n 1, 1) := by decide +kernel
theorem dX6_rivalOn_64 : decode cX6_rivalOn 64 = .ok (.goto 4, 3) := by decide +kernel
theorem dX6_rivalOn_67 : decode cX6_rivalOn 67 = .ok (.iload_n 2, 1) := by decide +kernel
theorem dX6_rivalOn_68 : decode cX6_rivalOn 68 = .ok (.iload 9, 2) := by decide +kernel
theorem dX6_rivalOn_70 : decode cX6_rivalOn 70 = .ok (.invokevirtual 201, 3) := by decide +kernel
theorem dX6_rivalOn_73 : decode cX6_rivalOn 73 = .ok (.pop, 1) := by decide +kernel
theorem dX6_rivalOn_74 : decode cX6_rivalOn 74 = .ok (.aload_n 0, 1) := by decide +kernel
theorem dX6_rivalOn_75 : decode cX6_rivalOn 75 = .ok (.iload_n 1, 1) := by decide +kernel
theorem dX6_rivalOn_76 : decode cX6_rivalOn 76 = .ok (.iload_n 2, 1) := by decide +kernel
theorem dX6_rivalOn_77 : decode cX6_rivalOn 77 = .ok (.iload_n 3, 1) := by decide +kernel
theorem dX6_rivalOn_78 : decode cX6_rivalOn 78 = .ok (.iload 4, 2) := by decide +kernel
theorem dX6_rivalOn_80 : decode cX6_rivalOn 80 = .ok (.iconst 1, 1) := by decide +kernel
theorem dX6_rivalOn_81 : decode cX6_rivalOn 81 = .ok (.iadd, 1) := by decide +kernel
theorem dX6_rivalOn_82 : decode cX6_rivalOn 82 = .ok (.iload 5, 2) := by decide +kernel
theorem dX6_rivalOn_84 : decode cX6_rivalOn 84 = .ok (.invokevirtual 284, 3) := by decide +kernel
theorem dX6_rivalOn_87 : decode cX6_rivalOn 87 = .ok (.istore 10, 2) := by decide +kernel
theorem dX6_rivalOn_89 : decode cX6_rivalOn 89 = .ok (.aload_n 0, 1) := by decide +kernel
theorem dX6_rivalOn_90 : decode cX6_rivalOn 90 = .ok (.aload_n 0, 1) := by decide +kernel
theorem dX6_rivalOn_91 : decode cX6_rivalOn 91 = .ok (.getfield 73, 3) := by decide +kernel
theorem dX6_rivalOn_94 : decode cX6_rivalOn 94 = .ok (.bipush 14, 2) := by decide +kernel
theorem dX6_rivalOn_96 : decode cX6_rivalOn 96 = .ok (.iload 4, 2) := by decide +kernel
theorem dX6_rivalOn_98 : decode cX6_rivalOn 98 = .ok (.imul, 1) := by decide +kernel
theorem dX6_rivalOn_99 : decode cX6_rivalOn 99 = .ok (.invokevirtual 208, 3) := by decide +kernel
theorem dX6_rivalOn_102 : decode cX6_rivalOn 102 = .ok (.iload 7, 2) := by decide +kernel
theorem dX6_rivalOn_104 : decode cX6_rivalOn 104 = .ok (.bipush (-9), 2) := by decide +kernel
theorem dX6_rivalOn_106 : decode cX6_rivalOn 106 = .ok (.if_icmp .eq 25, 3) := by decide +kernel
theorem dX6_rivalOn_109 : decode cX6_rivalOn 109 = .ok (.iload 6, 2) := by decide +kernel
theorem dX6_rivalOn_111 : decode cX6_rivalOn 111 = .ok (.ifCond .eq 13, 3) := by decide +kernel
theorem dX6_rivalOn_114 : decode cX6_rivalOn 114 = .ok (.iload 10, 2) := by decide +kernel
theorem dX6_rivalOn_116 : decode cX6_rivalOn 116 = .ok (.iload 8, 2) := by decide +kernel
theorem dX6_rivalOn_118 : decode cX6_rivalOn 118 = .ok (.if_icmp .le 17, 3) := by decide +kernel
theorem dX6_rivalOn_121 : decode cX6_rivalOn 121 = .ok (.goto 10, 3) := by decide +kernel
theorem dX6_rivalOn_124 : decode cX6_rivalOn 124 = .ok (.iload 10, 2) := by decide +kernel
theorem dX6_rivalOn_126 : decode cX6_rivalOn 126 = .ok (.iload 8, 2) := by decide +kernel
theorem dX6_rivalOn_128 : decode cX6_rivalOn 128 = .ok (.if_icmp .ge 7, 3) := by decide +kernel
theorem dX6_rivalOn_131 : decode cX6_rivalOn 131 = .ok (.iconst 1, 1) := by decide +kernel
theorem dX6_rivalOn_132 : decode cX6_rivalOn 132 = .ok (.goto 4, 3) := by decide +kernel
theorem dX6_rivalOn_135 : decode cX6_rivalOn 135 = .ok (.iconst 0, 1) := by decide +kernel
theorem dX6_rivalOn_136 : decode cX6_rivalOn 136 = .ok (.istore 11, 2) := by decide +kernel
theorem dX6_rivalOn_138 : decode cX6_rivalOn 138 = .ok (.iload 11, 2) := by decide +kernel
theorem dX6_rivalOn_140 : decode cX6_rivalOn 140 = .ok (.ifCond .eq 8, 3) := by decide +kernel
theorem dX6_rivalOn_143 : decode cX6_rivalOn 143 = .ok (.iload 9, 2) := by decide +kernel
theorem dX6_rivalOn_145 : decode cX6_rivalOn 145 = .ok (.goto 5, 3) := by decide +kernel
theorem dX6_rivalOn_148 : decode cX6_rivalOn 148 = .ok (.iload 7, 2) := by decide +kernel
theorem dX6_rivalOn_150 : decode cX6_rivalOn 150 = .ok (.istore 7, 2) := by decide +kernel
theorem dX6_rivalOn_152 : decode cX6_rivalOn 152 = .ok (.iload 11, 2) := by decide +kernel
theorem dX6_rivalOn_154 : decode cX6_rivalOn 154 = .ok (.ifCond .eq 8, 3) := by decide +kernel
theorem dX6_rivalOn_157 : decode cX6_rivalOn 157 = .ok (.iload 10, 2) := by decide +kernel
theorem dX6_rivalOn_159 : decode cX6_rivalOn 159 = .ok (.goto 5, 3) := by decide +kernel
theorem dX6_rivalOn_162 : decode cX6_rivalOn 162 = .ok (.iload 8, 2) := by decide +kernel
theorem dX6_rivalOn_164 : decode cX6_rivalOn 164 = .ok (.istore 8, 2) := by decide +kernel
theorem dX6_rivalOn_166 : decode cX6_rivalOn 166 = .ok (.iinc 9 1, 3) := by decide +kernel
theorem dX6_rivalOn_169 : decode cX6_rivalOn 169 = .ok (.goto (-118), 3) := by decide +kernel
theorem dX6_rivalOn_172 : decode cX6_rivalOn 172 = .ok (.aload_n 0, 1) := by decide +kernel
theorem dX6_rivalOn_173 : decode cX6_rivalOn 173 = .ok (.iload 7, 2) := by decide +kernel
theorem dX6_rivalOn_175 : decode cX6_rivalOn 175 = .ok (.putfield 288, 3) := by decide +kernel
theorem dX6_rivalOn_178 : decode cX6_rivalOn 178 = .ok (.iload 8, 2) := by decide +kernel
theorem dX6_rivalOn_180 : decode cX6_rivalOn 180 = .ok (.ireturn, 1) := by decide +kernel
theorem dX6_rivals_0 : decode cX6_rivals 0 = .ok (.aload_n 0, 1) := by decide +kernel
theorem dX6_rivals_1 : decode cX6_rivals 1 = .ok (.iload_n 1, 1) := by decide +kernel
theorem dX6_rivals_2 : decode cX6_rivals 2 = .ok (.invokevirtual 179, 3) := by decide +kernel
theorem dX6_rivals_5 : decode cX6_rivals 5 = .ok (.ifCond .eq 35, 3) := by decide +kernel
theorem dX6_rivals_8 : decode cX6_rivals 8 = .ok (.aload_n 0, 1) := by decide +kernel
theorem dX6_rivals_9 : decode cX6_rivals 9 = .ok (.iload_n 2, 1) := by decide +kernel
theorem dX6_rivals_10 : decode cX6_rivals 10 = .ok (.invokevirtual 179, 3) := by decide +kernel
theorem dX6_rivals_13 : decode cX6_rivals 13 = .ok (.ifCond .eq 27, 3) := by decide +kernel
theorem dX6_rivals_16 : decode cX6_rivals 16 = .ok (.iload_n 1, 1) := by decide +kernel
theorem dX6_rivals_17 : decode cX6_rivals 17 = .ok (.iload_n 2, 1) := by decide +kernel
theorem dX6_rivals_18 : decode cX6_rivals 18 = .ok (.if_icmp .eq 22, 3) := by decide +kernel
theorem dX6_rivals_21 : decode cX6_rivals 21 = .ok (.aload_n 0, 1) := by decide +kernel
theorem dX6_rivals_22 : decode cX6_rivals 22 = .ok (.iload_n 3, 1) := by decide +kernel
theorem dX6_rivals_23 : decode cX6_rivals 23 = .ok (.invokevirtual 163, 3) := by decide +kernel
theorem dX6_rivals_26 : decode cX6_rivals 26 = .ok (.ifCond .eq 14, 3) := by decide +kernel
theorem dX6_rivals_29 : decode cX6_rivals 29 = .ok (.iload 4, 2) := by decide +kernel
theorem dX6_rivals_31 : decode cX6_rivals 31 = .ok (.iconst 0, 1) := by decide +kernel
theorem dX6_rivals_32 : decode cX6_rivals 32 = .ok (.bipush 6, 2) := by decide +kernel
theorem dX6_rivals_34 : decode cX6_rivals 34 = .ok (.invokestatic 92, 3) := by decide +kernel
theorem dX6_rivals_37 : decode cX6_rivals 37 = .ok (.ifCond .ne 5, 3) := by decide +kernel
theorem dX6_rivals_40 : decode cX6_rivals 40 = .ok (.iconst (-1), 1) := by decide +kernel
theorem dX6_rivals_41 : decode cX6_rivals 41 = .ok (.ireturn, 1) := by decide +kernel
theorem dX6_rivals_42 : decode cX6_rivals 42 = .ok (.aload_n 0, 1) := by decide +kernel
theorem dX6_rivals_43 : decode cX6_rivals 43 = .ok (.iconst 0, 1) := by decide +kernel
theorem dX6_rivals_44 : decode cX6_rivals 44 = .ok (.putfield 288, 3) := by decide +kernel
theorem dX6_rivals_47 : decode cX6_rivals 47 = .ok (.aload_n 0, 1) := by decide +kernel
theorem dX6_rivals_48 : decode cX6_rivals 48 = .ok (.iload_n 1, 1) := by decide +kernel
theorem dX6_rivals_49 : decode cX6_rivals 49 = .ok (.iload_n 2, 1) := by decide +kernel
theorem dX6_rivals_50 : decode cX6_rivals 50 = .ok (.iload_n 3, 1) := by decide +kernel
theorem dX6_rivals_51 : decode cX6_rivals 51 = .ok (.iconst 0, 1) := by decide +kernel
theorem dX6_rivals_52 : decode cX6_rivals 52 = .ok (.iload 4, 2) := by decide +kernel
theorem dX6_rivals_54 : decode cX6_rivals 54 = .ok (.invokevirtual 284, 3) := by decide +kernel
theorem dX6_rivals_57 : decode cX6_rivals 57 = .ok (.istore 5, 2) := by decide +kernel
theorem dX6_rivals_59 : decode cX6_rivals 59 = .ok (.aload_n 0, 1) := by decide +kernel
theorem dX6_rivals_60 : decode cX6_rivals 60 = .ok (.aload_n 0, 1) := by decide +kernel
theorem dX6_rivals_61 : decode cX6_rivals 61 = .ok (.getfield 288, 3) := by decide +kernel
theorem dX6_rivals_64 : decode cX6_rivals 64 = .ok (.iload 5, 2) := by decide +kernel
theorem dX6_rivals_66 : decode cX6_rivals 66 = .ok (.invokevirtual 118, 3) := by decide +kernel
theorem dX6_rivals_69 : decode cX6_rivals 69 = .ok (.ireturn, 1) := by decide +kernel
theorem dX6_isRowNow_0 : decode cX6_isRowNow 0 = .ok (.iconst 1, 1) := by decide +kernel
theorem dX6_isRowNow_1 : decode cX6_isRowNow 1 = .ok (.istore_n 2, 1) := by decide +kernel
theorem dX6_isRowNow_2 : decode cX6_isRowNow 2 = .ok (.iconst 0, 1) := by decide +kernel
theorem dX6_isRowNow_3 : decode cX6_isRowNow 3 = .ok (.istore_n 3, 1) := by decide +kernel
theorem dX6_isRowNow_4 : decode cX6_isRowNow 4 = .ok (.iload_n 3, 1) := by decide +kernel
theorem dX6_isRowNow_5 : decode cX6_isRowNow 5 = .ok (.aload_n 0, 1) := by decide +kernel
theorem dX6_isRowNow_6 : decode cX6_isRowNow 6 = .ok (.getfield 151, 3) := by decide +kernel
theorem dX6_isRowNow_9 : decode cX6_isRowNow 9 = .ok (.if_icmp .ge 34, 3) := by decide +kernel
theorem dX6_isRowNow_12 : decode cX6_isRowNow 12 = .ok (.iload_n 2, 1) := by decide +kernel
theorem dX6_isRowNow_13 : decode cX6_isRowNow 13 = .ok (.ifCond .eq 22, 3) := by decide +kernel
theorem dX6_isRowNow_16 : decode cX6_isRowNow 16 = .ok (.aload_n 0, 1) := by decide +kernel
theorem dX6_isRowNow_17 : decode cX6_isRowNow 17 = .ok (.getfield 28, 3) := by decide +kernel
theorem dX6_isRowNow_20 : decode cX6_isRowNow 20 = .ok (.iload_n 3, 1) := by decide +kernel
theorem dX6_isRowNow_21 : decode cX6_isRowNow 21 = .ok (.iaload, 1) := by decide +kernel
theorem dX6_isRowNow_22 : decode cX6_isRowNow 22 = .ok (.aload_n 0, 1) := by decide +kernel
theorem dX6_isRowNow_23 : decode cX6_isRowNow 23 = .ok (.iload_n 1, 1) := by decide +kernel
theorem dX6_isRowNow_24 : decode cX6_isRowNow 24 = .ok (.iload_n 3, 1) := by decide +kernel
theorem dX6_isRowNow_25 : decode cX6_isRowNow 25 = .ok (.invokevirtual 114, 3) := by decide +kernel
theorem dX6_isRowNow_28 : decode cX6_isRowNow 28 = .ok (.if_icmp .ne 7, 3) := by decide +kernel
theorem dX6_isRowNow_31 : decode cX6_isRowNow 31 = .ok (.iconst 1, 1) := by decide +kernel
theorem dX6_isRowNow_32 : decode cX6_isRowNow 32 = .ok (.goto 4, 3) := by decide +kernel
theorem dX6_isRowNow_35 : decode cX6_isRowNow 35 = .ok (.iconst 0, 1) := by decide +kernel
theorem dX6_isRowNow_36 : decode cX6_isRowNow 36 = .ok (.istore_n 2, 1) := by decide +kernel
theorem dX6_isRowNow_37 : decode cX6_isRowNow 37 = .ok (.iinc 3 1, 3) := by decide +kernel
theorem dX6_isRowNow_40 : decode cX6_isRowNow 40 = .ok (.goto (-36), 3) := by decide +kernel
theorem dX6_isRowNow_43 : decode cX6_isRowNow 43 = .ok (.iload_n 2, 1) := by decide +kernel
theorem dX6_isRowNow_44 : decode cX6_isRowNow 44 = .ok (.ireturn, 1) := by decide +kernel
theorem dX6_askedHeights_0 : decode cX6_askedHeights 0 = .ok (.aload_n 0, 1) := by decide +kernel
theorem dX6_askedHeights_1 : decode cX6_askedHeights 1 = .ok (.iload_n 1, 1) := by decide +kernel
theorem dX6_askedHeights_2 : decode cX6_askedHeights 2 = .ok (.invokevirtual 111, 3) := by decide +kernel
theorem dX6_askedHeights_5 : decode cX6_askedHeights 5 = .ok (.istore_n 2, 1) := by decide +kernel
theorem dX6_askedHeights_6 : decode cX6_askedHeights 6 = .ok (.iload_n 2, 1) := by decide +kernel
theorem dX6_askedHeights_7 : decode cX6_askedHeights 7 = .ok (.ifCond .ge 5, 3) := by decide +kernel
theorem dX6_askedHeights_10 : decode cX6_askedHeights 10 = .ok (.iload_n 2, 1) := by decide +kernel
theorem dX6_askedHeights_11 : decode cX6_askedHeights 11 = .ok (.ireturn, 1) := by decide +kernel
theorem dX6_askedHeights_12 : decode cX6_askedHeights 12 = .ok (.aload_n 0, 1) := by decide +kernel
theorem dX6_askedHeights_13 : decode cX6_askedHeights 13 = .ok (.getfield 13, 3) := by decide +kernel
theorem dX6_askedHeights_16 : decode cX6_askedHeights 16 = .ok (.iload_n 1, 1) := by decide +kernel
theorem dX6_askedHeights_17 : decode cX6_askedHeights 17 = .ok (.iaload, 1) := by decide +kernel
theorem dX6_askedHeights_18 : decode cX6_askedHeights 18 = .ok (.aload_n 0, 1) := by decide +kernel
theorem dX6_askedHeights_19 : decode cX6_askedHeights 19 = .ok (.getfield 151, 3) := by decide +kernel
theorem dX6_askedHeights_22 : decode cX6_askedHeights 22 = .ok (.if_icmp .eq 11, 3) := by decide +kernel
theorem dX6_askedHeights_25 : decode cX6_askedHeights 25 = .ok (.aload_n 0, 1) := by decide +kernel
theorem dX6_askedHeights_26 : decode cX6_askedHeights 26 = .ok (.iconst 5, 1) := by decide +kernel
theorem dX6_askedHeights_27 : decode cX6_askedHeights 27 = .ok (.invokevirtual 100, 3) := by decide +kernel
theorem dX6_askedHeights_30 : decode cX6_askedHeights 30 = .ok (.goto 4, 3) := by decide +kernel
theorem dX6_askedHeights_33 : decode cX6_askedHeights 33 = .ok (.iconst 0, 1) := by decide +kernel
theorem dX6_askedHeights_34 : decode cX6_askedHeights 34 = .ok (.ireturn, 1) := by decide +kernel
theorem dX6_setPlayed_0 : decode cX6_setPlayed 0 = .ok (.aload_n 0, 1) := by decide +kernel
theorem dX6_setPlayed_1 : decode cX6_setPlayed 1 = .ok (.iconst 0, 1) := by decide +kernel
theorem dX6_setPlayed_2 : decode cX6_setPlayed 2 = .ok (.putfield 291, 3) := by decide +kernel
theorem dX6_setPlayed_5 : decode cX6_setPlayed 5 = .ok (.aload_n 0, 1) := by decide +kernel
theorem dX6_setPlayed_6 : decode cX6_setPlayed 6 = .ok (.bipush (-9), 2) := by decide +kernel
theorem dX6_setPlayed_8 : decode cX6_setPlayed 8 = .ok (.putfield 294, 3) := by decide +kernel
theorem dX6_setPlayed_11 : decode cX6_setPlayed 11 = .ok (.iconst 0, 1) := by decide +kernel
theorem dX6_setPlayed_12 : decode cX6_setPlayed 12 = .ok (.istore_n 2, 1) := by decide +kernel
theorem dX6_setPlayed_13 : decode cX6_setPlayed 13 = .ok (.iload_n 2, 1) := by decide +kernel
theorem dX6_setPlayed_14 : decode cX6_setPlayed 14 = .ok (.iconst 3, 1) := by decide +kernel
theorem dX6_setPlayed_15 : decode cX6_setPlayed 15 = .ok (.if_icmp .ge 16, 3) := by decide +kernel
theorem dX6_setPlayed_18 : decode cX6_setPlayed 18 = .ok (.aload_n 0, 1) := by decide +kernel
theorem dX6_setPlayed_19 : decode cX6_setPlayed 19 = .ok (.getfield 82, 3) := by decide +kernel
theorem dX6_setPlayed_22 : decode cX6_setPlayed 22 = .ok (.iload_n 2, 1) := by decide +kernel
theorem dX6_setPlayed_23 : decode cX6_setPlayed 23 = .ok (.iconst 0, 1) := by decide +kernel
theorem dX6_setPlayed_24 : decode cX6_setPlayed 24 = .ok (.iastore, 1) := by decide +kernel
theorem dX6_setPlayed_25 : decode cX6_setPlayed 25 = .ok (.iinc 2 1, 3) := by decide +kernel
theorem dX6_setPlayed_28 : decode cX6_setPlayed 28 = .ok (.goto (-15), 3) := by decide +kernel
theorem dX6_setPlayed_31 : decode cX6_setPlayed 31 = .ok (.aload_n 0, 1) := by decide +kernel
theorem dX6_setPlayed_32 : decode cX6_setPlayed 32 = .ok (.invokevirtual 239, 3) := by decide +kernel
theorem dX6_setPlayed_35 : decode cX6_setPlayed 35 = .ok (.iconst 0, 1) := by decide +kernel
theorem dX6_setPlayed_36 : decode cX6_setPlayed 36 = .ok (.istore_n 2, 1) := by decide +kernel
theorem dX6_setPlayed_37 : decode cX6_setPlayed 37 = .ok (.iload_n 2, 1) := by decide +kernel
theorem dX6_setPlayed_38 : decode cX6_setPlayed 38 = .ok (.aload_n 0, 1) := by decide +kernel
theorem dX6_setPlayed_39 : decode cX6_setPlayed 39 = .ok (.invokevirtual 217, 3) := by decide +kernel
theorem dX6_setPlayed_42 : decode cX6_setPlayed 42 = .ok (.if_icmp .ge 110, 3) := by decide +kernel
theorem dX6_setPlayed_45 : decode cX6_setPlayed 45 = .ok (.aload_n 0, 1) := by decide +kernel
theorem dX6_setPlayed_46 : decode cX6_setPlayed 46 = .ok (.iload_n 2, 1) := by decide +kernel
theorem dX6_setPlayed_47 : decode cX6_setPlayed 47 = .ok (.invokevirtual 221, 3) := by decide +kernel
theorem dX6_setPlayed_50 : decode cX6_setPlayed 50 = .ok (.pop, 1) := by decide +kernel
theorem dX6_setPlayed_51 : decode cX6_setPlayed 51 = .ok (.aload_n 0, 1) := by decide +kernel
theorem dX6_setPlayed_52 : decode cX6_setPlayed 52 = .ok (.iload_n 1, 1) := by decide +kernel
theorem dX6_setPlayed_53 : decode cX6_setPlayed 53 = .ok (.invokevirtual 297, 3) := by decide +kernel
theorem dX6_setPlayed_56 : decode cX6_setPlayed 56 = .ok (.istore_n 3, 1) := by decide +kernel
theorem dX6_setPlayed_57 : decode cX6_setPlayed 57 = .ok (.aload_n 0, 1) := by decide +kernel
theorem dX6_setPlayed_58 : decode cX6_setPlayed 58 = .ok (.invokevirtual 242, 3) := by decide +kernel
theorem dX6_setPlayed_61 : decode cX6_setPlayed 61 = .ok (.aload_n 0, 1) := by decide +kernel
theorem dX6_setPlayed_62 : decode cX6_setPlayed 62 = .ok (.iload_n 3, 1) := by decide +kernel
theorem dX6_setPlayed_63 : decode cX6_setPlayed 63 = .ok (.ifCond .eq 14, 3) := by decide +kernel
theorem dX6_setPlayed_66 : decode cX6_setPlayed 66 = .ok (.aload_n 0, 1) := by decide +kernel
theorem dX6_setPlayed_67 : decode cX6_setPlayed 67 = .ok (.getfield 291, 3) := by decide +kernel
theorem dX6_setPlayed_70 : decode cX6_setPlayed 70 = .ok (.ifCond .ne 7, 3) := by decide +kernel
theorem dX6_setPlayed_73 : decode cX6_setPlayed 73 = .ok (.iload_n 2, 1) := by decide +kernel
theorem dX6_setPlayed_74 : decode cX6_setPlayed 74 = .ok (.goto 7, 3) := by decide +kernel
theorem dX6_setPlayed_77 : decode cX6_setPlayed 77 = .ok (.aload_n 0, 1) := by decide +kernel
theorem dX6_setPlayed_78 : decode cX6_setPlayed 78 = .ok (.getfield 294, 3) := by decide +kernel
theorem dX6_setPlayed_81 : decode cX6_setPlayed 81 = .ok (.putfield 294, 3) := by decide +kernel
theorem dX6_setPlayed_84 : decode cX6_setPlayed 84 = .ok (.aload_n 0, 1) := by decide +kernel
theorem dX6_setPlayed_85 : decode cX6_setPlayed 85 = .ok (.dup, 1) := by decide +kernel
theorem dX6_setPlayed_86 : decode cX6_setPlayed 86 = .ok (.getfield 291, 3) := by decide +kernel
theorem dX6_setPlayed_89 : decode cX6_setPlayed 89 = .ok (.iload_n 3, 1) := by decide +kernel
theorem dX6_setPlayed_90 : decode cX6_setPlayed 90 = .ok (.ifCond .eq 7, 3) := by decide +kernel
theorem dX6_setPlayed_93 : decode cX6_setPlayed 93 = .ok (.iconst 1, 1) := by decide +kernel
theorem dX6_setPlayed_94 : decode cX6_setPlayed 94 = .ok (.goto 4, 3) := by decide +kernel
theorem dX6_setPlayed_97 : decode cX6_setPlayed 97 = .ok (.iconst 0, 1) := by decide +kernel
theorem dX6_setPlayed_98 : decode cX6_setPlayed 98 = .ok (.iadd, 1) := by decide +kernel
theorem dX6_setPlayed_99 : decode cX6_setPlayed 99 = .ok (.putfield 291, 3) := by decide +kernel
theorem dX6_setPlayed_102 : decode cX6_setPlayed 102 = .ok (.iconst 0, 1) := by decide +kernel
theorem dX6_setPlayed_103 : decode cX6_setPlayed 103 = .ok (.istore 4, 2) := by decide +kernel
theorem dX6_setPlayed_105 : decode cX6_setPlayed 105 = .ok (.iload 4, 2) := by decide +kernel
theorem dX6_setPlayed_107 : decode cX6_setPlayed 107 = .ok (.aload_n 0, 1) := by decide +kernel
theorem dX6_setPlayed_108 : decode cX6_setPlayed 108 = .ok (.getfield 154, 3) := by decide +kernel
theorem dX6_setPlayed_111 : decode cX6_setPlayed 111 = .ok (.if_icmp .ge 35, 3) := by decide +kernel
theorem dX6_setPlayed_114 : decode cX6_setPlayed 114 = .ok (.aload_n 0, 1) := by decide +kernel
theorem dX6_setPlayed_115 : decode cX6_setPlayed 115 = .ok (.getfield 82, 3) := by decide +kernel
theorem dX6_setPlayed_118 : decode cX6_setPlayed 118 = .ok (.iload 4, 2) := by decide +kernel
theorem dX6_setPlayed_120 : decode cX6_setPlayed 120 = .ok (.dup2, 1) := by decide +kernel
theorem dX6_setPlayed_121 : decode cX6_setPlayed 121 = .ok (.iaload, 1) := by decide +kernel
theorem dX6_setPlayed_122 : decode cX6_setPlayed 122 = .ok (.iload_n 3, 1) := by decide +kernel
theorem dX6_setPlayed_123 : decode cX6_setPlayed 123 = .ok (.ifCond .eq 14, 3) := by decide +kernel
theorem dX6_setPlayed_126 : decode cX6_setPlayed 126 = .ok (.iconst 1, 1) := by decide +kernel
theorem dX6_setPlayed_127 : decode cX6_setPlayed 127 = .ok (.iload_n 2, 1) := by decide +kernel
theorem dX6_setPlayed_128 : decode cX6_setPlayed 128 = .ok (.iload 4, 2) := by decide +kernel
theorem dX6_setPlayed_130 : decode cX6_setPlayed 130 = .ok (.invokestatic 198, 3) := by decide +kernel
theorem dX6_setPlayed_133 : decode cX6_setPlayed 133 = .ok (.ishl, 1) := by decide +kernel
theorem dX6_setPlayed_134 : decode cX6_setPlayed 134 = .ok (.goto 4, 3) := by decide +kernel
theorem dX6_setPlayed_137 : decode cX6_setPlayed 137 = .ok (.iconst 0, 1) := by decide +kernel
theorem dX6_setPlayed_138 : decode cX6_setPlayed 138 = .ok (.ior, 1) := by decide +kernel
theorem dX6_setPlayed_139 : decode cX6_setPlayed 139 = .ok (.iastore, 1) := by decide +kernel
theorem dX6_setPlayed_140 : decode cX6_setPlayed 140 = .ok (.iinc 4 1, 3) := by decide +kernel
theorem dX6_setPlayed_143 : decode cX6_setPlayed 143 = .ok (.goto (-38), 3) := by decide +kernel
theorem dX6_setPlayed_146 : decode cX6_setPlayed 146 = .ok (.iinc 2 1, 3) := by decide +kernel
theorem dX6_setPlayed_149 : decode cX6_setPlayed 149 = .ok (.goto (-112), 3) := by decide +kernel
theorem dX6_setPlayed_152 : decode cX6_setPlayed 152 = .ok (.return_, 1) := by decide +kernel
theorem dX6_askedPlayed_0 : decode cX6_askedPlayed 0 = .ok (.iload_n 1, 1) := by decide +kernel
theorem dX6_askedPlayed_1 : decode cX6_askedPlayed 1 = .ok (.invokestatic 96, 3) := by decide +kernel
theorem dX6_askedPlayed_4 : decode cX6_askedPlayed 4 = .ok (.ifCond .ne 7, 3) := by decide +kernel
theorem dX6_askedPlayed_7 : decode cX6_askedPlayed 7 = .ok (.iconst (-1), 1) := by decide +kernel
theorem dX6_askedPlayed_8 : decode cX6_askedPlayed 8 = .ok (.goto 20, 3) := by decide +kernel
theorem dX6_askedPlayed_11 : decode cX6_askedPlayed 11 = .ok (.aload_n 0, 1) := by decide +kernel
theorem dX6_askedPlayed_12 : decode cX6_askedPlayed 12 = .ok (.getfield 151, 3) := by decide +kernel
theorem dX6_askedPlayed_15 : decode cX6_askedPlayed 15 = .ok (.ifCond .ne 8, 3) := by decide +kernel
theorem dX6_askedPlayed_18 : decode cX6_askedPlayed 18 = .ok (.bipush (-4), 2) := by decide +kernel
theorem dX6_askedPlayed_20 : decode cX6_askedPlayed 20 = .ok (.goto 8, 3) := by decide +kernel
theorem dX6_askedPlayed_23 : decode cX6_askedPlayed 23 = .ok (.aload_n 0, 1) := by decide +kernel
theorem dX6_askedPlayed_24 : decode cX6_askedPlayed 24 = .ok (.iload_n 1, 1) := by decide +kernel
theorem dX6_askedPlayed_25 : decode cX6_askedPlayed 25 = .ok (.invokevirtual 300, 3) := by decide +kernel
theorem dX6_askedPlayed_28 : decode cX6_askedPlayed 28 = .ok (.ireturn, 1) := by decide +kernel
theorem dX6_played_0 : decode cX6_played 0 = .ok (.aload_n 0, 1) := by decide +kernel
theorem dX6_played_1 : decode cX6_played 1 = .ok (.iload_n 1, 1) := by decide +kernel
theorem dX6_played_2 : decode cX6_played 2 = .ok (.invokevirtual 303, 3) := by decide +kernel
theorem dX6_played_5 : decode cX6_played 5 = .ok (.istore_n 2, 1) := by decide +kernel
theorem dX6_played_6 : decode cX6_played 6 = .ok (.iload_n 2, 1) := by decide +kernel
theorem dX6_played_7 : decode cX6_played 7 = .ok (.ifCond .ge 5, 3) := by decide +kernel
theorem dX6_played_10 : decode cX6_played 10 = .ok (.iload_n 2, 1) := by decide +kernel
theorem dX6_played_11 : decode cX6_played 11 = .ok (.ireturn, 1) := by decide +kernel
theorem dX6_played_12 : decode cX6_played 12 = .ok (.aload_n 0, 1) := by decide +kernel
theorem dX6_played_13 : decode cX6_played 13 = .ok (.iload_n 1, 1) := by decide +kernel
theorem dX6_played_14 : decode cX6_played 14 = .ok (.invokevirtual 306, 3) := by decide +kernel
theorem dX6_played_17 : decode cX6_played 17 = .ok (.aload_n 0, 1) := by decide +kernel
theorem dX6_played_18 : decode cX6_played 18 = .ok (.aload_n 0, 1) := by decide +kernel
theorem dX6_played_19 : decode cX6_played 19 = .ok (.getfield 294, 3) := by decide +kernel
theorem dX6_played_22 : decode cX6_played 22 = .ok (.aload_n 0, 1) := by decide +kernel
theorem dX6_played_23 : decode cX6_played 23 = .ok (.getfield 291, 3) := by decide +kernel
theorem dX6_played_26 : decode cX6_played 26 = .ok (.invokevirtual 118, 3) := by decide +kernel
theorem dX6_played_29 : decode cX6_played 29 = .ok (.ireturn, 1) := by decide +kernel
theorem dX6_could_0 : decode cX6_could 0 = .ok (.aload_n 0, 1) := by decide +kernel
theorem dX6_could_1 : decode cX6_could 1 = .ok (.iload_n 1, 1) := by decide +kernel
theorem dX6_could_2 : decode cX6_could 2 = .ok (.invokevirtual 179, 3) := by decide +kernel
theorem dX6_could_5 : decode cX6_could 5 = .ok (.ifCond .eq 10, 3) := by decide +kernel
theorem dX6_could_8 : decode cX6_could 8 = .ok (.iload_n 2, 1) := by decide +kernel
theorem dX6_could_9 : decode cX6_could 9 = .ok (.invokestatic 96, 3) := by decide +kernel
theorem dX6_could_12 : decode cX6_could 12 = .ok (.ifCond .ne 5, 3) := by decide +kernel
theorem dX6_could_15 : decode cX6_could 15 = .ok (.iconst (-1), 1) := by decide +kernel
theorem dX6_could_16 : decode cX6_could 16 = .ok (.ireturn, 1) := by decide +kernel
theorem dX6_could_17 : decode cX6_could 17 = .ok (.aload_n 0, 1) := by decide +kernel
theorem dX6_could_18 : decode cX6_could 18 = .ok (.iload_n 2, 1) := by decide +kernel
theorem dX6_could_19 : decode cX6_could 19 = .ok (.invokevirtual 300, 3) := by decide +kernel
theorem dX6_could_22 : decode cX6_could 22 = .ok (.istore_n 3, 1) := by decide +kernel
theorem dX6_could_23 : decode cX6_could 23 = .ok (.iload_n 3, 1) := by decide +kernel
theorem dX6_could_24 : decode cX6_could 24 = .ok (.ifCond .ge 5, 3) := by decide +kernel
theorem dX6_could_27 : decode cX6_could 27 = .ok (.iload_n 3, 1) := by decide +kernel
theorem dX6_could_28 : decode cX6_could 28 = .ok (.ireturn, 1) := by decide +kernel
theorem dX6_could_29 : decode cX6_could 29 = .ok (.aload_n 0, 1) := by decide +kernel
theorem dX6_could_30 : decode cX6_could 30 = .ok (.iload_n 2, 1) := by decide +kernel
theorem dX6_could_31 : decode cX6_could 31 = .ok (.invokevirtual 306, 3) := by decide +kernel
theorem dX6_could_34 : decode cX6_could 34 = .ok (.aload_n 0, 1) := by decide +kernel
theorem dX6_could_35 : decode cX6_could 35 = .ok (.getfield 82, 3) := by decide +kernel
theorem dX6_could_38 : decode cX6_could 38 = .ok (.iload_n 1, 1) := by decide +kernel
theorem dX6_could_39 : decode cX6_could 39 = .ok (.iaload, 1) := by decide +kernel
theorem dX6_could_40 : decode cX6_could 40 = .ok (.ireturn, 1) := by decide +kernel
theorem dX6_twice_0 : decode cX6_twice 0 = .ok (.aload_n 0, 1) := by decide +kernel
theorem dX6_twice_1 : decode cX6_twice 1 = .ok (.iload_n 1, 1) := by decide +kernel
theorem dX6_twice_2 : decode cX6_twice 2 = .ok (.invokevirtual 303, 3) := by decide +kernel
theorem dX6_twice_5 : decode cX6_twice 5 = .ok (.istore_n 2, 1) := by decide +kernel
theorem dX6_twice_6 : decode cX6_twice 6 = .ok (.iload_n 2, 1) := by decide +kernel
theorem dX6_twice_7 : decode cX6_twice 7 = .ok (.ifCond .ge 5, 3) := by decide +kernel
theorem dX6_twice_10 : decode cX6_twice 10 = .ok (.iload_n 2, 1) := by decide +kernel
theorem dX6_twice_11 : decode cX6_twice 11 = .ok (.ireturn, 1) := by decide +kernel
theorem dX6_twice_12 : decode cX6_twice 12 = .ok (.iconst 0, 1) := by decide +kernel
theorem dX6_twice_13 : decode cX6_twice 13 = .ok (.istore_n 3, 1) := by decide +kernel
theorem dX6_twice_14 : decode cX6_twice 14 = .ok (.bipush (-9), 2) := by decide +kernel
theorem dX6_twice_16 : decode cX6_twice 16 = .ok (.istore 4, 2) := by decide +kernel
theorem dX6_twice_18 : decode cX6_twice 18 = .ok (.aload_n 0, 1) := by decide +kernel
theorem dX6_twice_19 : decode cX6_twice 19 = .ok (.aload_n 0, 1) := by decide +kernel
theorem dX6_twice_20 : decode cX6_twice 20 = .ok (.getfield 73, 3) := by decide +kernel
theorem dX6_twice_23 : decode cX6_twice 23 = .ok (.iconst 0, 1) := by decide +kernel
theorem dX6_twice_24 : decode cX6_twice 24 = .ok (.invokevirtual 204, 3) := by decide +kernel
theorem dX6_twice_27 : decode cX6_twice 27 = .ok (.iconst 0, 1) := by decide +kernel
theorem dX6_twice_28 : decode cX6_twice 28 = .ok (.istore 5, 2) := by decide +kernel
theorem dX6_twice_30 : decode cX6_twice 30 = .ok (.iload 5, 2) := by decide +kernel
theorem dX6_twice_32 : decode cX6_twice 32 = .ok (.aload_n 0, 1) := by decide +kernel
theorem dX6_twice_33 : decode cX6_twice 33 = .ok (.invokevirtual 217, 3) := by decide +kernel
theorem dX6_twice_36 : decode cX6_twice 36 = .ok (.if_icmp .ge 66, 3) := by decide +kernel
theorem dX6_twice_39 : decode cX6_twice 39 = .ok (.aload_n 0, 1) := by decide +kernel
theorem dX6_twice_40 : decode cX6_twice 40 = .ok (.iload 5, 2) := by decide +kernel
theorem dX6_twice_42 : decode cX6_twice 42 = .ok (.invokevirtual 221, 3) := by decide +kernel
theorem dX6_twice_45 : decode cX6_twice 45 = .ok (.pop, 1) := by decide +kernel
theorem dX6_twice_46 : decode cX6_twice 46 = .ok (.aload_n 0, 1) := by decide +kernel
theorem dX6_twice_47 : decode cX6_twice 47 = .ok (.iload_n 1, 1) := by decide +kernel
theorem dX6_twice_48 : decode cX6_twice 48 = .ok (.invokevirtual 306, 3) := by decide +kernel
theorem dX6_twice_51 : decode cX6_twice 51 = .ok (.aload_n 0, 1) := by decide +kernel
theorem dX6_twice_52 : decode cX6_twice 52 = .ok (.aload_n 0, 1) := by decide +kernel
theorem dX6_twice_53 : decode cX6_twice 53 = .ok (.getfield 73, 3) := by decide +kernel
theorem dX6_twice_56 : decode cX6_twice 56 = .ok (.iconst 0, 1) := by decide +kernel
theorem dX6_twice_57 : decode cX6_twice 57 = .ok (.invokevirtual 208, 3) := by decide +kernel
theorem dX6_twice_60 : decode cX6_twice 60 = .ok (.iload_n 3, 1) := by decide +kernel
theorem dX6_twice_61 : decode cX6_twice 61 = .ok (.ifCond .ne 24, 3) := by decide +kernel
theorem dX6_twice_64 : decode cX6_twice 64 = .ok (.aload_n 0, 1) := by decide +kernel
theorem dX6_twice_65 : decode cX6_twice 65 = .ok (.getfield 291, 3) := by decide +kernel
theorem dX6_twice_68 : decode cX6_twice 68 = .ok (.ifCond .le 17, 3) := by decide +kernel
theorem dX6_twice_71 : decode cX6_twice 71 = .ok (.sipush 1000, 3) := by decide +kernel
theorem dX6_twice_74 : decode cX6_twice 74 = .ok (.iload 5, 2) := by decide +kernel
theorem dX6_twice_76 : decode cX6_twice 76 = .ok (.imul, 1) := by decide +kernel
theorem dX6_twice_77 : decode cX6_twice 77 = .ok (.aload_n 0, 1) := by decide +kernel
theorem dX6_twice_78 : decode cX6_twice 78 = .ok (.getfield 294, 3) := by decide +kernel
theorem dX6_twice_81 : decode cX6_twice 81 = .ok (.iadd, 1) := by decide +kernel
theorem dX6_twice_82 : decode cX6_twice 82 = .ok (.goto 5, 3) := by decide +kernel
theorem dX6_twice_85 : decode cX6_twice 85 = .ok (.iload 4, 2) := by decide +kernel
theorem dX6_twice_87 : decode cX6_twice 87 = .ok (.istore 4, 2) := by decide +kernel
theorem dX6_twice_89 : decode cX6_twice 89 = .ok (.iload_n 3, 1) := by decide +kernel
theorem dX6_twice_90 : decode cX6_twice 90 = .ok (.aload_n 0, 1) := by decide +kernel
theorem dX6_twice_91 : decode cX6_twice 91 = .ok (.getfield 291, 3) := by decide +kernel
theorem dX6_twice_94 : decode cX6_twice 94 = .ok (.iadd, 1) := by decide +kernel
theorem dX6_twice_95 : decode cX6_twice 95 = .ok (.istore_n 3, 1) := by decide +kernel
theorem dX6_twice_96 : decode cX6_twice 96 = .ok (.iinc 5 1, 3) := by decide +kernel
theorem dX6_twice_99 : decode cX6_twice 99 = .ok (.goto (-69), 3) := by decide +kernel
theorem dX6_twice_102 : decode cX6_twice 102 = .ok (.aload_n 0, 1) := by decide +kernel
theorem dX6_twice_103 : decode cX6_twice 103 = .ok (.iload 4, 2) := by decide +kernel
theorem dX6_twice_105 : decode cX6_twice 105 = .ok (.iload_n 3, 1) := by decide +kernel
theorem dX6_twice_106 : decode cX6_twice 106 = .ok (.invokevirtual 118, 3) := by decide +kernel
theorem dX6_twice_109 : decode cX6_twice 109 = .ok (.ireturn, 1) := by decide +kernel
theorem dX6_valleys_0 : decode cX6_valleys 0 = .ok (.iconst 0, 1) := by decide +kernel
theorem dX6_valleys_1 : decode cX6_valleys 1 = .ok (.istore_n 1, 1) := by decide +kernel
theorem dX6_valleys_2 : decode cX6_valleys 2 = .ok (.iconst 0, 1) := by decide +kernel
theorem dX6_valleys_3 : decode cX6_valleys 3 = .ok (.istore_n 2, 1) := by decide +kernel
theorem dX6_valleys_4 : decode cX6_valleys 4 = .ok (.iconst 0, 1) := by decide +kernel
theorem dX6_valleys_5 : decode cX6_valleys 5 = .ok (.istore_n 3, 1) := by decide +kernel
theorem dX6_valleys_6 : decode cX6_valleys 6 = .ok (.iconst 0, 1) := by decide +kernel
theorem dX6_valleys_7 : decode cX6_valleys 7 = .ok (.istore 4, 2) := by decide +kernel
theorem dX6_valleys_9 : decode cX6_valleys 9 = .ok (.iload 4, 2) := by decide +kernel
theorem dX6_valleys_11 : decode cX6_valleys 11 = .ok (.aload_n 0, 1) := by decide +kernel
theorem dX6_valleys_12 : decode cX6_valleys 12 = .ok (.getfield 151, 3) := by decide +kernel
theorem dX6_valleys_15 : decode cX6_valleys 15 = .ok (.if_icmp .ge 51, 3) := by decide +kernel
theorem dX6_valleys_18 : decode cX6_valleys 18 = .ok (.aload_n 0, 1) := by decide +kernel
theorem dX6_valleys_19 : decode cX6_valleys 19 = .ok (.getfield 28, 3) := by decide +kernel
theorem dX6_valleys_22 : decode cX6_valleys 22 = .ok (.iload 4, 2) := by decide +kernel
theorem dX6_valleys_24 : decode cX6_valleys 24 = .ok (.iaload, 1) := by decide +kernel
theorem dX6_valleys_25 : decode cX6_valleys 25 = .ok (.ifCond .ne 9, 3) := by decide +kernel
theorem dX6_valleys_28 : decode cX6_valleys 28 = .ok (.iload_n 3, 1) := by decide +kernel
theorem dX6_valleys_29 : decode cX6_valleys 29 = .ok (.iconst 1, 1) := by decide +kernel
theorem dX6_valleys_30 : decode cX6_valleys 30 = .ok (.iadd, 1) := by decide +kernel
theorem dX6_valleys_31 : decode cX6_valleys 31 = .ok (.goto 4, 3) := by decide +kernel
theorem dX6_valleys_34 : decode cX6_valleys 34 = .ok (.iconst 0, 1) := by decide +kernel
theorem dX6_valleys_35 : decode cX6_valleys 35 = .ok (.istore_n 3, 1) := by decide +kernel
theorem dX6_valleys_36 : decode cX6_valleys 36 = .ok (.iload_n 1, 1) := by decide +kernel
theorem dX6_valleys_37 : decode cX6_valleys 37 = .ok (.iload_n 3, 1) := by decide +kernel
theorem dX6_valleys_38 : decode cX6_valleys 38 = .ok (.iconst 1, 1) := by decide +kernel
theorem dX6_valleys_39 : decode cX6_valleys 39 = .ok (.if_icmp .ne 7, 3) := by decide +kernel
theorem dX6_valleys_42 : decode cX6_valleys 42 = .ok (.iconst 1, 1) := by decide +kernel
theorem dX6_valleys_43 : decode cX6_valleys 43 = .ok (.goto 4, 3) := by decide +kernel
theorem dX6_valleys_46 : decode cX6_valleys 46 = .ok (.iconst 0, 1) := by decide +kernel
theorem dX6_valleys_47 : decode cX6_valleys 47 = .ok (.iadd, 1) := by decide +kernel
theorem dX6_valleys_48 : decode cX6_valleys 48 = .ok (.istore_n 1, 1) := by decide +kernel
theorem dX6_valleys_49 : decode cX6_valleys 49 = .ok (.iload_n 3, 1) := by decide +kernel
theorem dX6_valleys_50 : decode cX6_valleys 50 = .ok (.iload_n 2, 1) := by decide +kernel
theorem dX6_valleys_51 : decode cX6_valleys 51 = .ok (.if_icmp .le 7, 3) := by decide +kernel
theorem dX6_valleys_54 : decode cX6_valleys 54 = .ok (.iload_n 3, 1) := by decide +kernel
theorem dX6_valleys_55 : decode cX6_valleys 55 = .ok (.goto 4, 3) := by decide +kernel
theorem dX6_valleys_58 : decode cX6_valleys 58 = .ok (.iload_n 2, 1) := by decide +kernel
theorem dX6_valleys_59 : decode cX6_valleys 59 = .ok (.istore_n 2, 1) := by decide +kernel
theorem dX6_valleys_60 : decode cX6_valleys 60 = .ok (.iinc 4 1, 3) := by decide +kernel
theorem dX6_valleys_63 : decode cX6_valleys 63 = .ok (.goto (-54), 3) := by decide +kernel
theorem dX6_valleys_66 : decode cX6_valleys 66 = .ok (.aload_n 0, 1) := by decide +kernel
theorem dX6_valleys_67 : decode cX6_valleys 67 = .ok (.iload_n 2, 1) := by decide +kernel
theorem dX6_valleys_68 : decode cX6_valleys 68 = .ok (.iload_n 1, 1) := by decide +kernel
theorem dX6_valleys_69 : decode cX6_valleys 69 = .ok (.invokevirtual 118, 3) := by decide +kernel
theorem dX6_valleys_72 : decode cX6_valleys 72 = .ok (.ireturn, 1) := by decide +kernel
theorem dX6_top_0 : decode cX6_top 0 = .ok (.aload_n 0, 1) := by decide +kernel
theorem dX6_top_1 : decode cX6_top 1 = .ok (.getfield 151, 3) := by decide +kernel
theorem dX6_top_4 : decode cX6_top 4 = .ok (.ifCond .ne 6, 3) := by decide +kernel
theorem dX6_top_7 : decode cX6_top 7 = .ok (.bipush (-4), 2) := by decide +kernel
theorem dX6_top_9 : decode cX6_top 9 = .ok (.ireturn, 1) := by decide +kernel
theorem dX6_top_10 : decode cX6_top 10 = .ok (.aload_n 0, 1) := by decide +kernel
theorem dX6_top_11 : decode cX6_top 11 = .ok (.iconst 0, 1) := by decide +kernel
theorem dX6_top_12 : decode cX6_top 12 = .ok (.aload_n 0, 1) := by decide +kernel
theorem dX6_top_13 : decode cX6_top 13 = .ok (.getfield 151, 3) := by decide +kernel
theorem dX6_top_16 : decode cX6_top 16 = .ok (.iconst 1, 1) := by decide +kernel
theorem dX6_top_17 : decode cX6_top 17 = .ok (.isub, 1) := by decide +kernel
theorem dX6_top_18 : decode cX6_top 18 = .ok (.invokevirtual 245, 3) := by decide +kernel
theorem dX6_top_21 : decode cX6_top 21 = .ok (.istore_n 1, 1) := by decide +kernel
theorem dX6_top_22 : decode cX6_top 22 = .ok (.aload_n 0, 1) := by decide +kernel
theorem dX6_top_23 : decode cX6_top 23 = .ok (.aload_n 0, 1) := by decide +kernel
theorem dX6_top_24 : decode cX6_top 24 = .ok (.getfield 28, 3) := by decide +kernel
theorem dX6_top_27 : decode cX6_top 27 = .ok (.iload_n 1, 1) := by decide +kernel
theorem dX6_top_28 : decode cX6_top 28 = .ok (.iaload, 1) := by decide +kernel
theorem dX6_top_29 : decode cX6_top 29 = .ok (.iload_n 1, 1) := by decide +kernel
theorem dX6_top_30 : decode cX6_top 30 = .ok (.invokevirtual 118, 3) := by decide +kernel
theorem dX6_top_33 : decode cX6_top 33 = .ok (.ireturn, 1) := by decide +kernel
theorem dX6_isSpan_0 : decode cX6_isSpan 0 = .ok (.aload_n 0, 1) := by decide +kernel
theorem dX6_isSpan_1 : decode cX6_isSpan 1 = .ok (.iload_n 1, 1) := by decide +kernel
theorem dX6_isSpan_2 : decode cX6_isSpan 2 = .ok (.invokevirtual 163, 3) := by decide +kernel
theorem dX6_isSpan_5 : decode cX6_isSpan 5 = .ok (.ifCond .eq 20, 3) := by decide +kernel
theorem dX6_isSpan_8 : decode cX6_isSpan 8 = .ok (.aload_n 0, 1) := by decide +kernel
theorem dX6_isSpan_9 : decode cX6_isSpan 9 = .ok (.iload_n 2, 1) := by decide +kernel
theorem dX6_isSpan_10 : decode cX6_isSpan 10 = .ok (.invokevirtual 163, 3) := by decide +kernel
theorem dX6_isSpan_13 : decode cX6_isSpan 13 = .ok (.ifCond .eq 12, 3) := by decide +kernel
theorem dX6_isSpan_16 : decode cX6_isSpan 16 = .ok (.iload_n 1, 1) := by decide +kernel
theorem dX6_isSpan_17 : decode cX6_isSpan 17 = .ok (.iload_n 2, 1) := by decide +kernel
theorem dX6_isSpan_18 : decode cX6_isSpan 18 = .ok (.if_icmp .ge 7, 3) := by decide +kernel
theorem dX6_isSpan_21 : decode cX6_isSpan 21 = .ok (.iconst 1, 1) := by decide +kernel
theorem dX6_isSpan_22 : decode cX6_isSpan 22 = .ok (.goto 4, 3) := by decide +kernel
theorem dX6_isSpan_25 : decode cX6_isSpan 25 = .ok (.iconst 0, 1) := by decide +kernel
theorem dX6_isSpan_26 : decode cX6_isSpan 26 = .ok (.ireturn, 1) := by decide +kernel
theorem dX6_border_0 : decode cX6_border 0 = .ok (.aload_n 0, 1) := by decide +kernel
theorem dX6_border_1 : decode cX6_border 1 = .ok (.iload_n 1, 1) := by decide +kernel
theorem dX6_border_2 : decode cX6_border 2 = .ok (.iload_n 2, 1) := by decide +kernel
theorem dX6_border_3 : decode cX6_border 3 = .ok (.invokevirtual 310, 3) := by decide +kernel
theorem dX6_border_6 : decode cX6_border 6 = .ok (.ifCond .ne 5, 3) := by decide +kernel
theorem dX6_border_9 : decode cX6_border 9 = .ok (.iconst (-1), 1) := by decide +kernel
theorem dX6_border_10 : decode cX6_border 10 = .ok (.ireturn, 1) := by decide +kernel
theorem dX6_border_11 : decode cX6_border 11 = .ok (.aload_n 0, 1) := by decide +kernel
theorem dX6_border_12 : decode cX6_border 12 = .ok (.iload_n 1, 1) := by decide +kernel
theorem dX6_border_13 : decode cX6_border 13 = .ok (.iload_n 2, 1) := by decide +kernel
theorem dX6_border_14 : decode cX6_border 14 = .ok (.invokevirtual 245, 3) := by decide +kernel
theorem dX6_border_17 : decode cX6_border 17 = .ok (.istore_n 3, 1) := by decide +kernel
theorem dX6_border_18 : decode cX6_border 18 = .ok (.aload_n 0, 1) := by decide +kernel
theorem dX6_border_19 : decode cX6_border 19 = .ok (.aload_n 0, 1) := by decide +kernel
theorem dX6_border_20 : decode cX6_border 20 = .ok (.getfield 28, 3) := by decide +kernel
theorem dX6_border_23 : decode cX6_border 23 = .ok (.iload_n 3, 1) := by decide +kernel
theorem dX6_border_24 : decode cX6_border 24 = .ok (.iaload, 1) := by decide +kernel
theorem dX6_border_25 : decode cX6_border 25 = .ok (.iload_n 3, 1) := by decide +kernel
theorem dX6_border_26 : decode cX6_border 26 = .ok (.invokevirtual 118, 3) := by decide +kernel
theorem dX6_border_29 : decode cX6_border 29 = .ok (.ireturn, 1) := by decide +kernel
theorem dX6_shifts_0 : decode cX6_shifts 0 = .ok (.aload_n 0, 1) := by decide +kernel
theorem dX6_shifts_1 : decode cX6_shifts 1 = .ok (.iload_n 1, 1) := by decide +kernel
theorem dX6_shifts_2 : decode cX6_shifts 2 = .ok (.iload_n 2, 1) := by decide +kernel
theorem dX6_shifts_3 : decode cX6_shifts 3 = .ok (.invokevirtual 310, 3) := by decide +kernel
theorem dX6_shifts_6 : decode cX6_shifts 6 = .ok (.ifCond .ne 5, 3) := by decide +kernel
theorem dX6_shifts_9 : decode cX6_shifts 9 = .ok (.iconst (-1), 1) := by decide +kernel
theorem dX6_shifts_10 : decode cX6_shifts 10 = .ok (.ireturn, 1) := by decide +kernel
theorem dX6_shifts_11 : decode cX6_shifts 11 = .ok (.aload_n 0, 1) := by decide +kernel
theorem dX6_shifts_12 : decode cX6_shifts 12 = .ok (.iload_n 1, 1) := by decide +kernel
theorem dX6_shifts_13 : decode cX6_shifts 13 = .ok (.iload_n 2, 1) := by decide +kernel
theorem dX6_shifts_14 : decode cX6_shifts 14 = .ok (.invokevirtual 245, 3) := by decide +kernel
theorem dX6_shifts_17 : decode cX6_shifts 17 = .ok (.istore_n 3, 1) := by decide +kernel
theorem dX6_shifts_18 : decode cX6_shifts 18 = .ok (.iconst 0, 1) := by decide +kernel
theorem dX6_shifts_19 : decode cX6_shifts 19 = .ok (.istore 4, 2) := by decide +kernel
theorem dX6_shifts_21 : decode cX6_shifts 21 = .ok (.bipush (-9), 2) := by decide +kernel
theorem dX6_shifts_23 : decode cX6_shifts 23 = .ok (.istore 5, 2) := by decide +kernel
theorem dX6_shifts_25 : decode cX6_shifts 25 = .ok (.aload_n 0, 1) := by decide +kernel
theorem dX6_shifts_26 : decode cX6_shifts 26 = .ok (.invokevirtual 239, 3) := by decide +kernel
theorem dX6_shifts_29 : decode cX6_shifts 29 = .ok (.iconst 0, 1) := by decide +kernel
theorem dX6_shifts_30 : decode cX6_shifts 30 = .ok (.istore 6, 2) := by decide +kernel
theorem dX6_shifts_32 : decode cX6_shifts 32 = .ok (.iload 6, 2) := by decide +kernel
theorem dX6_shifts_34 : decode cX6_shifts 34 = .ok (.aload_n 0, 1) := by decide +kernel
theorem dX6_shifts_35 : decode cX6_shifts 35 = .ok (.invokevirtual 217, 3) := by decide +kernel
theorem dX6_shifts_38 : decode cX6_shifts 38 = .ok (.if_icmp .ge 71, 3) := by decide +kernel
theorem dX6_shifts_41 : decode cX6_shifts 41 = .ok (.aload_n 0, 1) := by decide +kernel
theorem dX6_shifts_42 : decode cX6_shifts 42 = .ok (.iload 6, 2) := by decide +kernel
theorem dX6_shifts_44 : decode cX6_shifts 44 = .ok (.invokevirtual 221, 3) := by decide +kernel
theorem dX6_shifts_47 : decode cX6_shifts 47 = .ok (.pop, 1) := by decide +kernel
theorem dX6_shifts_48 : decode cX6_shifts 48 = .ok (.aload_n 0, 1) := by decide +kernel
theorem dX6_shifts_49 : decode cX6_shifts 49 = .ok (.iload_n 1, 1) := by decide +kernel
theorem dX6_shifts_50 : decode cX6_shifts 50 = .ok (.iload_n 2, 1) := by decide +kernel
theorem dX6_shifts_51 : decode cX6_shifts 51 = .ok (.invokevirtual 245, 3) := by decide +kernel
theorem dX6_shifts_54 : decode cX6_shifts 54 = .ok (.iload_n 3, 1) := by decide +kernel
theorem dX6_shifts_55 : decode cX6_shifts 55 = .ok (.if_icmp .eq 7, 3) := by decide +kernel
theorem dX6_shifts_58 : decode cX6_shifts 58 = .ok (.iconst 1, 1) := by decide +kernel
theorem dX6_shifts_59 : decode cX6_shifts 59 = .ok (.goto 4, 3) := by decide +kernel
theorem dX6_shifts_62 : decode cX6_shifts 62 = .ok (.iconst 0, 1) := by decide +kernel
theorem dX6_shifts_63 : decode cX6_shifts 63 = .ok (.istore 7, 2) := by decide +kernel
theorem dX6_shifts_65 : decode cX6_shifts 65 = .ok (.aload_n 0, 1) := by decide +kernel
theorem dX6_shifts_66 : decode cX6_shifts 66 = .ok (.invokevirtual 242, 3) := by decide +kernel
theorem dX6_shifts_69 : decode cX6_shifts 69 = .ok (.iload 7, 2) := by decide +kernel
theorem dX6_shifts_71 : decode cX6_shifts 71 = .ok (.ifCond .eq 13, 3) := by decide +kernel
theorem dX6_shifts_74 : decode cX6_shifts 74 = .ok (.iload 4, 2) := by decide +kernel
theorem dX6_shifts_76 : decode cX6_shifts 76 = .ok (.ifCond .ne 8, 3) := by decide +kernel
theorem dX6_shifts_79 : decode cX6_shifts 79 = .ok (.iload 6, 2) := by decide +kernel
theorem dX6_shifts_81 : decode cX6_shifts 81 = .ok (.goto 5, 3) := by decide +kernel
theorem dX6_shifts_84 : decode cX6_shifts 84 = .ok (.iload 5, 2) := by decide +kernel
theorem dX6_shifts_86 : decode cX6_shifts 86 = .ok (.istore 5, 2) := by decide +kernel
theorem dX6_shifts_88 : decode cX6_shifts 88 = .ok (.iload 4, 2) := by decide +kernel
theorem dX6_shifts_90 : decode cX6_shifts 90 = .ok (.iload 7, 2) := by decide +kernel
theorem dX6_shifts_92 : decode cX6_shifts 92 = .ok (.ifCond .eq 7, 3) := by decide +kernel
theorem dX6_shifts_95 : decode cX6_shifts 95 = .ok (.iconst 1, 1) := by decide +kernel
theorem dX6_shifts_96 : decode cX6_shifts 96 = .ok (.goto 4, 3) := by decide +kernel
theorem dX6_shifts_99 : decode cX6_shifts 99 = .ok (.iconst 0, 1) := by decide +kernel
theorem dX6_shifts_100 : decode cX6_shifts 100 = .ok (.iadd, 1) := by decide +kernel
theorem dX6_shifts_101 : decode cX6_shifts 101 = .ok (.istore 4, 2) := by decide +kernel
theorem dX6_shifts_103 : decode cX6_shifts 103 = .ok (.iinc 6 1, 3) := by decide +kernel
theorem dX6_shifts_106 : decode cX6_shifts 106 = .ok (.goto (-74), 3) := by decide +kernel
theorem dX6_shifts_109 : decode cX6_shifts 109 = .ok (.aload_n 0, 1) := by decide +kernel
theorem dX6_shifts_110 : decode cX6_shifts 110 = .ok (.iload 5, 2) := by decide +kernel
theorem dX6_shifts_112 : decode cX6_shifts 112 = .ok (.iload 4, 2) := by decide +kernel
theorem dX6_shifts_114 : decode cX6_shifts 114 = .ok (.invokevirtual 118, 3) := by decide +kernel
theorem dX6_shifts_117 : decode cX6_shifts 117 = .ok (.ireturn, 1) := by decide +kernel
theorem dX6_far_0 : decode cX6_far 0 = .ok (.aload_n 0, 1) := by decide +kernel
theorem dX6_far_1 : decode cX6_far 1 = .ok (.iload_n 1, 1) := by decide +kernel
theorem dX6_far_2 : decode cX6_far 2 = .ok (.invokevirtual 303, 3) := by decide +kernel
theorem dX6_far_5 : decode cX6_far 5 = .ok (.istore_n 2, 1) := by decide +kernel
theorem dX6_far_6 : decode cX6_far 6 = .ok (.iload_n 2, 1) := by decide +kernel
theorem dX6_far_7 : decode cX6_far 7 = .ok (.ifCond .ge 5, 3) := by decide +kernel
theorem dX6_far_10 : decode cX6_far 10 = .ok (.iload_n 2, 1) := by decide +kernel
theorem dX6_far_11 : decode cX6_far 11 = .ok (.ireturn, 1) := by decide +kernel
theorem dX6_far_12 : decode cX6_far 12 = .ok (.lconst 0, 1) := by decide +kernel
theorem dX6_far_13 : decode cX6_far 13 = .ok (.lstore_n 3, 1) := by decide +kernel
theorem dX6_far_14 : decode cX6_far 14 = .ok (.iconst 0, 1) := by decide +kernel
theorem dX6_far_15 : decode cX6_far 15 = .ok (.istore 5, 2) := by decide +kernel
theorem dX6_far_17 : decode cX6_far 17 = .ok (.iload 5, 2) := by decide +kernel
theorem dX6_far_19 : decode cX6_far 19 = .ok (.aload_n 0, 1) := by decide +kernel
theorem dX6_far_20 : decode cX6_far 20 = .ok (.getfield 151, 3) := by decide +kernel
theorem dX6_far_23 : decode cX6_far 23 = .ok (.if_icmp .ge 36, 3) := by decide +kernel
theorem dX6_far_26 : decode cX6_far 26 = .ok (.aload_n 0, 1) := by decide +kernel
theorem dX6_far_27 : decode cX6_far 27 = .ok (.iload_n 1, 1) := by decide +kernel
theorem dX6_far_28 : decode cX6_far 28 = .ok (.iload 5, 2) := by decide +kernel
theorem dX6_far_30 : decode cX6_far 30 = .ok (.invokevirtual 114, 3) := by decide +kernel
theorem dX6_far_33 : decode cX6_far 33 = .ok (.ifCond .ge 9, 3) := by decide +kernel
theorem dX6_far_36 : decode cX6_far 36 = .ok (.aload_n 0, 1) := by decide +kernel
theorem dX6_far_37 : decode cX6_far 37 = .ok (.iconst 3, 1) := by decide +kernel
theorem dX6_far_38 : decode cX6_far 38 = .ok (.invokevirtual 100, 3) := by decide +kernel
theorem dX6_far_41 : decode cX6_far 41 = .ok (.ireturn, 1) := by decide +kernel
theorem dX6_far_42 : decode cX6_far 42 = .ok (.lload_n 3, 1) := by decide +kernel
theorem dX6_far_43 : decode cX6_far 43 = .ok (.aload_n 0, 1) := by decide +kernel
theorem dX6_far_44 : decode cX6_far 44 = .ok (.iload_n 1, 1) := by decide +kernel
theorem dX6_far_45 : decode cX6_far 45 = .ok (.iload 5, 2) := by decide +kernel
theorem dX6_far_47 : decode cX6_far 47 = .ok (.invokevirtual 114, 3) := by decide +kernel
theorem dX6_far_50 : decode cX6_far 50 = .ok (.i2l, 1) := by decide +kernel
theorem dX6_far_51 : decode cX6_far 51 = .ok (.ladd, 1) := by decide +kernel
theorem dX6_far_52 : decode cX6_far 52 = .ok (.lstore_n 3, 1) := by decide +kernel
theorem dX6_far_53 : decode cX6_far 53 = .ok (.iinc 5 1, 3) := by decide +kernel
theorem dX6_far_56 : decode cX6_far 56 = .ok (.goto (-39), 3) := by decide +kernel
theorem dX6_far_59 : decode cX6_far 59 = .ok (.lload_n 3, 1) := by decide +kernel
theorem dX6_far_60 : decode cX6_far 60 = .ok (.aload_n 0, 1) := by decide +kernel
theorem dX6_far_61 : decode cX6_far 61 = .ok (.invokevirtual 236, 3) := by decide +kernel
theorem dX6_far_64 : decode cX6_far 64 = .ok (.i2l, 1) := by decide +kernel
theorem dX6_far_65 : decode cX6_far 65 = .ok (.lcmp, 1) := by decide +kernel
theorem dX6_far_66 : decode cX6_far 66 = .ok (.ifCond .eq 9, 3) := by decide +kernel
theorem dX6_far_69 : decode cX6_far 69 = .ok (.aload_n 0, 1) := by decide +kernel
theorem dX6_far_70 : decode cX6_far 70 = .ok (.iconst 4, 1) := by decide +kernel
theorem dX6_far_71 : decode cX6_far 71 = .ok (.invokevirtual 100, 3) := by decide +kernel
theorem dX6_far_74 : decode cX6_far 74 = .ok (.ireturn, 1) := by decide +kernel
theorem dX6_far_75 : decode cX6_far 75 = .ok (.iconst 0, 1) := by decide +kernel
theorem dX6_far_76 : decode cX6_far 76 = .ok (.istore 5, 2) := by decide +kernel
theorem dX6_far_78 : decode cX6_far 78 = .ok (.iconst 0, 1) := by decide +kernel
theorem dX6_far_79 : decode cX6_far 79 = .ok (.istore 6, 2) := by decide +kernel
theorem dX6_far_81 : decode cX6_far 81 = .ok (.iconst 0, 1) := by decide +kernel
theorem dX6_far_82 : decode cX6_far 82 = .ok (.istore 7, 2) := by decide +kernel
theorem dX6_far_84 : decode cX6_far 84 = .ok (.iload 7, 2) := by decide +kernel
theorem dX6_far_86 : decode cX6_far 86 = .ok (.aload_n 0, 1) := by decide +kernel
theorem dX6_far_87 : decode cX6_far 87 = .ok (.getfield 151, 3) := by decide +kernel
theorem dX6_far_90 : decode cX6_far 90 = .ok (.if_icmp .ge 39, 3) := by decide +kernel
theorem dX6_far_93 : decode cX6_far 93 = .ok (.iload 5, 2) := by decide +kernel
theorem dX6_far_95 : decode cX6_far 95 = .ok (.aload_n 0, 1) := by decide +kernel
theorem dX6_far_96 : decode cX6_far 96 = .ok (.getfield 28, 3) := by decide +kernel
theorem dX6_far_99 : decode cX6_far 99 = .ok (.iload 7, 2) := by decide +kernel
theorem dX6_far_101 : decode cX6_far 101 = .ok (.iaload, 1) := by decide +kernel
theorem dX6_far_102 : decode cX6_far 102 = .ok (.aload_n 0, 1) := by decide +kernel
theorem dX6_far_103 : decode cX6_far 103 = .ok (.iload_n 1, 1) := by decide +kernel
theorem dX6_far_104 : decode cX6_far 104 = .ok (.iload 7, 2) := by decide +kernel
theorem dX6_far_106 : decode cX6_far 106 = .ok (.invokevirtual 114, 3) := by decide +kernel
theorem dX6_far_109 : decode cX6_far 109 = .ok (.isub, 1) := by decide +kernel
theorem dX6_far_110 : decode cX6_far 110 = .ok (.iadd, 1) := by decide +kernel
theorem dX6_far_111 : decode cX6_far 111 = .ok (.istore 5, 2) := by decide +kernel
theorem dX6_far_113 : decode cX6_far 113 = .ok (.iload 6, 2) := by decide +kernel
theorem dX6_far_115 : decode cX6_far 115 = .ok (.iload 5, 2) := by decide +kernel
theorem dX6_far_117 : decode cX6_far 117 = .ok (.invokestatic 166, 3) := by decide +kernel
theorem dX6_far_120 : decode cX6_far 120 = .ok (.iadd, 1) := by decide +kernel
theorem dX6_far_121 : decode cX6_far 121 = .ok (.istore 6, 2) := by decide +kernel
theorem dX6_far_123 : decode cX6_far 123 = .ok (.iinc 7 1, 3) := by decide +kernel
theorem dX6_far_126 : decode cX6_far 126 = .ok (.goto (-42), 3) := by decide +kernel
theorem dX6_far_129 : decode cX6_far 129 = .ok (.iload 6, 2) := by decide +kernel
theorem dX6_far_131 : decode cX6_far 131 = .ok (.ireturn, 1) := by decide +kernel
theorem dX6_season_0 : decode cX6_season 0 = .ok (.iload_n 1, 1) := by decide +kernel
theorem dX6_season_1 : decode cX6_season 1 = .ok (.iconst 1, 1) := by decide +kernel
theorem dX6_season_2 : decode cX6_season 2 = .ok (.bipush 40, 2) := by decide +kernel
theorem dX6_season_4 : decode cX6_season 4 = .ok (.invokestatic 92, 3) := by decide +kernel
theorem dX6_season_7 : decode cX6_season 7 = .ok (.ifCond .eq 14, 3) := by decide +kernel
theorem dX6_season_10 : decode cX6_season 10 = .ok (.iload_n 2, 1) := by decide +kernel
theorem dX6_season_11 : decode cX6_season 11 = .ok (.iconst 1, 1) := by decide +kernel
theorem dX6_season_12 : decode cX6_season 12 = .ok (.ldc_w 313, 3) := by decide +kernel
theorem dX6_season_15 : decode cX6_season 15 = .ok (.invokestatic 92, 3) := by decide +kernel
theorem dX6_season_18 : decode cX6_season 18 = .ok (.ifCond .ne 5, 3) := by decide +kernel
theorem dX6_season_21 : decode cX6_season 21 = .ok (.iconst (-1), 1) := by decide +kernel
theorem dX6_season_22 : decode cX6_season 22 = .ok (.ireturn, 1) := by decide +kernel
theorem dX6_season_23 : decode cX6_season 23 = .ok (.aload_n 0, 1) := by decide +kernel
theorem dX6_season_24 : decode cX6_season 24 = .ok (.getfield 151, 3) := by decide +kernel
theorem dX6_season_27 : decode cX6_season 27 = .ok (.ifCond .ne 6, 3) := by decide +kernel
theorem dX6_season_30 : decode cX6_season 30 = .ok (.bipush (-4), 2) := by decide +kernel
theorem dX6_season_32 : decode cX6_season 32 = .ok (.ireturn, 1) := by decide +kernel
theorem dX6_season_33 : decode cX6_season 33 = .ok (.aload_n 0, 1) := by decide +kernel
theorem dX6_season_34 : decode cX6_season 34 = .ok (.getfield 160, 3) := by decide +kernel
theorem dX6_season_37 : decode cX6_season 37 = .ok (.iload_n 1, 1) := by decide +kernel
theorem dX6_season_38 : decode cX6_season 38 = .ok (.iadd, 1) := by decide +kernel
theorem dX6_season_39 : decode cX6_season 39 = .ok (.bipush 60, 2) := by decide +kernel
theorem dX6_season_41 : decode cX6_season 41 = .ok (.if_icmp .le 6, 3) := by decide +kernel
theorem dX6_season_44 : decode cX6_season 44 = .ok (.bipush (-2), 2) := by decide +kernel
theorem dX6_season_46 : decode cX6_season 46 = .ok (.ireturn, 1) := by decide +kernel
theorem dX6_season_47 : decode cX6_season 47 = .ok (.iload_n 2, 1) := by decide +kernel
theorem dX6_season_48 : decode cX6_season 48 = .ok (.i2l, 1) := by decide +kernel
theorem dX6_season_49 : decode cX6_season 49 = .ok (.lstore_n 3, 1) := by decide +kernel
theorem dX6_season_50 : decode cX6_season 50 = .ok (.iconst 0, 1) := by decide +kernel
theorem dX6_season_51 : decode cX6_season 51 = .ok (.istore 5, 2) := by decide +kernel
theorem dX6_season_53 : decode cX6_season 53 = .ok (.iconst 0, 1) := by decide +kernel
theorem dX6_season_54 : decode cX6_season 54 = .ok (.istore 6, 2) := by decide +kernel
theorem dX6_season_56 : decode cX6_season 56 = .ok (.iload 6, 2) := by decide +kernel
theorem dX6_season_58 : decode cX6_season 58 = .ok (.iload_n 1, 1) := by decide +kernel
theorem dX6_season_59 : decode cX6_season 59 = .ok (.if_icmp .ge 72, 3) := by decide +kernel
theorem dX6_season_62 : decode cX6_season 62 = .ok (.ldc2_w 314, 3) := by decide +kernel
theorem dX6_season_65 : decode cX6_season 65 = .ok (.lload_n 3, 1) := by decide +kernel
theorem dX6_season_66 : decode cX6_season 66 = .ok (.lmul, 1) := by decide +kernel
theorem dX6_season_67 : decode cX6_season 67 = .ok (.ldc2_w 316, 3) := by decide +kernel
theorem dX6_season_70 : decode cX6_season 70 = .ok (.lrem, 1) := by decide +kernel
theorem dX6_season_71 : decode cX6_season 71 = .ok (.lstore_n 3, 1) := by decide +kernel
theorem dX6_season_72 : decode cX6_season 72 = .ok (.aload_n 0, 1) := by decide +kernel
theorem dX6_season_73 : decode cX6_season 73 = .ok (.lload_n 3, 1) := by decide +kernel
theorem dX6_season_74 : decode cX6_season 74 = .ok (.ldc2_w 318, 3) := by decide +kernel
theorem dX6_season_77 : decode cX6_season 77 = .ok (.ldiv, 1) := by decide +kernel
theorem dX6_season_78 : decode cX6_season 78 = .ok (.ldc2_w 320, 3) := by decide +kernel
theorem dX6_season_81 : decode cX6_season 81 = .ok (.lrem, 1) := by decide +kernel
theorem dX6_season_82 : decode cX6_season 82 = .ok (.lconst 1, 1) := by decide +kernel
theorem dX6_season_83 : decode cX6_season 83 = .ok (.lcmp, 1) := by decide +kernel
theorem dX6_season_84 : decode cX6_season 84 = .ok (.ifCond .ne 20, 3) := by decide +kernel
theorem dX6_season_87 : decode cX6_season 87 = .ok (.iconst 1, 1) := by decide +kernel
theorem dX6_season_88 : decode cX6_season 88 = .ok (.lload_n 3, 1) := by decide +kernel
theorem dX6_season_89 : decode cX6_season 89 = .ok (.ldc2_w 322, 3) := by decide +kernel
theorem dX6_season_92 : decode cX6_season 92 = .ok (.ldiv, 1) := by decide +kernel
theorem dX6_season_93 : decode cX6_season 93 = .ok (.aload_n 0, 1) := by decide +kernel
theorem dX6_season_94 : decode cX6_season 94 = .ok (.getfield 151, 3) := by decide +kernel
theorem dX6_season_97 : decode cX6_season 97 = .ok (.i2l, 1) := by decide +kernel
theorem dX6_season_98 : decode cX6_season 98 = .ok (.lrem, 1) := by decide +kernel
theorem dX6_season_99 : decode cX6_season 99 = .ok (.l2i, 1) := by decide +kernel
theorem dX6_season_100 : decode cX6_season 100 = .ok (.ishl, 1) := by decide +kernel
theorem dX6_season_101 : decode cX6_season 101 = .ok (.goto 4, 3) := by decide +kernel
theorem dX6_season_104 : decode cX6_season 104 = .ok (.iconst 0, 1) := by decide +kernel
theorem dX6_season_105 : decode cX6_season 105 = .ok (.putfield 157, 3) := by decide +kernel
theorem dX6_season_108 : decode cX6_season 108 = .ok (.iload 5, 2) := by decide +kernel
theorem dX6_season_110 : decode cX6_season 110 = .ok (.aload_n 0, 1) := by decide +kernel
theorem dX6_season_111 : decode cX6_season 111 = .ok (.lload_n 3, 1) := by decide +kernel
theorem dX6_season_112 : decode cX6_season 112 = .ok (.aload_n 0, 1) := by decide +kernel
theorem dX6_season_113 : decode cX6_season 113 = .ok (.invokevirtual 217, 3) := by decide +kernel
theorem dX6_season_116 : decode cX6_season 116 = .ok (.i2l, 1) := by decide +kernel
theorem dX6_season_117 : decode cX6_season 117 = .ok (.lrem, 1) := by decide +kernel
theorem dX6_season_118 : decode cX6_season 118 = .ok (.l2i, 1) := by decide +kernel
theorem dX6_season_119 : decode cX6_season 119 = .ok (.invokevirtual 227, 3) := by decide +kernel
theorem dX6_season_122 : decode cX6_season 122 = .ok (.iadd, 1) := by decide +kernel
theorem dX6_season_123 : decode cX6_season 123 = .ok (.istore 5, 2) := by decide +kernel
theorem dX6_season_125 : decode cX6_season 125 = .ok (.iinc 6 1, 3) := by decide +kernel
theorem dX6_season_128 : decode cX6_season 128 = .ok (.goto (-72), 3) := by decide +kernel
theorem dX6_season_131 : decode cX6_season 131 = .ok (.iload 5, 2) := by decide +kernel
theorem dX6_season_133 : decode cX6_season 133 = .ok (.ireturn, 1) := by decide +kernel
theorem dX6_asked_0 : decode cX6_asked 0 = .ok (.aload_n 0, 1) := by decide +kernel
theorem dX6_asked_1 : decode cX6_asked 1 = .ok (.getfield 89, 3) := by decide +kernel
theorem dX6_asked_4 : decode cX6_asked 4 = .ok (.ireturn, 1) := by decide +kernel
theorem dX6_divisor_0 : decode cX6_divisor 0 = .ok (.iload_n 0, 1) := by decide +kernel
theorem dX6_divisor_1 : decode cX6_divisor 1 = .ok (.istore_n 2, 1) := by decide +kernel
theorem dX6_divisor_2 : decode cX6_divisor 2 = .ok (.iload_n 1, 1) := by decide +kernel
theorem dX6_divisor_3 : decode cX6_divisor 3 = .ok (.istore_n 3, 1) := by decide +kernel
theorem dX6_divisor_4 : decode cX6_divisor 4 = .ok (.iload_n 3, 1) := by decide +kernel
theorem dX6_divisor_5 : decode cX6_divisor 5 = .ok (.ifCond .eq 16, 3) := by decide +kernel
theorem dX6_divisor_8 : decode cX6_divisor 8 = .ok (.iload_n 2, 1) := by decide +kernel
theorem dX6_divisor_9 : decode cX6_divisor 9 = .ok (.iload_n 3, 1) := by decide +kernel
theorem dX6_divisor_10 : decode cX6_divisor 10 = .ok (.irem, 1) := by decide +kernel
theorem dX6_divisor_11 : decode cX6_divisor 11 = .ok (.istore 4, 2) := by decide +kernel
theorem dX6_divisor_13 : decode cX6_divisor 13 = .ok (.iload_n 3, 1) := by decide +kernel
theorem dX6_divisor_14 : decode cX6_divisor 14 = .ok (.istore_n 2, 1) := by decide +kernel
theorem dX6_divisor_15 : decode cX6_divisor 15 = .ok (.iload 4, 2) := by decide +kernel
theorem dX6_divisor_17 : decode cX6_divisor 17 = .ok (.istore_n 3, 1) := by decide +kernel
theorem dX6_divisor_18 : decode cX6_divisor 18 = .ok (.goto (-14), 3) := by decide +kernel
theorem dX6_divisor_21 : decode cX6_divisor 21 = .ok (.iload_n 2, 1) := by decide +kernel
theorem dX6_divisor_22 : decode cX6_divisor 22 = .ok (.ireturn, 1) := by decide +kernel
theorem dX6_upper_0 : decode cX6_upper 0 = .ok (.aload_n 0, 1) := by decide +kernel
theorem dX6_upper_1 : decode cX6_upper 1 = .ok (.invokevirtual 236, 3) := by decide +kernel
theorem dX6_upper_4 : decode cX6_upper 4 = .ok (.istore_n 1, 1) := by decide +kernel
theorem dX6_upper_5 : decode cX6_upper 5 = .ok (.iload_n 1, 1) := by decide +kernel
theorem dX6_upper_6 : decode cX6_upper 6 = .ok (.ifCond .ne 7, 3) := by decide +kernel
theorem dX6_upper_9 : decode cX6_upper 9 = .ok (.lconst 0, 1) := by decide +kernel
theorem dX6_upper_10 : decode cX6_upper 10 = .ok (.goto 17, 3) := by decide +kernel
theorem dX6_upper_13 : decode cX6_upper 13 = .ok (.aload_n 0, 1) := by decide +kernel
theorem dX6_upper_14 : decode cX6_upper 14 = .ok (.invokevirtual 248, 3) := by decide +kernel
theorem dX6_upper_17 : decode cX6_upper 17 = .ok (.aload_n 0, 1) := by decide +kernel
theorem dX6_upper_18 : decode cX6_upper 18 = .ok (.invokevirtual 248, 3) := by decide +kernel
theorem dX6_upper_21 : decode cX6_upper 21 = .ok (.iload_n 1, 1) := by decide +kernel
theorem dX6_upper_22 : decode cX6_upper 22 = .ok (.invokestatic 324, 3) := by decide +kernel
theorem dX6_upper_25 : decode cX6_upper 25 = .ok (.idiv, 1) := by decide +kernel
theorem dX6_upper_26 : decode cX6_upper 26 = .ok (.i2l, 1) := by decide +kernel
theorem dX6_upper_27 : decode cX6_upper 27 = .ok (.lreturn, 1) := by decide +kernel
theorem dX6_lower_0 : decode cX6_lower 0 = .ok (.aload_n 0, 1) := by decide +kernel
theorem dX6_lower_1 : decode cX6_lower 1 = .ok (.invokevirtual 236, 3) := by decide +kernel
theorem dX6_lower_4 : decode cX6_lower 4 = .ok (.istore_n 1, 1) := by decide +kernel
theorem dX6_lower_5 : decode cX6_lower 5 = .ok (.iload_n 1, 1) := by decide +kernel
theorem dX6_lower_6 : decode cX6_lower 6 = .ok (.ifCond .ne 7, 3) := by decide +kernel
theorem dX6_lower_9 : decode cX6_lower 9 = .ok (.lconst 1, 1) := by decide +kernel
theorem dX6_lower_10 : decode cX6_lower 10 = .ok (.goto 14, 3) := by decide +kernel
theorem dX6_lower_13 : decode cX6_lower 13 = .ok (.iload_n 1, 1) := by decide +kernel
theorem dX6_lower_14 : decode cX6_lower 14 = .ok (.aload_n 0, 1) := by decide +kernel
theorem dX6_lower_15 : decode cX6_lower 15 = .ok (.invokevirtual 248, 3) := by decide +kernel
theorem dX6_lower_18 : decode cX6_lower 18 = .ok (.iload_n 1, 1) := by decide +kernel
theorem dX6_lower_19 : decode cX6_lower 19 = .ok (.invokestatic 324, 3) := by decide +kernel
theorem dX6_lower_22 : decode cX6_lower 22 = .ok (.idiv, 1) := by decide +kernel
theorem dX6_lower_23 : decode cX6_lower 23 = .ok (.i2l, 1) := by decide +kernel
theorem dX6_lower_24 : decode cX6_lower 24 = .ok (.lreturn, 1) := by decide +kernel
theorem dX6_tells_0 : decode cX6_tells 0 = .ok (.iconst 0, 1) := by decide +kernel
theorem dX6_tells_1 : decode cX6_tells 1 = .ok (.istore_n 2, 1) := by decide +kernel
theorem dX6_tells_2 : decode cX6_tells 2 = .ok (.iconst 0, 1) := by decide +kernel
theorem dX6_tells_3 : decode cX6_tells 3 = .ok (.istore_n 3, 1) := by decide +kernel
theorem dX6_tells_4 : decode cX6_tells 4 = .ok (.iload_n 3, 1) := by decide +kernel
theorem dX6_tells_5 : decode cX6_tells 5 = .ok (.bipush 6, 2) := by decide +kernel
theorem dX6_tells_7 : decode cX6_tells 7 = .ok (.if_icmp .ge 100, 3) := by decide +kernel
theorem dX6_tells_10 : decode cX6_tells 10 = .ok (.iload_n 2, 1) := by decide +kernel
theorem dX6_tells_11 : decode cX6_tells 11 = .ok (.iload_n 1, 1) := by decide +kernel
theorem dX6_tells_12 : decode cX6_tells 12 = .ok (.iconst 5, 1) := by decide +kernel
theorem dX6_tells_13 : decode cX6_tells 13 = .ok (.if_icmp .ne 20, 3) := by decide +kernel
theorem dX6_tells_16 : decode cX6_tells 16 = .ok (.iload_n 3, 1) := by decide +kernel
theorem dX6_tells_17 : decode cX6_tells 17 = .ok (.aload_n 0, 1) := by decide +kernel
theorem dX6_tells_18 : decode cX6_tells 18 = .ok (.getfield 154, 3) := by decide +kernel
theorem dX6_tells_21 : decode cX6_tells 21 = .ok (.if_icmp .ge 12, 3) := by decide +kernel
theorem dX6_tells_24 : decode cX6_tells 24 = .ok (.aload_n 0, 1) := by decide +kernel
theorem dX6_tells_25 : decode cX6_tells 25 = .ok (.iload_n 3, 1) := by decide +kernel
theorem dX6_tells_26 : decode cX6_tells 26 = .ok (.iconst 1, 1) := by decide +kernel
theorem dX6_tells_27 : decode cX6_tells 27 = .ok (.invokevirtual 188, 3) := by decide +kernel
theorem dX6_tells_30 : decode cX6_tells 30 = .ok (.ifCond .ne 64, 3) := by decide +kernel
theorem dX6_tells_33 : decode cX6_tells 33 = .ok (.iload_n 1, 1) := by decide +kernel
theorem dX6_tells_34 : decode cX6_tells 34 = .ok (.bipush 6, 2) := by decide +kernel
theorem dX6_tells_36 : decode cX6_tells 36 = .ok (.if_icmp .ne 12, 3) := by decide +kernel
theorem dX6_tells_39 : decode cX6_tells 39 = .ok (.aload_n 0, 1) := by decide +kernel
theorem dX6_tells_40 : decode cX6_tells 40 = .ok (.getfield 13, 3) := by decide +kernel
theorem dX6_tells_43 : decode cX6_tells 43 = .ok (.iload_n 3, 1) := by decide +kernel
theorem dX6_tells_44 : decode cX6_tells 44 = .ok (.iaload, 1) := by decide +kernel
theorem dX6_tells_45 : decode cX6_tells 45 = .ok (.ifCond .ge 49, 3) := by decide +kernel
theorem dX6_tells_48 : decode cX6_tells 48 = .ok (.iload_n 1, 1) := by decide +kernel
theorem dX6_tells_49 : decode cX6_tells 49 = .ok (.bipush 7, 2) := by decide +kernel
theorem dX6_tells_51 : decode cX6_tells 51 = .ok (.if_icmp .ne 17, 3) := by decide +kernel
theorem dX6_tells_54 : decode cX6_tells 54 = .ok (.iload_n 3, 1) := by decide +kernel
theorem dX6_tells_55 : decode cX6_tells 55 = .ok (.iconst 4, 1) := by decide +kernel
theorem dX6_tells_56 : decode cX6_tells 56 = .ok (.if_icmp .ge 12, 3) := by decide +kernel
theorem dX6_tells_59 : decode cX6_tells 59 = .ok (.aload_n 0, 1) := by decide +kernel
theorem dX6_tells_60 : decode cX6_tells 60 = .ok (.getfield 22, 3) := by decide +kernel
theorem dX6_tells_63 : decode cX6_tells 63 = .ok (.iload_n 3, 1) := by decide +kernel
theorem dX6_tells_64 : decode cX6_tells 64 = .ok (.iaload, 1) := by decide +kernel
theorem dX6_tells_65 : decode cX6_tells 65 = .ok (.ifCond .ge 29, 3) := by decide +kernel
theorem dX6_tells_68 : decode cX6_tells 68 = .ok (.iload_n 1, 1) := by decide +kernel
theorem dX6_tells_69 : decode cX6_tells 69 = .ok (.bipush 8, 2) := by decide +kernel
theorem dX6_tells_71 : decode cX6_tells 71 = .ok (.if_icmp .ne 27, 3) := by decide +kernel
theorem dX6_tells_74 : decode cX6_tells 74 = .ok (.iload_n 3, 1) := by decide +kernel
theorem dX6_tells_75 : decode cX6_tells 75 = .ok (.iconst 3, 1) := by decide +kernel
theorem dX6_tells_76 : decode cX6_tells 76 = .ok (.if_icmp .ge 22, 3) := by decide +kernel
theorem dX6_tells_79 : decode cX6_tells 79 = .ok (.aload_n 0, 1) := by decide +kernel
theorem dX6_tells_80 : decode cX6_tells 80 = .ok (.getfield 64, 3) := by decide +kernel
theorem dX6_tells_83 : decode cX6_tells 83 = .ok (.sipush 920, 3) := by decide +kernel
theorem dX6_tells_86 : decode cX6_tells 86 = .ok (.iload_n 3, 1) := by decide +kernel
theorem dX6_tells_87 : decode cX6_tells 87 = .ok (.imul, 1) := by decide +kernel
theorem dX6_tells_88 : decode cX6_tells 88 = .ok (.iaload, 1) := by decide +kernel
theorem dX6_tells_89 : decode cX6_tells 89 = .ok (.bipush (-9), 2) := by decide +kernel
theorem dX6_tells_91 : decode cX6_tells 91 = .ok (.if_icmp .eq 7, 3) := by decide +kernel
theorem dX6_tells_94 : decode cX6_tells 94 = .ok (.iconst 1, 1) := by decide +kernel
theorem dX6_tells_95 : decode cX6_tells 95 = .ok (.goto 4, 3) := by decide +kernel
theorem dX6_tells_98 : decode cX6_tells 98 = .ok (.iconst 0, 1) := by decide +kernel
theorem dX6_tells_99 : decode cX6_tells 99 = .ok (.iadd, 1) := by decide +kernel
theorem dX6_tells_100 : decode cX6_tells 100 = .ok (.istore_n 2, 1) := by decide +kernel
theorem dX6_tells_101 : decode cX6_tells 101 = .ok (.iinc 3 1, 3) := by decide +kernel
theorem dX6_tells_104 : decode cX6_tells 104 = .ok (.goto (-100), 3) := by decide +kernel
theorem dX6_tells_107 : decode cX6_tells 107 = .ok (.iload_n 1, 1) := by decide +kernel
theorem dX6_tells_108 : decode cX6_tells 108 = .ok (.tableswitch 75 0 4 #[36, 41, 46, 51, 67], 36) := by decide +kernel
theorem dX6_tells_144 : decode cX6_tells 144 = .ok (.aload_n 0, 1) := by decide +kernel
theorem dX6_tells_145 : decode cX6_tells 145 = .ok (.getfield 151, 3) := by decide +kernel
theorem dX6_tells_148 : decode cX6_tells 148 = .ok (.ireturn, 1) := by decide +kernel
theorem dX6_tells_149 : decode cX6_tells 149 = .ok (.aload_n 0, 1) := by decide +kernel
theorem dX6_tells_150 : decode cX6_tells 150 = .ok (.getfield 154, 3) := by decide +kernel
theorem dX6_tells_153 : decode cX6_tells 153 = .ok (.ireturn, 1) := by decide +kernel
theorem dX6_tells_154 : decode cX6_tells 154 = .ok (.aload_n 0, 1) := by decide +kernel
theorem dX6_tells_155 : decode cX6_tells 155 = .ok (.getfield 160, 3) := by decide +kernel
theorem dX6_tells_158 : decode cX6_tells 158 = .ok (.ireturn, 1) := by decide +kernel
theorem dX6_tells_159 : decode cX6_tells 159 = .ok (.aload_n 0, 1) := by decide +kernel
theorem dX6_tells_160 : decode cX6_tells 160 = .ok (.getfield 151, 3) := by decide +kernel
theorem dX6_tells_163 : decode cX6_tells 163 = .ok (.ifCond .ne 7, 3) := by decide +kernel
theorem dX6_tells_166 : decode cX6_tells 166 = .ok (.iconst 0, 1) := by decide +kernel
theorem dX6_tells_167 : decode cX6_tells 167 = .ok (.goto 7, 3) := by decide +kernel
theorem dX6_tells_170 : decode cX6_tells 170 = .ok (.aload_n 0, 1) := by decide +kernel
theorem dX6_tells_171 : decode cX6_tells 171 = .ok (.invokevirtual 217, 3) := by decide +kernel
theorem dX6_tells_174 : decode cX6_tells 174 = .ok (.ireturn, 1) := by decide +kernel
theorem dX6_tells_175 : decode cX6_tells 175 = .ok (.aload_n 0, 1) := by decide +kernel
theorem dX6_tells_176 : decode cX6_tells 176 = .ok (.getfield 157, 3) := by decide +kernel
theorem dX6_tells_179 : decode cX6_tells 179 = .ok (.invokestatic 327, 3) := by decide +kernel
theorem dX6_tells_182 : decode cX6_tells 182 = .ok (.ireturn, 1) := by decide +kernel
theorem dX6_tells_183 : decode cX6_tells 183 = .ok (.iload_n 2, 1) := by decide +kernel
theorem dX6_tells_184 : decode cX6_tells 184 = .ok (.ireturn, 1) := by decide +kernel
theorem dX6_count_0 : decode cX6_count 0 = .ok (.iload_n 1, 1) := by decide +kernel
theorem dX6_count_1 : decode cX6_count 1 = .ok (.iconst 0, 1) := by decide +kernel
theorem dX6_count_2 : decode cX6_count 2 = .ok (.bipush 8, 2) := by decide +kernel
theorem dX6_count_4 : decode cX6_count 4 = .ok (.invokestatic 92, 3) := by decide +kernel
theorem dX6_count_7 : decode cX6_count 7 = .ok (.ifCond .eq 11, 3) := by decide +kernel
theorem dX6_count_10 : decode cX6_count 10 = .ok (.aload_n 0, 1) := by decide +kernel
theorem dX6_count_11 : decode cX6_count 11 = .ok (.iload_n 1, 1) := by decide +kernel
theorem dX6_count_12 : decode cX6_count 12 = .ok (.invokevirtual 330, 3) := by decide +kernel
theorem dX6_count_15 : decode cX6_count 15 = .ok (.goto 4, 3) := by decide +kernel
theorem dX6_count_18 : decode cX6_count 18 = .ok (.iconst (-1), 1) := by decide +kernel
theorem dX6_count_19 : decode cX6_count 19 = .ok (.ireturn, 1) := by decide +kernel
theorem dX6_finding_0 : decode cX6_finding 0 = .ok (.aload_n 0, 1) := by decide +kernel
theorem dX6_finding_1 : decode cX6_finding 1 = .ok (.getfield 85, 3) := by decide +kernel
theorem dX6_finding_4 : decode cX6_finding 4 = .ok (.ireturn, 1) := by decide +kernel
theorem dX6_findings_0 : decode cX6_findings 0 = .ok (.iload_n 1, 1) := by decide +kernel
theorem dX6_findings_1 : decode cX6_findings 1 = .ok (.iconst 1, 1) := by decide +kernel
theorem dX6_findings_2 : decode cX6_findings 2 = .ok (.iconst 5, 1) := by decide +kernel
theorem dX6_findings_3 : decode cX6_findings 3 = .ok (.invokestatic 92, 3) := by decide +kernel
theorem dX6_findings_6 : decode cX6_findings 6 = .ok (.ifCond .eq 12, 3) := by decide +kernel
theorem dX6_findings_9 : decode cX6_findings 9 = .ok (.aload_n 0, 1) := by decide +kernel
theorem dX6_findings_10 : decode cX6_findings 10 = .ok (.getfield 7, 3) := by decide +kernel
theorem dX6_findings_13 : decode cX6_findings 13 = .ok (.iload_n 1, 1) := by decide +kernel
theorem dX6_findings_14 : decode cX6_findings 14 = .ok (.iaload, 1) := by decide +kernel
theorem dX6_findings_15 : decode cX6_findings 15 = .ok (.goto 4, 3) := by decide +kernel
theorem dX6_findings_18 : decode cX6_findings 18 = .ok (.iconst (-1), 1) := by decide +kernel
theorem dX6_findings_19 : decode cX6_findings 19 = .ok (.ireturn, 1) := by decide +kernel
theorem dX6_mix_0 : decode cX6_mix 0 = .ok (.aload_n 0, 1) := by decide +kernel
theorem dX6_mix_1 : decode cX6_mix 1 = .ok (.ldc2_w 333, 3) := by decide +kernel
theorem dX6_mix_4 : decode cX6_mix 4 = .ok (.aload_n 0, 1) := by decide +kernel
theorem dX6_mix_5 : decode cX6_mix 5 = .ok (.getfield 335, 3) := by decide +kernel
theorem dX6_mix_8 : decode cX6_mix 8 = .ok (.lmul, 1) := by decide +kernel
theorem dX6_mix_9 : decode cX6_mix 9 = .ok (.iload_n 1, 1) := by decide +kernel
theorem dX6_mix_10 : decode cX6_mix 10 = .ok (.i2l, 1) := by decide +kernel
theorem dX6_mix_11 : decode cX6_mix 11 = .ok (.ladd, 1) := by decide +kernel
theorem dX6_mix_12 : decode cX6_mix 12 = .ok (.putfield 335, 3) := by decide +kernel
theorem dX6_mix_15 : decode cX6_mix 15 = .ok (.return_, 1) := by decide +kernel
theorem dX6_mixLand_0 : decode cX6_mixLand 0 = .ok (.iconst 0, 1) := by decide +kernel
theorem dX6_mixLand_1 : decode cX6_mixLand 1 = .ok (.istore_n 1, 1) := by decide +kernel
theorem dX6_mixLand_2 : decode cX6_mixLand 2 = .ok (.iload_n 1, 1) := by decide +kernel
theorem dX6_mixLand_3 : decode cX6_mixLand 3 = .ok (.aload_n 0, 1) := by decide +kernel
theorem dX6_mixLand_4 : decode cX6_mixLand 4 = .ok (.getfield 151, 3) := by decide +kernel
theorem dX6_mixLand_7 : decode cX6_mixLand 7 = .ok (.if_icmp .ge 31, 3) := by decide +kernel
theorem dX6_mixLand_10 : decode cX6_mixLand 10 = .ok (.aload_n 0, 1) := by decide +kernel
theorem dX6_mixLand_11 : decode cX6_mixLand 11 = .ok (.aload_n 0, 1) := by decide +kernel
theorem dX6_mixLand_12 : decode cX6_mixLand 12 = .ok (.getfield 28, 3) := by decide +kernel
theorem dX6_mixLand_15 : decode cX6_mixLand 15 = .ok (.iload_n 1, 1) := by decide +kernel
theorem dX6_mixLand_16 : decode cX6_mixLand 16 = .ok (.iaload, 1) := by decide +kernel
theorem dX6_mixLand_17 : decode cX6_mixLand 17 = .ok (.invokevirtual 339, 3) := by decide +kernel
theorem dX6_mixLand_20 : decode cX6_mixLand 20 = .ok (.aload_n 0, 1) := by decide +kernel
theorem dX6_mixLand_21 : decode cX6_mixLand 21 = .ok (.aload_n 0, 1) := by decide +kernel
theorem dX6_mixLand_22 : decode cX6_mixLand 22 = .ok (.getfield 157, 3) := by decide +kernel
theorem dX6_mixLand_25 : decode cX6_mixLand 25 = .ok (.iload_n 1, 1) := by decide +kernel
theorem dX6_mixLand_26 : decode cX6_mixLand 26 = .ok (.ishr, 1) := by decide +kernel
theorem dX6_mixLand_27 : decode cX6_mixLand 27 = .ok (.iconst 1, 1) := by decide +kernel
theorem dX6_mixLand_28 : decode cX6_mixLand 28 = .ok (.iand, 1) := by decide +kernel
theorem dX6_mixLand_29 : decode cX6_mixLand 29 = .ok (.invokevirtual 339, 3) := by decide +kernel
theorem dX6_mixLand_32 : decode cX6_mixLand 32 = .ok (.iinc 1 1, 3) := by decide +kernel
theorem dX6_mixLand_35 : decode cX6_mixLand 35 = .ok (.goto (-33), 3) := by decide +kernel
theorem dX6_mixLand_38 : decode cX6_mixLand 38 = .ok (.iconst 0, 1) := by decide +kernel
theorem dX6_mixLand_39 : decode cX6_mixLand 39 = .ok (.istore_n 1, 1) := by decide +kernel
theorem dX6_mixLand_40 : decode cX6_mixLand 40 = .ok (.iload_n 1, 1) := by decide +kernel
theorem dX6_mixLand_41 : decode cX6_mixLand 41 = .ok (.aload_n 0, 1) := by decide +kernel
theorem dX6_mixLand_42 : decode cX6_mixLand 42 = .ok (.getfield 154, 3) := by decide +kernel
theorem dX6_mixLand_45 : decode cX6_mixLand 45 = .ok (.if_icmp .ge 32, 3) := by decide +kernel
theorem dX6_mixLand_48 : decode cX6_mixLand 48 = .ok (.iconst 0, 1) := by decide +kernel
theorem dX6_mixLand_49 : decode cX6_mixLand 49 = .ok (.istore_n 2, 1) := by decide +kernel
theorem dX6_mixLand_50 : decode cX6_mixLand 50 = .ok (.iload_n 2, 1) := by decide +kernel
theorem dX6_mixLand_51 : decode cX6_mixLand 51 = .ok (.iconst 4, 1) := by decide +kernel
theorem dX6_mixLand_52 : decode cX6_mixLand 52 = .ok (.if_icmp .gt 19, 3) := by decide +kernel
theorem dX6_mixLand_55 : decode cX6_mixLand 55 = .ok (.aload_n 0, 1) := by decide +kernel
theorem dX6_mixLand_56 : decode cX6_mixLand 56 = .ok (.aload_n 0, 1) := by decide +kernel
theorem dX6_mixLand_57 : decode cX6_mixLand 57 = .ok (.iload_n 1, 1) := by decide +kernel
theorem dX6_mixLand_58 : decode cX6_mixLand 58 = .ok (.iload_n 2, 1) := by decide +kernel
theorem dX6_mixLand_59 : decode cX6_mixLand 59 = .ok (.invokevirtual 182, 3) := by decide +kernel
theorem dX6_mixLand_62 : decode cX6_mixLand 62 = .ok (.invokevirtual 339, 3) := by decide +kernel
theorem dX6_mixLand_65 : decode cX6_mixLand 65 = .ok (.iinc 2 1, 3) := by decide +kernel
theorem dX6_mixLand_68 : decode cX6_mixLand 68 = .ok (.goto (-18), 3) := by decide +kernel
theorem dX6_mixLand_71 : decode cX6_mixLand 71 = .ok (.iinc 1 1, 3) := by decide +kernel
theorem dX6_mixLand_74 : decode cX6_mixLand 74 = .ok (.goto (-34), 3) := by decide +kernel
theorem dX6_mixLand_77 : decode cX6_mixLand 77 = .ok (.iconst 0, 1) := by decide +kernel
theorem dX6_mixLand_78 : decode cX6_mixLand 78 = .ok (.istore_n 1, 1) := by decide +kernel
theorem dX6_mixLand_79 : decode cX6_mixLand 79 = .ok (.iload_n 1, 1) := by decide +kernel
theorem dX6_mixLand_80 : decode cX6_mixLand 80 = .ok (.aload_n 0, 1) := by decide +kernel
theorem dX6_mixLand_81 : decode cX6_mixLand 81 = .ok (.getfield 160, 3) := by decide +kernel
theorem dX6_mixLand_84 : decode cX6_mixLand 84 = .ok (.if_icmp .ge 19, 3) := by decide +kernel
theorem dX6_mixLand_87 : decode cX6_mixLand 87 = .ok (.aload_n 0, 1) := by decide +kernel
theorem dX6_mixLand_88 : decode cX6_mixLand 88 = .ok (.aload_n 0, 1) := by decide +kernel
theorem dX6_mixLand_89 : decode cX6_mixLand 89 = .ok (.getfield 58, 3) := by decide +kernel
theorem dX6_mixLand_92 : decode cX6_mixLand 92 = .ok (.iload_n 1, 1) := by decide +kernel
theorem dX6_mixLand_93 : decode cX6_mixLand 93 = .ok (.iaload, 1) := by decide +kernel
theorem dX6_mixLand_94 : decode cX6_mixLand 94 = .ok (.invokevirtual 339, 3) := by decide +kernel
theorem dX6_mixLand_97 : decode cX6_mixLand 97 = .ok (.iinc 1 1, 3) := by decide +kernel
theorem dX6_mixLand_100 : decode cX6_mixLand 100 = .ok (.goto (-21), 3) := by decide +kernel
theorem dX6_mixLand_103 : decode cX6_mixLand 103 = .ok (.iconst 0, 1) := by decide +kernel
theorem dX6_mixLand_104 : decode cX6_mixLand 104 = .ok (.istore_n 1, 1) := by decide +kernel
theorem dX6_mixLand_105 : decode cX6_mixLand 105 = .ok (.iload_n 1, 1) := by decide +kernel
theorem dX6_mixLand_106 : decode cX6_mixLand 106 = .ok (.iconst 3, 1) := by decide +kernel
theorem dX6_mixLand_107 : decode cX6_mixLand 107 = .ok (.if_icmp .ge 42, 3) := by decide +kernel
theorem dX6_mixLand_110 : decode cX6_mixLand 110 = .ok (.aload_n 0, 1) := by decide +kernel
theorem dX6_mixLand_111 : decode cX6_mixLand 111 = .ok (.aload_n 0, 1) := by decide +kernel
theorem dX6_mixLand_112 : decode cX6_mixLand 112 = .ok (.getfield 64, 3) := by decide +kernel
theorem dX6_mixLand_115 : decode cX6_mixLand 115 = .ok (.sipush 920, 3) := by decide +kernel
theorem dX6_mixLand_118 : decode cX6_mixLand 118 = .ok (.iload_n 1, 1) := by decide +kernel
theorem dX6_mixLand_119 : decode cX6_mixLand 119 = .ok (.imul, 1) := by decide +kernel
theorem dX6_mixLand_120 : decode cX6_mixLand 120 = .ok (.iaload, 1) := by decide +kernel
theorem dX6_mixLand_121 : decode cX6_mixLand 121 = .ok (.bipush (-9), 2) := by decide +kernel
theorem dX6_mixLand_123 : decode cX6_mixLand 123 = .ok (.if_icmp .ne 7, 3) := by decide +kernel
theorem dX6_mixLand_126 : decode cX6_mixLand 126 = .ok (.iconst (-1), 1) := by decide +kernel
theorem dX6_mixLand_127 : decode cX6_mixLand 127 = .ok (.goto 13, 3) := by decide +kernel
theorem dX6_mixLand_130 : decode cX6_mixLand 130 = .ok (.aload_n 0, 1) := by decide +kernel
theorem dX6_mixLand_131 : decode cX6_mixLand 131 = .ok (.getfield 64, 3) := by decide +kernel
theorem dX6_mixLand_134 : decode cX6_mixLand 134 = .ok (.sipush 920, 3) := by decide +kernel
theorem dX6_mixLand_137 : decode cX6_mixLand 137 = .ok (.iload_n 1, 1) := by decide +kernel
theorem dX6_mixLand_138 : decode cX6_mixLand 138 = .ok (.imul, 1) := by decide +kernel
theorem dX6_mixLand_139 : decode cX6_mixLand 139 = .ok (.iaload, 1) := by decide +kernel
theorem dX6_mixLand_140 : decode cX6_mixLand 140 = .ok (.invokevirtual 339, 3) := by decide +kernel
theorem dX6_mixLand_143 : decode cX6_mixLand 143 = .ok (.iinc 1 1, 3) := by decide +kernel
theorem dX6_mixLand_146 : decode cX6_mixLand 146 = .ok (.goto (-41), 3) := by decide +kernel
theorem dX6_mixLand_149 : decode cX6_mixLand 149 = .ok (.return_, 1) := by decide +kernel
theorem dX6_digest_0 : decode cX6_digest 0 = .ok (.aload_n 0, 1) := by decide +kernel
theorem dX6_digest_1 : decode cX6_digest 1 = .ok (.ldc2_w 342, 3) := by decide +kernel
theorem dX6_digest_4 : decode cX6_digest 4 = .ok (.putfield 335, 3) := by decide +kernel
theorem dX6_digest_7 : decode cX6_digest 7 = .ok (.iconst 0, 1) := by decide +kernel
theorem dX6_digest_8 : decode cX6_digest 8 = .ok (.istore_n 1, 1) := by decide +kernel
theorem dX6_digest_9 : decode cX6_digest 9 = .ok (.iload_n 1, 1) := by decide +kernel
theorem dX6_digest_10 : decode cX6_digest 10 = .ok (.bipush 8, 2) := by decide +kernel
theorem dX6_digest_12 : decode cX6_digest 12 = .ok (.if_icmp .gt 18, 3) := by decide +kernel
theorem dX6_digest_15 : decode cX6_digest 15 = .ok (.aload_n 0, 1) := by decide +kernel
theorem dX6_digest_16 : decode cX6_digest 16 = .ok (.aload_n 0, 1) := by decide +kernel
theorem dX6_digest_17 : decode cX6_digest 17 = .ok (.iload_n 1, 1) := by decide +kernel
theorem dX6_digest_18 : decode cX6_digest 18 = .ok (.invokevirtual 330, 3) := by decide +kernel
theorem dX6_digest_21 : decode cX6_digest 21 = .ok (.invokevirtual 339, 3) := by decide +kernel
theorem dX6_digest_24 : decode cX6_digest 24 = .ok (.iinc 1 1, 3) := by decide +kernel
theorem dX6_digest_27 : decode cX6_digest 27 = .ok (.goto (-18), 3) := by decide +kernel
theorem dX6_digest_30 : decode cX6_digest 30 = .ok (.aload_n 0, 1) := by decide +kernel
theorem dX6_digest_31 : decode cX6_digest 31 = .ok (.invokevirtual 344, 3) := by decide +kernel
theorem dX6_digest_34 : decode cX6_digest 34 = .ok (.iconst 0, 1) := by decide +kernel
theorem dX6_digest_35 : decode cX6_digest 35 = .ok (.istore_n 1, 1) := by decide +kernel
theorem dX6_digest_36 : decode cX6_digest 36 = .ok (.iload_n 1, 1) := by decide +kernel
theorem dX6_digest_37 : decode cX6_digest 37 = .ok (.bipush 6, 2) := by decide +kernel
theorem dX6_digest_39 : decode cX6_digest 39 = .ok (.if_icmp .ge 60, 3) := by decide +kernel
theorem dX6_digest_42 : decode cX6_digest 42 = .ok (.aload_n 0, 1) := by decide +kernel
theorem dX6_digest_43 : decode cX6_digest 43 = .ok (.aload_n 0, 1) := by decide +kernel
theorem dX6_digest_44 : decode cX6_digest 44 = .ok (.getfield 13, 3) := by decide +kernel
theorem dX6_digest_47 : decode cX6_digest 47 = .ok (.iload_n 1, 1) := by decide +kernel
theorem dX6_digest_48 : decode cX6_digest 48 = .ok (.iaload, 1) := by decide +kernel
theorem dX6_digest_49 : decode cX6_digest 49 = .ok (.ifCond .ge 7, 3) := by decide +kernel
theorem dX6_digest_52 : decode cX6_digest 52 = .ok (.iconst (-1), 1) := by decide +kernel
theorem dX6_digest_53 : decode cX6_digest 53 = .ok (.goto 9, 3) := by decide +kernel
theorem dX6_digest_56 : decode cX6_digest 56 = .ok (.aload_n 0, 1) := by decide +kernel
theorem dX6_digest_57 : decode cX6_digest 57 = .ok (.getfield 13, 3) := by decide +kernel
theorem dX6_digest_60 : decode cX6_digest 60 = .ok (.iload_n 1, 1) := by decide +kernel
theorem dX6_digest_61 : decode cX6_digest 61 = .ok (.iaload, 1) := by decide +kernel
theorem dX6_digest_62 : decode cX6_digest 62 = .ok (.invokevirtual 339, 3) := by decide +kernel
theorem dX6_digest_65 : decode cX6_digest 65 = .ok (.iconst 0, 1) := by decide +kernel
theorem dX6_digest_66 : decode cX6_digest 66 = .ok (.istore_n 2, 1) := by decide +kernel
theorem dX6_digest_67 : decode cX6_digest 67 = .ok (.iload_n 2, 1) := by decide +kernel
theorem dX6_digest_68 : decode cX6_digest 68 = .ok (.aload_n 0, 1) := by decide +kernel
theorem dX6_digest_69 : decode cX6_digest 69 = .ok (.getfield 13, 3) := by decide +kernel
theorem dX6_digest_72 : decode cX6_digest 72 = .ok (.iload_n 1, 1) := by decide +kernel
theorem dX6_digest_73 : decode cX6_digest 73 = .ok (.iaload, 1) := by decide +kernel
theorem dX6_digest_74 : decode cX6_digest 74 = .ok (.if_icmp .ge 19, 3) := by decide +kernel
theorem dX6_digest_77 : decode cX6_digest 77 = .ok (.aload_n 0, 1) := by decide +kernel
theorem dX6_digest_78 : decode cX6_digest 78 = .ok (.aload_n 0, 1) := by decide +kernel
theorem dX6_digest_79 : decode cX6_digest 79 = .ok (.iload_n 1, 1) := by decide +kernel
theorem dX6_digest_80 : decode cX6_digest 80 = .ok (.iload_n 2, 1) := by decide +kernel
theorem dX6_digest_81 : decode cX6_digest 81 = .ok (.invokevirtual 114, 3) := by decide +kernel
theorem dX6_digest_84 : decode cX6_digest 84 = .ok (.invokevirtual 339, 3) := by decide +kernel
theorem dX6_digest_87 : decode cX6_digest 87 = .ok (.iinc 2 1, 3) := by decide +kernel
theorem dX6_digest_90 : decode cX6_digest 90 = .ok (.goto (-23), 3) := by decide +kernel
theorem dX6_digest_93 : decode cX6_digest 93 = .ok (.iinc 1 1, 3) := by decide +kernel
theorem dX6_digest_96 : decode cX6_digest 96 = .ok (.goto (-60), 3) := by decide +kernel
theorem dX6_digest_99 : decode cX6_digest 99 = .ok (.iconst 0, 1) := by decide +kernel
theorem dX6_digest_100 : decode cX6_digest 100 = .ok (.istore_n 1, 1) := by decide +kernel
theorem dX6_digest_101 : decode cX6_digest 101 = .ok (.iload_n 1, 1) := by decide +kernel
theorem dX6_digest_102 : decode cX6_digest 102 = .ok (.iconst 4, 1) := by decide +kernel
theorem dX6_digest_103 : decode cX6_digest 103 = .ok (.if_icmp .ge 65, 3) := by decide +kernel
theorem dX6_digest_106 : decode cX6_digest 106 = .ok (.aload_n 0, 1) := by decide +kernel
theorem dX6_digest_107 : decode cX6_digest 107 = .ok (.aload_n 0, 1) := by decide +kernel
theorem dX6_digest_108 : decode cX6_digest 108 = .ok (.getfield 22, 3) := by decide +kernel
theorem dX6_digest_111 : decode cX6_digest 111 = .ok (.iload_n 1, 1) := by decide +kernel
theorem dX6_digest_112 : decode cX6_digest 112 = .ok (.iaload, 1) := by decide +kernel
theorem dX6_digest_113 : decode cX6_digest 113 = .ok (.ifCond .ge 7, 3) := by decide +kernel
theorem dX6_digest_116 : decode cX6_digest 116 = .ok (.iconst (-1), 1) := by decide +kernel
theorem dX6_digest_117 : decode cX6_digest 117 = .ok (.goto 9, 3) := by decide +kernel
theorem dX6_digest_120 : decode cX6_digest 120 = .ok (.aload_n 0, 1) := by decide +kernel
theorem dX6_digest_121 : decode cX6_digest 121 = .ok (.getfield 22, 3) := by decide +kernel
theorem dX6_digest_124 : decode cX6_digest 124 = .ok (.iload_n 1, 1) := by decide +kernel
theorem dX6_digest_125 : decode cX6_digest 125 = .ok (.iaload, 1) := by decide +kernel
theorem dX6_digest_126 : decode cX6_digest 126 = .ok (.invokevirtual 339, 3) := by decide +kernel
theorem dX6_digest_129 : decode cX6_digest 129 = .ok (.iconst 0, 1) := by decide +kernel
theorem dX6_digest_130 : decode cX6_digest 130 = .ok (.istore_n 2, 1) := by decide +kernel
theorem dX6_digest_131 : decode cX6_digest 131 = .ok (.iload_n 2, 1) := by decide +kernel
theorem dX6_digest_132 : decode cX6_digest 132 = .ok (.aload_n 0, 1) := by decide +kernel
theorem dX6_digest_133 : decode cX6_digest 133 = .ok (.getfield 22, 3) := by decide +kernel
theorem dX6_digest_136 : decode cX6_digest 136 = .ok (.iload_n 1, 1) := by decide +kernel
theorem dX6_digest_137 : decode cX6_digest 137 = .ok (.iaload, 1) := by decide +kernel
theorem dX6_digest_138 : decode cX6_digest 138 = .ok (.if_icmp .ge 24, 3) := by decide +kernel
theorem dX6_digest_141 : decode cX6_digest 141 = .ok (.aload_n 0, 1) := by decide +kernel
theorem dX6_digest_142 : decode cX6_digest 142 = .ok (.aload_n 0, 1) := by decide +kernel
theorem dX6_digest_143 : decode cX6_digest 143 = .ok (.getfield 25, 3) := by decide +kernel
theorem dX6_digest_146 : decode cX6_digest 146 = .ok (.bipush 80, 2) := by decide +kernel
theorem dX6_digest_148 : decode cX6_digest 148 = .ok (.iload_n 1, 1) := by decide +kernel
theorem dX6_digest_149 : decode cX6_digest 149 = .ok (.imul, 1) := by decide +kernel
theorem dX6_digest_150 : decode cX6_digest 150 = .ok (.iload_n 2, 1) := by decide +kernel
theorem dX6_digest_151 : decode cX6_digest 151 = .ok (.iadd, 1) := by decide +kernel
theorem dX6_digest_152 : decode cX6_digest 152 = .ok (.iaload, 1) := by decide +kernel
theorem dX6_digest_153 : decode cX6_digest 153 = .ok (.invokevirtual 339, 3) := by decide +kernel
theorem dX6_digest_156 : decode cX6_digest 156 = .ok (.iinc 2 1, 3) := by decide +kernel
theorem dX6_digest_159 : decode cX6_digest 159 = .ok (.goto (-28), 3) := by decide +kernel
theorem dX6_digest_162 : decode cX6_digest 162 = .ok (.iinc 1 1, 3) := by decide +kernel
theorem dX6_digest_165 : decode cX6_digest 165 = .ok (.goto (-64), 3) := by decide +kernel
theorem dX6_digest_168 : decode cX6_digest 168 = .ok (.aload_n 0, 1) := by decide +kernel
theorem dX6_digest_169 : decode cX6_digest 169 = .ok (.getfield 335, 3) := by decide +kernel
theorem dX6_digest_172 : decode cX6_digest 172 = .ok (.lreturn, 1) := by decide +kernel
