theorem dX12_plain_0 : decode cX12_plain 0 = .ok (.iload_n 2, 1) := by decide +kernel
theorem dX12_plain_1 : decode cX12_plain 1 = .ok (.tableswitch 143 1 7 #[43, 143, 43, 58, 70, 91, 112], 43) := by decide +kernel
theorem dX12_plain_44 : decode cX12_plain 44 = .ok (.aload_n 0, 1) := by decide +kernel
theorem dX12_plain_45 : decode cX12_plain 45 = .ok (.iload_n 1, 1) := by decide +kernel
theorem dX12_plain_46 : decode cX12_plain 46 = .ok (.iload_n 2, 1) := by decide +kernel
theorem dX12_plain_47 : decode cX12_plain 47 = .ok (.aload_n 0, 1) := by decide +kernel
theorem dX12_plain_48 : decode cX12_plain 48 = .ok (.getfield 53, 3) := by decide +kernel
theorem dX12_plain_51 : decode cX12_plain 51 = .ok (.iload_n 3, 1) := by decide +kernel
theorem dX12_plain_52 : decode cX12_plain 52 = .ok (.laload, 1) := by decide +kernel
theorem dX12_plain_53 : decode cX12_plain 53 = .ok (.invokevirtual 346, 3) := by decide +kernel
theorem dX12_plain_56 : decode cX12_plain 56 = .ok (.goto 96, 3) := by decide +kernel
theorem dX12_plain_59 : decode cX12_plain 59 = .ok (.aload_n 0, 1) := by decide +kernel
theorem dX12_plain_60 : decode cX12_plain 60 = .ok (.iload_n 1, 1) := by decide +kernel
theorem dX12_plain_61 : decode cX12_plain 61 = .ok (.iconst 4, 1) := by decide +kernel
theorem dX12_plain_62 : decode cX12_plain 62 = .ok (.ldc2_w 180, 3) := by decide +kernel
theorem dX12_plain_65 : decode cX12_plain 65 = .ok (.invokevirtual 346, 3) := by decide +kernel
theorem dX12_plain_68 : decode cX12_plain 68 = .ok (.goto 84, 3) := by decide +kernel
theorem dX12_plain_71 : decode cX12_plain 71 = .ok (.aload_n 0, 1) := by decide +kernel
theorem dX12_plain_72 : decode cX12_plain 72 = .ok (.iload_n 1, 1) := by decide +kernel
theorem dX12_plain_73 : decode cX12_plain 73 = .ok (.iload 4, 2) := by decide +kernel
theorem dX12_plain_75 : decode cX12_plain 75 = .ok (.aload_n 0, 1) := by decide +kernel
theorem dX12_plain_76 : decode cX12_plain 76 = .ok (.getfield 142, 3) := by decide +kernel
theorem dX12_plain_79 : decode cX12_plain 79 = .ok (.bipush 18, 2) := by decide +kernel
theorem dX12_plain_81 : decode cX12_plain 81 = .ok (.iload_n 1, 1) := by decide +kernel
theorem dX12_plain_82 : decode cX12_plain 82 = .ok (.imul, 1) := by decide +kernel
theorem dX12_plain_83 : decode cX12_plain 83 = .ok (.iload_n 3, 1) := by decide +kernel
theorem dX12_plain_84 : decode cX12_plain 84 = .ok (.iadd, 1) := by decide +kernel
theorem dX12_plain_85 : decode cX12_plain 85 = .ok (.laload, 1) := by decide +kernel
theorem dX12_plain_86 : decode cX12_plain 86 = .ok (.invokevirtual 346, 3) := by decide +kernel
theorem dX12_plain_89 : decode cX12_plain 89 = .ok (.goto 63, 3) := by decide +kernel
theorem dX12_plain_92 : decode cX12_plain 92 = .ok (.aload_n 0, 1) := by decide +kernel
theorem dX12_plain_93 : decode cX12_plain 93 = .ok (.getfield 142, 3) := by decide +kernel
theorem dX12_plain_96 : decode cX12_plain 96 = .ok (.bipush 18, 2) := by decide +kernel
theorem dX12_plain_98 : decode cX12_plain 98 = .ok (.iload_n 1, 1) := by decide +kernel
theorem dX12_plain_99 : decode cX12_plain 99 = .ok (.imul, 1) := by decide +kernel
theorem dX12_plain_100 : decode cX12_plain 100 = .ok (.iload_n 3, 1) := by decide +kernel
theorem dX12_plain_101 : decode cX12_plain 101 = .ok (.iadd, 1) := by decide +kernel
theorem dX12_plain_102 : decode cX12_plain 102 = .ok (.aload_n 0, 1) := by decide +kernel
theorem dX12_plain_103 : decode cX12_plain 103 = .ok (.iload_n 1, 1) := by decide +kernel
theorem dX12_plain_104 : decode cX12_plain 104 = .ok (.iload 4, 2) := by decide +kernel
theorem dX12_plain_106 : decode cX12_plain 106 = .ok (.invokevirtual 280, 3) := by decide +kernel
theorem dX12_plain_109 : decode cX12_plain 109 = .ok (.lastore, 1) := by decide +kernel
theorem dX12_plain_110 : decode cX12_plain 110 = .ok (.goto 42, 3) := by decide +kernel
theorem dX12_plain_113 : decode cX12_plain 113 = .ok (.aload_n 0, 1) := by decide +kernel
theorem dX12_plain_114 : decode cX12_plain 114 = .ok (.getfield 142, 3) := by decide +kernel
theorem dX12_plain_117 : decode cX12_plain 117 = .ok (.bipush 18, 2) := by decide +kernel
theorem dX12_plain_119 : decode cX12_plain 119 = .ok (.iload_n 1, 1) := by decide +kernel
theorem dX12_plain_120 : decode cX12_plain 120 = .ok (.imul, 1) := by decide +kernel
theorem dX12_plain_121 : decode cX12_plain 121 = .ok (.iload_n 3, 1) := by decide +kernel
theorem dX12_plain_122 : decode cX12_plain 122 = .ok (.iadd, 1) := by decide +kernel
theorem dX12_plain_123 : decode cX12_plain 123 = .ok (.aload_n 0, 1) := by decide +kernel
theorem dX12_plain_124 : decode cX12_plain 124 = .ok (.getfield 142, 3) := by decide +kernel
theorem dX12_plain_127 : decode cX12_plain 127 = .ok (.bipush 18, 2) := by decide +kernel
theorem dX12_plain_129 : decode cX12_plain 129 = .ok (.iload_n 1, 1) := by decide +kernel
theorem dX12_plain_130 : decode cX12_plain 130 = .ok (.imul, 1) := by decide +kernel
theorem dX12_plain_131 : decode cX12_plain 131 = .ok (.iload_n 3, 1) := by decide +kernel
theorem dX12_plain_132 : decode cX12_plain 132 = .ok (.iadd, 1) := by decide +kernel
theorem dX12_plain_133 : decode cX12_plain 133 = .ok (.laload, 1) := by decide +kernel
theorem dX12_plain_134 : decode cX12_plain 134 = .ok (.iload 4, 2) := by decide +kernel
theorem dX12_plain_136 : decode cX12_plain 136 = .ok (.i2l, 1) := by decide +kernel
theorem dX12_plain_137 : decode cX12_plain 137 = .ok (.ladd, 1) := by decide +kernel
theorem dX12_plain_138 : decode cX12_plain 138 = .ok (.l2i, 1) := by decide +kernel
theorem dX12_plain_139 : decode cX12_plain 139 = .ok (.i2l, 1) := by decide +kernel
theorem dX12_plain_140 : decode cX12_plain 140 = .ok (.lastore, 1) := by decide +kernel
theorem dX12_plain_141 : decode cX12_plain 141 = .ok (.goto 11, 3) := by decide +kernel
theorem dX12_plain_144 : decode cX12_plain 144 = .ok (.aload_n 0, 1) := by decide +kernel
theorem dX12_plain_145 : decode cX12_plain 145 = .ok (.iload_n 1, 1) := by decide +kernel
theorem dX12_plain_146 : decode cX12_plain 146 = .ok (.iload_n 2, 1) := by decide +kernel
theorem dX12_plain_147 : decode cX12_plain 147 = .ok (.iload_n 3, 1) := by decide +kernel
theorem dX12_plain_148 : decode cX12_plain 148 = .ok (.i2l, 1) := by decide +kernel
theorem dX12_plain_149 : decode cX12_plain 149 = .ok (.invokevirtual 346, 3) := by decide +kernel
theorem dX12_plain_152 : decode cX12_plain 152 = .ok (.return_, 1) := by decide +kernel
theorem dX12_reckoned_0 : decode cX12_reckoned 0 = .ok (.iload 4, 2) := by decide +kernel
theorem dX12_reckoned_2 : decode cX12_reckoned 2 = .ok (.tableswitch 159 0 10 #[58, 62, 66, 70, 74, 90, 94, 98, 102, 121, 140], 58) := by decide +kernel
theorem dX12_reckoned_60 : decode cX12_reckoned 60 = .ok (.lload_n 0, 1) := by decide +kernel
theorem dX12_reckoned_61 : decode cX12_reckoned 61 = .ok (.lload_n 2, 1) := by decide +kernel
theorem dX12_reckoned_62 : decode cX12_reckoned 62 = .ok (.ladd, 1) := by decide +kernel
theorem dX12_reckoned_63 : decode cX12_reckoned 63 = .ok (.lreturn, 1) := by decide +kernel
theorem dX12_reckoned_64 : decode cX12_reckoned 64 = .ok (.lload_n 0, 1) := by decide +kernel
theorem dX12_reckoned_65 : decode cX12_reckoned 65 = .ok (.lload_n 2, 1) := by decide +kernel
theorem dX12_reckoned_66 : decode cX12_reckoned 66 = .ok (.lsub, 1) := by decide +kernel
theorem dX12_reckoned_67 : decode cX12_reckoned 67 = .ok (.lreturn, 1) := by decide +kernel
theorem dX12_reckoned_68 : decode cX12_reckoned 68 = .ok (.lload_n 0, 1) := by decide +kernel
theorem dX12_reckoned_69 : decode cX12_reckoned 69 = .ok (.lload_n 2, 1) := by decide +kernel
theorem dX12_reckoned_70 : decode cX12_reckoned 70 = .ok (.lmul, 1) := by decide +kernel
theorem dX12_reckoned_71 : decode cX12_reckoned 71 = .ok (.lreturn, 1) := by decide +kernel
theorem dX12_reckoned_72 : decode cX12_reckoned 72 = .ok (.lload_n 0, 1) := by decide +kernel
theorem dX12_reckoned_73 : decode cX12_reckoned 73 = .ok (.lload_n 2, 1) := by decide +kernel
theorem dX12_reckoned_74 : decode cX12_reckoned 74 = .ok (.ldiv, 1) := by decide +kernel
theorem dX12_reckoned_75 : decode cX12_reckoned 75 = .ok (.lreturn, 1) := by decide +kernel
theorem dX12_reckoned_76 : decode cX12_reckoned 76 = .ok (.lload_n 2, 1) := by decide +kernel
theorem dX12_reckoned_77 : decode cX12_reckoned 77 = .ok (.ldc2_w 180, 3) := by decide +kernel
theorem dX12_reckoned_80 : decode cX12_reckoned 80 = .ok (.lcmp, 1) := by decide +kernel
theorem dX12_reckoned_81 : decode cX12_reckoned 81 = .ok (.ifCond .ne 7, 3) := by decide +kernel
theorem dX12_reckoned_84 : decode cX12_reckoned 84 = .ok (.lconst 0, 1) := by decide +kernel
theorem dX12_reckoned_85 : decode cX12_reckoned 85 = .ok (.goto 6, 3) := by decide +kernel
theorem dX12_reckoned_88 : decode cX12_reckoned 88 = .ok (.lload_n 0, 1) := by decide +kernel
theorem dX12_reckoned_89 : decode cX12_reckoned 89 = .ok (.lload_n 2, 1) := by decide +kernel
theorem dX12_reckoned_90 : decode cX12_reckoned 90 = .ok (.lrem, 1) := by decide +kernel
theorem dX12_reckoned_91 : decode cX12_reckoned 91 = .ok (.lreturn, 1) := by decide +kernel
theorem dX12_reckoned_92 : decode cX12_reckoned 92 = .ok (.lload_n 0, 1) := by decide +kernel
theorem dX12_reckoned_93 : decode cX12_reckoned 93 = .ok (.lload_n 2, 1) := by decide +kernel
theorem dX12_reckoned_94 : decode cX12_reckoned 94 = .ok (.land, 1) := by decide +kernel
theorem dX12_reckoned_95 : decode cX12_reckoned 95 = .ok (.lreturn, 1) := by decide +kernel
theorem dX12_reckoned_96 : decode cX12_reckoned 96 = .ok (.lload_n 0, 1) := by decide +kernel
theorem dX12_reckoned_97 : decode cX12_reckoned 97 = .ok (.lload_n 2, 1) := by decide +kernel
theorem dX12_reckoned_98 : decode cX12_reckoned 98 = .ok (.lor, 1) := by decide +kernel
theorem dX12_reckoned_99 : decode cX12_reckoned 99 = .ok (.lreturn, 1) := by decide +kernel
theorem dX12_reckoned_100 : decode cX12_reckoned 100 = .ok (.lload_n 0, 1) := by decide +kernel
theorem dX12_reckoned_101 : decode cX12_reckoned 101 = .ok (.lload_n 2, 1) := by decide +kernel
theorem dX12_reckoned_102 : decode cX12_reckoned 102 = .ok (.lxor, 1) := by decide +kernel
theorem dX12_reckoned_103 : decode cX12_reckoned 103 = .ok (.lreturn, 1) := by decide +kernel
theorem dX12_reckoned_104 : decode cX12_reckoned 104 = .ok (.iload 5, 2) := by decide +kernel
theorem dX12_reckoned_106 : decode cX12_reckoned 106 = .ok (.ifCond .ne 12, 3) := by decide +kernel
theorem dX12_reckoned_109 : decode cX12_reckoned 109 = .ok (.lload_n 0, 1) := by decide +kernel
theorem dX12_reckoned_110 : decode cX12_reckoned 110 = .ok (.l2i, 1) := by decide +kernel
theorem dX12_reckoned_111 : decode cX12_reckoned 111 = .ok (.lload_n 2, 1) := by decide +kernel
theorem dX12_reckoned_112 : decode cX12_reckoned 112 = .ok (.l2i, 1) := by decide +kernel
theorem dX12_reckoned_113 : decode cX12_reckoned 113 = .ok (.ishl, 1) := by decide +kernel
theorem dX12_reckoned_114 : decode cX12_reckoned 114 = .ok (.i2l, 1) := by decide +kernel
theorem dX12_reckoned_115 : decode cX12_reckoned 115 = .ok (.goto 7, 3) := by decide +kernel
theorem dX12_reckoned_118 : decode cX12_reckoned 118 = .ok (.lload_n 0, 1) := by decide +kernel
theorem dX12_reckoned_119 : decode cX12_reckoned 119 = .ok (.lload_n 2, 1) := by decide +kernel
theorem dX12_reckoned_120 : decode cX12_reckoned 120 = .ok (.l2i, 1) := by decide +kernel
theorem dX12_reckoned_121 : decode cX12_reckoned 121 = .ok (.lshl, 1) := by decide +kernel
theorem dX12_reckoned_122 : decode cX12_reckoned 122 = .ok (.lreturn, 1) := by decide +kernel
theorem dX12_reckoned_123 : decode cX12_reckoned 123 = .ok (.iload 5, 2) := by decide +kernel
theorem dX12_reckoned_125 : decode cX12_reckoned 125 = .ok (.ifCond .ne 12, 3) := by decide +kernel
theorem dX12_reckoned_128 : decode cX12_reckoned 128 = .ok (.lload_n 0, 1) := by decide +kernel
theorem dX12_reckoned_129 : decode cX12_reckoned 129 = .ok (.l2i, 1) := by decide +kernel
theorem dX12_reckoned_130 : decode cX12_reckoned 130 = .ok (.lload_n 2, 1) := by decide +kernel
theorem dX12_reckoned_131 : decode cX12_reckoned 131 = .ok (.l2i, 1) := by decide +kernel
theorem dX12_reckoned_132 : decode cX12_reckoned 132 = .ok (.ishr, 1) := by decide +kernel
theorem dX12_reckoned_133 : decode cX12_reckoned 133 = .ok (.i2l, 1) := by decide +kernel
theorem dX12_reckoned_134 : decode cX12_reckoned 134 = .ok (.goto 7, 3) := by decide +kernel
theorem dX12_reckoned_137 : decode cX12_reckoned 137 = .ok (.lload_n 0, 1) := by decide +kernel
theorem dX12_reckoned_138 : decode cX12_reckoned 138 = .ok (.lload_n 2, 1) := by decide +kernel
theorem dX12_reckoned_139 : decode cX12_reckoned 139 = .ok (.l2i, 1) := by decide +kernel
theorem dX12_reckoned_140 : decode cX12_reckoned 140 = .ok (.lshr, 1) := by decide +kernel
theorem dX12_reckoned_141 : decode cX12_reckoned 141 = .ok (.lreturn, 1) := by decide +kernel
theorem dX12_reckoned_142 : decode cX12_reckoned 142 = .ok (.iload 5, 2) := by decide +kernel
theorem dX12_reckoned_144 : decode cX12_reckoned 144 = .ok (.ifCond .ne 12, 3) := by decide +kernel
theorem dX12_reckoned_147 : decode cX12_reckoned 147 = .ok (.lload_n 0, 1) := by decide +kernel
theorem dX12_reckoned_148 : decode cX12_reckoned 148 = .ok (.l2i, 1) := by decide +kernel
theorem dX12_reckoned_149 : decode cX12_reckoned 149 = .ok (.lload_n 2, 1) := by decide +kernel
theorem dX12_reckoned_150 : decode cX12_reckoned 150 = .ok (.l2i, 1) := by decide +kernel
theorem dX12_reckoned_151 : decode cX12_reckoned 151 = .ok (.iushr, 1) := by decide +kernel
theorem dX12_reckoned_152 : decode cX12_reckoned 152 = .ok (.i2l, 1) := by decide +kernel
theorem dX12_reckoned_153 : decode cX12_reckoned 153 = .ok (.goto 7, 3) := by decide +kernel
theorem dX12_reckoned_156 : decode cX12_reckoned 156 = .ok (.lload_n 0, 1) := by decide +kernel
theorem dX12_reckoned_157 : decode cX12_reckoned 157 = .ok (.lload_n 2, 1) := by decide +kernel
theorem dX12_reckoned_158 : decode cX12_reckoned 158 = .ok (.l2i, 1) := by decide +kernel
theorem dX12_reckoned_159 : decode cX12_reckoned 159 = .ok (.lushr, 1) := by decide +kernel
theorem dX12_reckoned_160 : decode cX12_reckoned 160 = .ok (.lreturn, 1) := by decide +kernel
theorem dX12_reckoned_161 : decode cX12_reckoned 161 = .ok (.lload_n 0, 1) := by decide +kernel
theorem dX12_reckoned_162 : decode cX12_reckoned 162 = .ok (.lneg, 1) := by decide +kernel
theorem dX12_reckoned_163 : decode cX12_reckoned 163 = .ok (.lreturn, 1) := by decide +kernel
theorem dX12_fail_0 : decode cX12_fail 0 = .ok (.aload_n 0, 1) := by decide +kernel
theorem dX12_fail_1 : decode cX12_fail 1 = .ok (.iload_n 1, 1) := by decide +kernel
theorem dX12_fail_2 : decode cX12_fail 2 = .ok (.putfield 330, 3) := by decide +kernel
theorem dX12_fail_5 : decode cX12_fail 5 = .ok (.return_, 1) := by decide +kernel
theorem dX12_narrow_0 : decode cX12_narrow 0 = .ok (.lload_n 0, 1) := by decide +kernel
theorem dX12_narrow_1 : decode cX12_narrow 1 = .ok (.l2i, 1) := by decide +kernel
theorem dX12_narrow_2 : decode cX12_narrow 2 = .ok (.istore_n 3, 1) := by decide +kernel
theorem dX12_narrow_3 : decode cX12_narrow 3 = .ok (.iload_n 2, 1) := by decide +kernel
theorem dX12_narrow_4 : decode cX12_narrow 4 = .ok (.ifCond .ne 14, 3) := by decide +kernel
theorem dX12_narrow_7 : decode cX12_narrow 7 = .ok (.iload_n 3, 1) := by decide +kernel
theorem dX12_narrow_8 : decode cX12_narrow 8 = .ok (.bipush 24, 2) := by decide +kernel
theorem dX12_narrow_10 : decode cX12_narrow 10 = .ok (.ishl, 1) := by decide +kernel
theorem dX12_narrow_11 : decode cX12_narrow 11 = .ok (.bipush 24, 2) := by decide +kernel
theorem dX12_narrow_13 : decode cX12_narrow 13 = .ok (.ishr, 1) := by decide +kernel
theorem dX12_narrow_14 : decode cX12_narrow 14 = .ok (.i2l, 1) := by decide +kernel
theorem dX12_narrow_15 : decode cX12_narrow 15 = .ok (.goto 25, 3) := by decide +kernel
theorem dX12_narrow_18 : decode cX12_narrow 18 = .ok (.iload_n 2, 1) := by decide +kernel
theorem dX12_narrow_19 : decode cX12_narrow 19 = .ok (.iconst 1, 1) := by decide +kernel
theorem dX12_narrow_20 : decode cX12_narrow 20 = .ok (.if_icmp .ne 14, 3) := by decide +kernel
theorem dX12_narrow_23 : decode cX12_narrow 23 = .ok (.iload_n 3, 1) := by decide +kernel
theorem dX12_narrow_24 : decode cX12_narrow 24 = .ok (.bipush 16, 2) := by decide +kernel
theorem dX12_narrow_26 : decode cX12_narrow 26 = .ok (.ishl, 1) := by decide +kernel
theorem dX12_narrow_27 : decode cX12_narrow 27 = .ok (.bipush 16, 2) := by decide +kernel
theorem dX12_narrow_29 : decode cX12_narrow 29 = .ok (.ishr, 1) := by decide +kernel
theorem dX12_narrow_30 : decode cX12_narrow 30 = .ok (.i2l, 1) := by decide +kernel
theorem dX12_narrow_31 : decode cX12_narrow 31 = .ok (.goto 9, 3) := by decide +kernel
theorem dX12_narrow_34 : decode cX12_narrow 34 = .ok (.iload_n 3, 1) := by decide +kernel
theorem dX12_narrow_35 : decode cX12_narrow 35 = .ok (.ldc_w 388, 3) := by decide +kernel
theorem dX12_narrow_38 : decode cX12_narrow 38 = .ok (.iand, 1) := by decide +kernel
theorem dX12_narrow_39 : decode cX12_narrow 39 = .ok (.i2l, 1) := by decide +kernel
theorem dX12_narrow_40 : decode cX12_narrow 40 = .ok (.lreturn, 1) := by decide +kernel
theorem dX12_isNone_0 : decode cX12_isNone 0 = .ok (.iload_n 2, 1) := by decide +kernel
theorem dX12_isNone_1 : decode cX12_isNone 1 = .ok (.ifCond .eq 9, 3) := by decide +kernel
theorem dX12_isNone_4 : decode cX12_isNone 4 = .ok (.ldc2_w 389, 3) := by decide +kernel
theorem dX12_isNone_7 : decode cX12_isNone 7 = .ok (.goto 6, 3) := by decide +kernel
theorem dX12_isNone_10 : decode cX12_isNone 10 = .ok (.ldc2_w 391, 3) := by decide +kernel
theorem dX12_isNone_13 : decode cX12_isNone 13 = .ok (.lstore_n 3, 1) := by decide +kernel
theorem dX12_isNone_14 : decode cX12_isNone 14 = .ok (.iload_n 2, 1) := by decide +kernel
theorem dX12_isNone_15 : decode cX12_isNone 15 = .ok (.ifCond .eq 9, 3) := by decide +kernel
theorem dX12_isNone_18 : decode cX12_isNone 18 = .ok (.ldc2_w 393, 3) := by decide +kernel
theorem dX12_isNone_21 : decode cX12_isNone 21 = .ok (.goto 6, 3) := by decide +kernel
theorem dX12_isNone_24 : decode cX12_isNone 24 = .ok (.ldc2_w 395, 3) := by decide +kernel
theorem dX12_isNone_27 : decode cX12_isNone 27 = .ok (.lstore 5, 2) := by decide +kernel
theorem dX12_isNone_29 : decode cX12_isNone 29 = .ok (.lload_n 0, 1) := by decide +kernel
theorem dX12_isNone_30 : decode cX12_isNone 30 = .ok (.lload_n 3, 1) := by decide +kernel
theorem dX12_isNone_31 : decode cX12_isNone 31 = .ok (.land, 1) := by decide +kernel
theorem dX12_isNone_32 : decode cX12_isNone 32 = .ok (.lload_n 3, 1) := by decide +kernel
theorem dX12_isNone_33 : decode cX12_isNone 33 = .ok (.lcmp, 1) := by decide +kernel
theorem dX12_isNone_34 : decode cX12_isNone 34 = .ok (.ifCond .ne 16, 3) := by decide +kernel
theorem dX12_isNone_37 : decode cX12_isNone 37 = .ok (.lload_n 0, 1) := by decide +kernel
theorem dX12_isNone_38 : decode cX12_isNone 38 = .ok (.lload 5, 2) := by decide +kernel
theorem dX12_isNone_40 : decode cX12_isNone 40 = .ok (.land, 1) := by decide +kernel
theorem dX12_isNone_41 : decode cX12_isNone 41 = .ok (.lconst 0, 1) := by decide +kernel
theorem dX12_isNone_42 : decode cX12_isNone 42 = .ok (.lcmp, 1) := by decide +kernel
theorem dX12_isNone_43 : decode cX12_isNone 43 = .ok (.ifCond .eq 7, 3) := by decide +kernel
theorem dX12_isNone_46 : decode cX12_isNone 46 = .ok (.iconst 1, 1) := by decide +kernel
theorem dX12_isNone_47 : decode cX12_isNone 47 = .ok (.goto 4, 3) := by decide +kernel
theorem dX12_isNone_50 : decode cX12_isNone 50 = .ok (.iconst 0, 1) := by decide +kernel
theorem dX12_isNone_51 : decode cX12_isNone 51 = .ok (.ireturn, 1) := by decide +kernel
theorem dX12_inOrder_0 : decode cX12_inOrder 0 = .ok (.lload_n 0, 1) := by decide +kernel
theorem dX12_inOrder_1 : decode cX12_inOrder 1 = .ok (.iload_n 2, 1) := by decide +kernel
theorem dX12_inOrder_2 : decode cX12_inOrder 2 = .ok (.ifCond .eq 9, 3) := by decide +kernel
theorem dX12_inOrder_5 : decode cX12_inOrder 5 = .ok (.ldc2_w 397, 3) := by decide +kernel
theorem dX12_inOrder_8 : decode cX12_inOrder 8 = .ok (.goto 6, 3) := by decide +kernel
theorem dX12_inOrder_11 : decode cX12_inOrder 11 = .ok (.ldc2_w 399, 3) := by decide +kernel
theorem dX12_inOrder_14 : decode cX12_inOrder 14 = .ok (.land, 1) := by decide +kernel
theorem dX12_inOrder_15 : decode cX12_inOrder 15 = .ok (.lstore_n 3, 1) := by decide +kernel
theorem dX12_inOrder_16 : decode cX12_inOrder 16 = .ok (.lload_n 0, 1) := by decide +kernel
theorem dX12_inOrder_17 : decode cX12_inOrder 17 = .ok (.lconst 0, 1) := by decide +kernel
theorem dX12_inOrder_18 : decode cX12_inOrder 18 = .ok (.lcmp, 1) := by decide +kernel
theorem dX12_inOrder_19 : decode cX12_inOrder 19 = .ok (.ifCond .ge 8, 3) := by decide +kernel
theorem dX12_inOrder_22 : decode cX12_inOrder 22 = .ok (.lload_n 3, 1) := by decide +kernel
theorem dX12_inOrder_23 : decode cX12_inOrder 23 = .ok (.lneg, 1) := by decide +kernel
theorem dX12_inOrder_24 : decode cX12_inOrder 24 = .ok (.goto 4, 3) := by decide +kernel
theorem dX12_inOrder_27 : decode cX12_inOrder 27 = .ok (.lload_n 3, 1) := by decide +kernel
theorem dX12_inOrder_28 : decode cX12_inOrder 28 = .ok (.lreturn, 1) := by decide +kernel
theorem dX12_compared_0 : decode cX12_compared 0 = .ok (.iload 4, 2) := by decide +kernel
theorem dX12_compared_2 : decode cX12_compared 2 = .ok (.ifCond .le 53, 3) := by decide +kernel
theorem dX12_compared_5 : decode cX12_compared 5 = .ok (.lload_n 0, 1) := by decide +kernel
theorem dX12_compared_6 : decode cX12_compared 6 = .ok (.iload 4, 2) := by decide +kernel
theorem dX12_compared_8 : decode cX12_compared 8 = .ok (.iconst 2, 1) := by decide +kernel
theorem dX12_compared_9 : decode cX12_compared 9 = .ok (.if_icmp .le 7, 3) := by decide +kernel
theorem dX12_compared_12 : decode cX12_compared 12 = .ok (.iconst 1, 1) := by decide +kernel
theorem dX12_compared_13 : decode cX12_compared 13 = .ok (.goto 4, 3) := by decide +kernel
theorem dX12_compared_16 : decode cX12_compared 16 = .ok (.iconst 0, 1) := by decide +kernel
theorem dX12_compared_17 : decode cX12_compared 17 = .ok (.invokestatic 401, 3) := by decide +kernel
theorem dX12_compared_20 : decode cX12_compared 20 = .ok (.ifCond .ne 21, 3) := by decide +kernel
theorem dX12_compared_23 : decode cX12_compared 23 = .ok (.lload_n 2, 1) := by decide +kernel
theorem dX12_compared_24 : decode cX12_compared 24 = .ok (.iload 4, 2) := by decide +kernel
theorem dX12_compared_26 : decode cX12_compared 26 = .ok (.iconst 2, 1) := by decide +kernel
theorem dX12_compared_27 : decode cX12_compared 27 = .ok (.if_icmp .le 7, 3) := by decide +kernel
theorem dX12_compared_30 : decode cX12_compared 30 = .ok (.iconst 1, 1) := by decide +kernel
theorem dX12_compared_31 : decode cX12_compared 31 = .ok (.goto 4, 3) := by decide +kernel
theorem dX12_compared_34 : decode cX12_compared 34 = .ok (.iconst 0, 1) := by decide +kernel
theorem dX12_compared_35 : decode cX12_compared 35 = .ok (.invokestatic 401, 3) := by decide +kernel
theorem dX12_compared_38 : decode cX12_compared 38 = .ok (.ifCond .eq 17, 3) := by decide +kernel
theorem dX12_compared_41 : decode cX12_compared 41 = .ok (.iload 4, 2) := by decide +kernel
theorem dX12_compared_43 : decode cX12_compared 43 = .ok (.iconst 2, 1) := by decide +kernel
theorem dX12_compared_44 : decode cX12_compared 44 = .ok (.irem, 1) := by decide +kernel
theorem dX12_compared_45 : decode cX12_compared 45 = .ok (.iconst 1, 1) := by decide +kernel
theorem dX12_compared_46 : decode cX12_compared 46 = .ok (.if_icmp .ne 7, 3) := by decide +kernel
theorem dX12_compared_49 : decode cX12_compared 49 = .ok (.iconst (-1), 1) := by decide +kernel
theorem dX12_compared_50 : decode cX12_compared 50 = .ok (.goto 4, 3) := by decide +kernel
theorem dX12_compared_53 : decode cX12_compared 53 = .ok (.iconst 1, 1) := by decide +kernel
theorem dX12_compared_54 : decode cX12_compared 54 = .ok (.ireturn, 1) := by decide +kernel
theorem dX12_compared_55 : decode cX12_compared 55 = .ok (.iload 4, 2) := by decide +kernel
theorem dX12_compared_57 : decode cX12_compared 57 = .ok (.ifCond .ne 7, 3) := by decide +kernel
theorem dX12_compared_60 : decode cX12_compared 60 = .ok (.lload_n 0, 1) := by decide +kernel
theorem dX12_compared_61 : decode cX12_compared 61 = .ok (.goto 18, 3) := by decide +kernel
theorem dX12_compared_64 : decode cX12_compared 64 = .ok (.lload_n 0, 1) := by decide +kernel
theorem dX12_compared_65 : decode cX12_compared 65 = .ok (.iload 4, 2) := by decide +kernel
theorem dX12_compared_67 : decode cX12_compared 67 = .ok (.iconst 2, 1) := by decide +kernel
theorem dX12_compared_68 : decode cX12_compared 68 = .ok (.if_icmp .le 7, 3) := by decide +kernel
theorem dX12_compared_71 : decode cX12_compared 71 = .ok (.iconst 1, 1) := by decide +kernel
theorem dX12_compared_72 : decode cX12_compared 72 = .ok (.goto 4, 3) := by decide +kernel
theorem dX12_compared_75 : decode cX12_compared 75 = .ok (.iconst 0, 1) := by decide +kernel
theorem dX12_compared_76 : decode cX12_compared 76 = .ok (.invokestatic 405, 3) := by decide +kernel
theorem dX12_compared_79 : decode cX12_compared 79 = .ok (.lstore 5, 2) := by decide +kernel
theorem dX12_compared_81 : decode cX12_compared 81 = .ok (.iload 4, 2) := by decide +kernel
theorem dX12_compared_83 : decode cX12_compared 83 = .ok (.ifCond .ne 7, 3) := by decide +kernel
theorem dX12_compared_86 : decode cX12_compared 86 = .ok (.lload_n 2, 1) := by decide +kernel
theorem dX12_compared_87 : decode cX12_compared 87 = .ok (.goto 18, 3) := by decide +kernel
theorem dX12_compared_90 : decode cX12_compared 90 = .ok (.lload_n 2, 1) := by decide +kernel
theorem dX12_compared_91 : decode cX12_compared 91 = .ok (.iload 4, 2) := by decide +kernel
theorem dX12_compared_93 : decode cX12_compared 93 = .ok (.iconst 2, 1) := by decide +kernel
theorem dX12_compared_94 : decode cX12_compared 94 = .ok (.if_icmp .le 7, 3) := by decide +kernel
theorem dX12_compared_97 : decode cX12_compared 97 = .ok (.iconst 1, 1) := by decide +kernel
theorem dX12_compared_98 : decode cX12_compared 98 = .ok (.goto 4, 3) := by decide +kernel
theorem dX12_compared_101 : decode cX12_compared 101 = .ok (.iconst 0, 1) := by decide +kernel
theorem dX12_compared_102 : decode cX12_compared 102 = .ok (.invokestatic 405, 3) := by decide +kernel
theorem dX12_compared_105 : decode cX12_compared 105 = .ok (.lstore 7, 2) := by decide +kernel
theorem dX12_compared_107 : decode cX12_compared 107 = .ok (.lload 5, 2) := by decide +kernel
theorem dX12_compared_109 : decode cX12_compared 109 = .ok (.lload 7, 2) := by decide +kernel
theorem dX12_compared_111 : decode cX12_compared 111 = .ok (.lcmp, 1) := by decide +kernel
theorem dX12_compared_112 : decode cX12_compared 112 = .ok (.ifCond .ge 7, 3) := by decide +kernel
theorem dX12_compared_115 : decode cX12_compared 115 = .ok (.iconst (-1), 1) := by decide +kernel
theorem dX12_compared_116 : decode cX12_compared 116 = .ok (.goto 16, 3) := by decide +kernel
theorem dX12_compared_119 : decode cX12_compared 119 = .ok (.lload 5, 2) := by decide +kernel
theorem dX12_compared_121 : decode cX12_compared 121 = .ok (.lload 7, 2) := by decide +kernel
theorem dX12_compared_123 : decode cX12_compared 123 = .ok (.lcmp, 1) := by decide +kernel
theorem dX12_compared_124 : decode cX12_compared 124 = .ok (.ifCond .le 7, 3) := by decide +kernel
theorem dX12_compared_127 : decode cX12_compared 127 = .ok (.iconst 1, 1) := by decide +kernel
theorem dX12_compared_128 : decode cX12_compared 128 = .ok (.goto 4, 3) := by decide +kernel
theorem dX12_compared_131 : decode cX12_compared 131 = .ok (.iconst 0, 1) := by decide +kernel
theorem dX12_compared_132 : decode cX12_compared 132 = .ok (.ireturn, 1) := by decide +kernel
theorem dX12_number3_0 : decode cX12_number3 0 = .ok (.iload_n 2, 1) := by decide +kernel
theorem dX12_number3_1 : decode cX12_number3 1 = .ok (.bipush 17, 2) := by decide +kernel
theorem dX12_number3_3 : decode cX12_number3 3 = .ok (.if_icmp .ne 100, 3) := by decide +kernel
theorem dX12_number3_6 : decode cX12_number3 6 = .ok (.iload_n 3, 1) := by decide +kernel
theorem dX12_number3_7 : decode cX12_number3 7 = .ok (.bipush 11, 2) := by decide +kernel
theorem dX12_number3_9 : decode cX12_number3 9 = .ok (.if_icmp .ne 7, 3) := by decide +kernel
theorem dX12_number3_12 : decode cX12_number3 12 = .ok (.lconst 0, 1) := by decide +kernel
theorem dX12_number3_13 : decode cX12_number3 13 = .ok (.goto 20, 3) := by decide +kernel
theorem dX12_number3_16 : decode cX12_number3 16 = .ok (.aload_n 0, 1) := by decide +kernel
theorem dX12_number3_17 : decode cX12_number3 17 = .ok (.iload_n 1, 1) := by decide +kernel
theorem dX12_number3_18 : decode cX12_number3 18 = .ok (.iload_n 3, 1) := by decide +kernel
theorem dX12_number3_19 : decode cX12_number3 19 = .ok (.bipush 8, 2) := by decide +kernel
theorem dX12_number3_21 : decode cX12_number3 21 = .ok (.if_icmp .ge 8, 3) := by decide +kernel
theorem dX12_number3_24 : decode cX12_number3 24 = .ok (.iload 4, 2) := by decide +kernel
theorem dX12_number3_26 : decode cX12_number3 26 = .ok (.goto 4, 3) := by decide +kernel
theorem dX12_number3_29 : decode cX12_number3 29 = .ok (.iconst 0, 1) := by decide +kernel
theorem dX12_number3_30 : decode cX12_number3 30 = .ok (.invokevirtual 280, 3) := by decide +kernel
theorem dX12_number3_33 : decode cX12_number3 33 = .ok (.lstore 5, 2) := by decide +kernel
theorem dX12_number3_35 : decode cX12_number3 35 = .ok (.aload_n 0, 1) := by decide +kernel
theorem dX12_number3_36 : decode cX12_number3 36 = .ok (.iload_n 1, 1) := by decide +kernel
theorem dX12_number3_37 : decode cX12_number3 37 = .ok (.iload 4, 2) := by decide +kernel
theorem dX12_number3_39 : decode cX12_number3 39 = .ok (.invokevirtual 280, 3) := by decide +kernel
theorem dX12_number3_42 : decode cX12_number3 42 = .ok (.lstore 7, 2) := by decide +kernel
theorem dX12_number3_44 : decode cX12_number3 44 = .ok (.iload_n 3, 1) := by decide +kernel
theorem dX12_number3_45 : decode cX12_number3 45 = .ok (.iconst 3, 1) := by decide +kernel
theorem dX12_number3_46 : decode cX12_number3 46 = .ok (.if_icmp .eq 8, 3) := by decide +kernel
theorem dX12_number3_49 : decode cX12_number3 49 = .ok (.iload_n 3, 1) := by decide +kernel
theorem dX12_number3_50 : decode cX12_number3 50 = .ok (.iconst 4, 1) := by decide +kernel
theorem dX12_number3_51 : decode cX12_number3 51 = .ok (.if_icmp .ne 16, 3) := by decide +kernel
theorem dX12_number3_54 : decode cX12_number3 54 = .ok (.lload 5, 2) := by decide +kernel
theorem dX12_number3_56 : decode cX12_number3 56 = .ok (.lconst 0, 1) := by decide +kernel
theorem dX12_number3_57 : decode cX12_number3 57 = .ok (.lcmp, 1) := by decide +kernel
theorem dX12_number3_58 : decode cX12_number3 58 = .ok (.ifCond .ne 9, 3) := by decide +kernel
theorem dX12_number3_61 : decode cX12_number3 61 = .ok (.aload_n 0, 1) := by decide +kernel
theorem dX12_number3_62 : decode cX12_number3 62 = .ok (.iconst 0, 1) := by decide +kernel
theorem dX12_number3_63 : decode cX12_number3 63 = .ok (.invokevirtual 373, 3) := by decide +kernel
theorem dX12_number3_66 : decode cX12_number3 66 = .ok (.return_, 1) := by decide +kernel
theorem dX12_number3_67 : decode cX12_number3 67 = .ok (.lload 7, 2) := by decide +kernel
theorem dX12_number3_69 : decode cX12_number3 69 = .ok (.lload 5, 2) := by decide +kernel
theorem dX12_number3_71 : decode cX12_number3 71 = .ok (.iload_n 3, 1) := by decide +kernel
theorem dX12_number3_72 : decode cX12_number3 72 = .ok (.iload 4, 2) := by decide +kernel
theorem dX12_number3_74 : decode cX12_number3 74 = .ok (.invokestatic 376, 3) := by decide +kernel
theorem dX12_number3_77 : decode cX12_number3 77 = .ok (.lstore 9, 2) := by decide +kernel
theorem dX12_number3_79 : decode cX12_number3 79 = .ok (.aload_n 0, 1) := by decide +kernel
theorem dX12_number3_80 : decode cX12_number3 80 = .ok (.iload_n 1, 1) := by decide +kernel
theorem dX12_number3_81 : decode cX12_number3 81 = .ok (.iload 4, 2) := by decide +kernel
theorem dX12_number3_83 : decode cX12_number3 83 = .ok (.iload 4, 2) := by decide +kernel
theorem dX12_number3_85 : decode cX12_number3 85 = .ok (.ifCond .ne 10, 3) := by decide +kernel
theorem dX12_number3_88 : decode cX12_number3 88 = .ok (.lload 9, 2) := by decide +kernel
theorem dX12_number3_90 : decode cX12_number3 90 = .ok (.l2i, 1) := by decide +kernel
theorem dX12_number3_91 : decode cX12_number3 91 = .ok (.i2l, 1) := by decide +kernel
theorem dX12_number3_92 : decode cX12_number3 92 = .ok (.goto 5, 3) := by decide +kernel
theorem dX12_number3_95 : decode cX12_number3 95 = .ok (.lload 9, 2) := by decide +kernel
theorem dX12_number3_97 : decode cX12_number3 97 = .ok (.invokevirtual 346, 3) := by decide +kernel
theorem dX12_number3_100 : decode cX12_number3 100 = .ok (.goto 125, 3) := by decide +kernel
theorem dX12_number3_103 : decode cX12_number3 103 = .ok (.iload_n 2, 1) := by decide +kernel
theorem dX12_number3_104 : decode cX12_number3 104 = .ok (.bipush 18, 2) := by decide +kernel
theorem dX12_number3_106 : decode cX12_number3 106 = .ok (.if_icmp .ne 66, 3) := by decide +kernel
theorem dX12_number3_109 : decode cX12_number3 109 = .ok (.aload_n 0, 1) := by decide +kernel
theorem dX12_number3_110 : decode cX12_number3 110 = .ok (.iload_n 1, 1) := by decide +kernel
theorem dX12_number3_111 : decode cX12_number3 111 = .ok (.iload_n 3, 1) := by decide +kernel
theorem dX12_number3_112 : decode cX12_number3 112 = .ok (.iconst 3, 1) := by decide +kernel
theorem dX12_number3_113 : decode cX12_number3 113 = .ok (.if_icmp .ne 7, 3) := by decide +kernel
theorem dX12_number3_116 : decode cX12_number3 116 = .ok (.iconst 1, 1) := by decide +kernel
theorem dX12_number3_117 : decode cX12_number3 117 = .ok (.goto 4, 3) := by decide +kernel
theorem dX12_number3_120 : decode cX12_number3 120 = .ok (.iconst 0, 1) := by decide +kernel
theorem dX12_number3_121 : decode cX12_number3 121 = .ok (.invokevirtual 280, 3) := by decide +kernel
theorem dX12_number3_124 : decode cX12_number3 124 = .ok (.lstore 5, 2) := by decide +kernel
theorem dX12_number3_126 : decode cX12_number3 126 = .ok (.aload_n 0, 1) := by decide +kernel
theorem dX12_number3_127 : decode cX12_number3 127 = .ok (.iload_n 1, 1) := by decide +kernel
theorem dX12_number3_128 : decode cX12_number3 128 = .ok (.iload_n 3, 1) := by decide +kernel
theorem dX12_number3_129 : decode cX12_number3 129 = .ok (.iconst 4, 1) := by decide +kernel
theorem dX12_number3_130 : decode cX12_number3 130 = .ok (.if_icmp .ne 7, 3) := by decide +kernel
theorem dX12_number3_133 : decode cX12_number3 133 = .ok (.iconst 1, 1) := by decide +kernel
theorem dX12_number3_134 : decode cX12_number3 134 = .ok (.goto 4, 3) := by decide +kernel
theorem dX12_number3_137 : decode cX12_number3 137 = .ok (.iconst 0, 1) := by decide +kernel
theorem dX12_number3_138 : decode cX12_number3 138 = .ok (.iload_n 3, 1) := by decide +kernel
theorem dX12_number3_139 : decode cX12_number3 139 = .ok (.iconst 4, 1) := by decide +kernel
theorem dX12_number3_140 : decode cX12_number3 140 = .ok (.if_icmp .ne 8, 3) := by decide +kernel
theorem dX12_number3_143 : decode cX12_number3 143 = .ok (.lload 5, 2) := by decide +kernel
theorem dX12_number3_145 : decode cX12_number3 145 = .ok (.goto 21, 3) := by decide +kernel
theorem dX12_number3_148 : decode cX12_number3 148 = .ok (.iload_n 3, 1) := by decide +kernel
theorem dX12_number3_149 : decode cX12_number3 149 = .ok (.iconst 3, 1) := by decide +kernel
theorem dX12_number3_150 : decode cX12_number3 150 = .ok (.if_icmp .ne 10, 3) := by decide +kernel
theorem dX12_number3_153 : decode cX12_number3 153 = .ok (.lload 5, 2) := by decide +kernel
theorem dX12_number3_155 : decode cX12_number3 155 = .ok (.l2i, 1) := by decide +kernel
theorem dX12_number3_156 : decode cX12_number3 156 = .ok (.i2l, 1) := by decide +kernel
theorem dX12_number3_157 : decode cX12_number3 157 = .ok (.goto 9, 3) := by decide +kernel
theorem dX12_number3_160 : decode cX12_number3 160 = .ok (.lload 5, 2) := by decide +kernel
theorem dX12_number3_162 : decode cX12_number3 162 = .ok (.iload_n 3, 1) := by decide +kernel
theorem dX12_number3_163 : decode cX12_number3 163 = .ok (.invokestatic 380, 3) := by decide +kernel
theorem dX12_number3_166 : decode cX12_number3 166 = .ok (.invokevirtual 346, 3) := by decide +kernel
theorem dX12_number3_169 : decode cX12_number3 169 = .ok (.goto 56, 3) := by decide +kernel
theorem dX12_number3_172 : decode cX12_number3 172 = .ok (.iload_n 3, 1) := by decide +kernel
theorem dX12_number3_173 : decode cX12_number3 173 = .ok (.ifCond .ne 7, 3) := by decide +kernel
theorem dX12_number3_176 : decode cX12_number3 176 = .ok (.iconst 1, 1) := by decide +kernel
theorem dX12_number3_177 : decode cX12_number3 177 = .ok (.goto 13, 3) := by decide +kernel
theorem dX12_number3_180 : decode cX12_number3 180 = .ok (.iload_n 3, 1) := by decide +kernel
theorem dX12_number3_181 : decode cX12_number3 181 = .ok (.iconst 3, 1) := by decide +kernel
theorem dX12_number3_182 : decode cX12_number3 182 = .ok (.if_icmp .ge 7, 3) := by decide +kernel
theorem dX12_number3_185 : decode cX12_number3 185 = .ok (.iconst 2, 1) := by decide +kernel
theorem dX12_number3_186 : decode cX12_number3 186 = .ok (.goto 4, 3) := by decide +kernel
theorem dX12_number3_189 : decode cX12_number3 189 = .ok (.iconst 3, 1) := by decide +kernel
theorem dX12_number3_190 : decode cX12_number3 190 = .ok (.istore 5, 2) := by decide +kernel
theorem dX12_number3_192 : decode cX12_number3 192 = .ok (.aload_n 0, 1) := by decide +kernel
theorem dX12_number3_193 : decode cX12_number3 193 = .ok (.iload_n 1, 1) := by decide +kernel
theorem dX12_number3_194 : decode cX12_number3 194 = .ok (.iload 5, 2) := by decide +kernel
theorem dX12_number3_196 : decode cX12_number3 196 = .ok (.invokevirtual 280, 3) := by decide +kernel
theorem dX12_number3_199 : decode cX12_number3 199 = .ok (.lstore 6, 2) := by decide +kernel
theorem dX12_number3_201 : decode cX12_number3 201 = .ok (.aload_n 0, 1) := by decide +kernel
theorem dX12_number3_202 : decode cX12_number3 202 = .ok (.iload_n 1, 1) := by decide +kernel
theorem dX12_number3_203 : decode cX12_number3 203 = .ok (.iload 5, 2) := by decide +kernel
theorem dX12_number3_205 : decode cX12_number3 205 = .ok (.invokevirtual 280, 3) := by decide +kernel
theorem dX12_number3_208 : decode cX12_number3 208 = .ok (.lstore 8, 2) := by decide +kernel
theorem dX12_number3_210 : decode cX12_number3 210 = .ok (.aload_n 0, 1) := by decide +kernel
theorem dX12_number3_211 : decode cX12_number3 211 = .ok (.iload_n 1, 1) := by decide +kernel
theorem dX12_number3_212 : decode cX12_number3 212 = .ok (.iconst 0, 1) := by decide +kernel
theorem dX12_number3_213 : decode cX12_number3 213 = .ok (.lload 8, 2) := by decide +kernel
theorem dX12_number3_215 : decode cX12_number3 215 = .ok (.lload 6, 2) := by decide +kernel
theorem dX12_number3_217 : decode cX12_number3 217 = .ok (.iload_n 3, 1) := by decide +kernel
theorem dX12_number3_218 : decode cX12_number3 218 = .ok (.invokestatic 384, 3) := by decide +kernel
theorem dX12_number3_221 : decode cX12_number3 221 = .ok (.i2l, 1) := by decide +kernel
theorem dX12_number3_222 : decode cX12_number3 222 = .ok (.invokevirtual 346, 3) := by decide +kernel
theorem dX12_number3_225 : decode cX12_number3 225 = .ok (.return_, 1) := by decide +kernel
theorem dX12_takeInt_0 : decode cX12_takeInt 0 = .ok (.aload_n 0, 1) := by decide +kernel
theorem dX12_takeInt_1 : decode cX12_takeInt 1 = .ok (.iload_n 1, 1) := by decide +kernel
theorem dX12_takeInt_2 : decode cX12_takeInt 2 = .ok (.iconst 0, 1) := by decide +kernel
theorem dX12_takeInt_3 : decode cX12_takeInt 3 = .ok (.invokevirtual 280, 3) := by decide +kernel
theorem dX12_takeInt_6 : decode cX12_takeInt 6 = .ok (.l2i, 1) := by decide +kernel
theorem dX12_takeInt_7 : decode cX12_takeInt 7 = .ok (.ireturn, 1) := by decide +kernel
theorem dX12_leads_0 : decode cX12_leads 0 = .ok (.aload_n 0, 1) := by decide +kernel
theorem dX12_leads_1 : decode cX12_leads 1 = .ok (.iload_n 3, 1) := by decide +kernel
theorem dX12_leads_2 : decode cX12_leads 2 = .ok (.putfield 363, 3) := by decide +kernel
theorem dX12_leads_5 : decode cX12_leads 5 = .ok (.iload_n 2, 1) := by decide +kernel
theorem dX12_leads_6 : decode cX12_leads 6 = .ok (.bipush 20, 2) := by decide +kernel
theorem dX12_leads_8 : decode cX12_leads 8 = .ok (.if_icmp .ne 5, 3) := by decide +kernel
theorem dX12_leads_11 : decode cX12_leads 11 = .ok (.iconst 1, 1) := by decide +kernel
theorem dX12_leads_12 : decode cX12_leads 12 = .ok (.ireturn, 1) := by decide +kernel
theorem dX12_leads_13 : decode cX12_leads 13 = .ok (.iload_n 2, 1) := by decide +kernel
theorem dX12_leads_14 : decode cX12_leads 14 = .ok (.bipush 22, 2) := by decide +kernel
theorem dX12_leads_16 : decode cX12_leads 16 = .ok (.if_icmp .ne 40, 3) := by decide +kernel
theorem dX12_leads_19 : decode cX12_leads 19 = .ok (.aload_n 0, 1) := by decide +kernel
theorem dX12_leads_20 : decode cX12_leads 20 = .ok (.iload_n 1, 1) := by decide +kernel
theorem dX12_leads_21 : decode cX12_leads 21 = .ok (.iconst 4, 1) := by decide +kernel
theorem dX12_leads_22 : decode cX12_leads 22 = .ok (.invokevirtual 280, 3) := by decide +kernel
theorem dX12_leads_25 : decode cX12_leads 25 = .ok (.ldc2_w 180, 3) := by decide +kernel
theorem dX12_leads_28 : decode cX12_leads 28 = .ok (.lcmp, 1) := by decide +kernel
theorem dX12_leads_29 : decode cX12_leads 29 = .ok (.ifCond .ne 7, 3) := by decide +kernel
theorem dX12_leads_32 : decode cX12_leads 32 = .ok (.iconst 1, 1) := by decide +kernel
theorem dX12_leads_33 : decode cX12_leads 33 = .ok (.goto 4, 3) := by decide +kernel
theorem dX12_leads_36 : decode cX12_leads 36 = .ok (.iconst 0, 1) := by decide +kernel
theorem dX12_leads_37 : decode cX12_leads 37 = .ok (.iload 4, 2) := by decide +kernel
theorem dX12_leads_39 : decode cX12_leads 39 = .ok (.ifCond .ne 7, 3) := by decide +kernel
theorem dX12_leads_42 : decode cX12_leads 42 = .ok (.iconst 1, 1) := by decide +kernel
theorem dX12_leads_43 : decode cX12_leads 43 = .ok (.goto 4, 3) := by decide +kernel
theorem dX12_leads_46 : decode cX12_leads 46 = .ok (.iconst 0, 1) := by decide +kernel
theorem dX12_leads_47 : decode cX12_leads 47 = .ok (.if_icmp .ne 7, 3) := by decide +kernel
theorem dX12_leads_50 : decode cX12_leads 50 = .ok (.iconst 1, 1) := by decide +kernel
theorem dX12_leads_51 : decode cX12_leads 51 = .ok (.goto 4, 3) := by decide +kernel
theorem dX12_leads_54 : decode cX12_leads 54 = .ok (.iconst 0, 1) := by decide +kernel
theorem dX12_leads_55 : decode cX12_leads 55 = .ok (.ireturn, 1) := by decide +kernel
theorem dX12_leads_56 : decode cX12_leads 56 = .ok (.aload_n 0, 1) := by decide +kernel
theorem dX12_leads_57 : decode cX12_leads 57 = .ok (.iload_n 1, 1) := by decide +kernel
theorem dX12_leads_58 : decode cX12_leads 58 = .ok (.invokevirtual 409, 3) := by decide +kernel
theorem dX12_leads_61 : decode cX12_leads 61 = .ok (.istore 5, 2) := by decide +kernel
theorem dX12_leads_63 : decode cX12_leads 63 = .ok (.iload_n 2, 1) := by decide +kernel
theorem dX12_leads_64 : decode cX12_leads 64 = .ok (.bipush 21, 2) := by decide +kernel
theorem dX12_leads_66 : decode cX12_leads 66 = .ok (.if_icmp .ne 108, 3) := by decide +kernel
theorem dX12_leads_69 : decode cX12_leads 69 = .ok (.iload 4, 2) := by decide +kernel
theorem dX12_leads_71 : decode cX12_leads 71 = .ok (.ifCond .ne 16, 3) := by decide +kernel
theorem dX12_leads_74 : decode cX12_leads 74 = .ok (.iload 5, 2) := by decide +kernel
theorem dX12_leads_76 : decode cX12_leads 76 = .ok (.ifCond .ne 7, 3) := by decide +kernel
theorem dX12_leads_79 : decode cX12_leads 79 = .ok (.iconst 1, 1) := by decide +kernel
theorem dX12_leads_80 : decode cX12_leads 80 = .ok (.goto 93, 3) := by decide +kernel
theorem dX12_leads_83 : decode cX12_leads 83 = .ok (.iconst 0, 1) := by decide +kernel
theorem dX12_leads_84 : decode cX12_leads 84 = .ok (.goto 89, 3) := by decide +kernel
theorem dX12_leads_87 : decode cX12_leads 87 = .ok (.iload 4, 2) := by decide +kernel
theorem dX12_leads_89 : decode cX12_leads 89 = .ok (.iconst 1, 1) := by decide +kernel
theorem dX12_leads_90 : decode cX12_leads 90 = .ok (.if_icmp .ne 16, 3) := by decide +kernel
theorem dX12_leads_93 : decode cX12_leads 93 = .ok (.iload 5, 2) := by decide +kernel
theorem dX12_leads_95 : decode cX12_leads 95 = .ok (.ifCond .eq 7, 3) := by decide +kernel
theorem dX12_leads_98 : decode cX12_leads 98 = .ok (.iconst 1, 1) := by decide +kernel
theorem dX12_leads_99 : decode cX12_leads 99 = .ok (.goto 74, 3) := by decide +kernel
theorem dX12_leads_102 : decode cX12_leads 102 = .ok (.iconst 0, 1) := by decide +kernel
theorem dX12_leads_103 : decode cX12_leads 103 = .ok (.goto 70, 3) := by decide +kernel
theorem dX12_leads_106 : decode cX12_leads 106 = .ok (.iload 4, 2) := by decide +kernel
theorem dX12_leads_108 : decode cX12_leads 108 = .ok (.iconst 2, 1) := by decide +kernel
theorem dX12_leads_109 : decode cX12_leads 109 = .ok (.if_icmp .ne 16, 3) := by decide +kernel
theorem dX12_leads_112 : decode cX12_leads 112 = .ok (.iload 5, 2) := by decide +kernel
theorem dX12_leads_114 : decode cX12_leads 114 = .ok (.ifCond .ge 7, 3) := by decide +kernel
theorem dX12_leads_117 : decode cX12_leads 117 = .ok (.iconst 1, 1) := by decide +kernel
theorem dX12_leads_118 : decode cX12_leads 118 = .ok (.goto 55, 3) := by decide +kernel
theorem dX12_leads_121 : decode cX12_leads 121 = .ok (.iconst 0, 1) := by decide +kernel
theorem dX12_leads_122 : decode cX12_leads 122 = .ok (.goto 51, 3) := by decide +kernel
theorem dX12_leads_125 : decode cX12_leads 125 = .ok (.iload 4, 2) := by decide +kernel
theorem dX12_leads_127 : decode cX12_leads 127 = .ok (.iconst 3, 1) := by decide +kernel
theorem dX12_leads_128 : decode cX12_leads 128 = .ok (.if_icmp .ne 16, 3) := by decide +kernel
theorem dX12_leads_131 : decode cX12_leads 131 = .ok (.iload 5, 2) := by decide +kernel
theorem dX12_leads_133 : decode cX12_leads 133 = .ok (.ifCond .lt 7, 3) := by decide +kernel
theorem dX12_leads_136 : decode cX12_leads 136 = .ok (.iconst 1, 1) := by decide +kernel
theorem dX12_leads_137 : decode cX12_leads 137 = .ok (.goto 36, 3) := by decide +kernel
theorem dX12_leads_140 : decode cX12_leads 140 = .ok (.iconst 0, 1) := by decide +kernel
theorem dX12_leads_141 : decode cX12_leads 141 = .ok (.goto 32, 3) := by decide +kernel
theorem dX12_leads_144 : decode cX12_leads 144 = .ok (.iload 4, 2) := by decide +kernel
theorem dX12_leads_146 : decode cX12_leads 146 = .ok (.iconst 4, 1) := by decide +kernel
theorem dX12_leads_147 : decode cX12_leads 147 = .ok (.if_icmp .ne 16, 3) := by decide +kernel
theorem dX12_leads_150 : decode cX12_leads 150 = .ok (.iload 5, 2) := by decide +kernel
theorem dX12_leads_152 : decode cX12_leads 152 = .ok (.ifCond .le 7, 3) := by decide +kernel
theorem dX12_leads_155 : decode cX12_leads 155 = .ok (.iconst 1, 1) := by decide +kernel
theorem dX12_leads_156 : decode cX12_leads 156 = .ok (.goto 17, 3) := by decide +kernel
theorem dX12_leads_159 : decode cX12_leads 159 = .ok (.iconst 0, 1) := by decide +kernel
theorem dX12_leads_160 : decode cX12_leads 160 = .ok (.goto 13, 3) := by decide +kernel
theorem dX12_leads_163 : decode cX12_leads 163 = .ok (.iload 5, 2) := by decide +kernel
theorem dX12_leads_165 : decode cX12_leads 165 = .ok (.ifCond .gt 7, 3) := by decide +kernel
theorem dX12_leads_168 : decode cX12_leads 168 = .ok (.iconst 1, 1) := by decide +kernel
theorem dX12_leads_169 : decode cX12_leads 169 = .ok (.goto 4, 3) := by decide +kernel
theorem dX12_leads_172 : decode cX12_leads 172 = .ok (.iconst 0, 1) := by decide +kernel
theorem dX12_leads_173 : decode cX12_leads 173 = .ok (.ireturn, 1) := by decide +kernel
theorem dX12_leads_174 : decode cX12_leads 174 = .ok (.aload_n 0, 1) := by decide +kernel
theorem dX12_leads_175 : decode cX12_leads 175 = .ok (.aload_n 0, 1) := by decide +kernel
theorem dX12_leads_176 : decode cX12_leads 176 = .ok (.getfield 63, 3) := by decide +kernel
theorem dX12_leads_179 : decode cX12_leads 179 = .ok (.iload_n 3, 1) := by decide +kernel
theorem dX12_leads_180 : decode cX12_leads 180 = .ok (.iaload, 1) := by decide +kernel
theorem dX12_leads_181 : decode cX12_leads 181 = .ok (.putfield 363, 3) := by decide +kernel
theorem dX12_leads_184 : decode cX12_leads 184 = .ok (.iconst 0, 1) := by decide +kernel
theorem dX12_leads_185 : decode cX12_leads 185 = .ok (.istore 6, 2) := by decide +kernel
theorem dX12_leads_187 : decode cX12_leads 187 = .ok (.iload 6, 2) := by decide +kernel
theorem dX12_leads_189 : decode cX12_leads 189 = .ok (.aload_n 0, 1) := by decide +kernel
theorem dX12_leads_190 : decode cX12_leads 190 = .ok (.getfield 66, 3) := by decide +kernel
theorem dX12_leads_193 : decode cX12_leads 193 = .ok (.iload_n 3, 1) := by decide +kernel
theorem dX12_leads_194 : decode cX12_leads 194 = .ok (.iaload, 1) := by decide +kernel
theorem dX12_leads_195 : decode cX12_leads 195 = .ok (.if_icmp .ge 49, 3) := by decide +kernel
theorem dX12_leads_198 : decode cX12_leads 198 = .ok (.aload_n 0, 1) := by decide +kernel
theorem dX12_leads_199 : decode cX12_leads 199 = .ok (.aload_n 0, 1) := by decide +kernel
theorem dX12_leads_200 : decode cX12_leads 200 = .ok (.getfield 69, 3) := by decide +kernel
theorem dX12_leads_203 : decode cX12_leads 203 = .ok (.bipush 8, 2) := by decide +kernel
theorem dX12_leads_205 : decode cX12_leads 205 = .ok (.iload_n 3, 1) := by decide +kernel
theorem dX12_leads_206 : decode cX12_leads 206 = .ok (.imul, 1) := by decide +kernel
theorem dX12_leads_207 : decode cX12_leads 207 = .ok (.iload 6, 2) := by decide +kernel
theorem dX12_leads_209 : decode cX12_leads 209 = .ok (.iadd, 1) := by decide +kernel
theorem dX12_leads_210 : decode cX12_leads 210 = .ok (.iaload, 1) := by decide +kernel
theorem dX12_leads_211 : decode cX12_leads 211 = .ok (.iload 5, 2) := by decide +kernel
theorem dX12_leads_213 : decode cX12_leads 213 = .ok (.if_icmp .ne 18, 3) := by decide +kernel
theorem dX12_leads_216 : decode cX12_leads 216 = .ok (.aload_n 0, 1) := by decide +kernel
theorem dX12_leads_217 : decode cX12_leads 217 = .ok (.getfield 72, 3) := by decide +kernel
theorem dX12_leads_220 : decode cX12_leads 220 = .ok (.bipush 8, 2) := by decide +kernel
theorem dX12_leads_222 : decode cX12_leads 222 = .ok (.iload_n 3, 1) := by decide +kernel
theorem dX12_leads_223 : decode cX12_leads 223 = .ok (.imul, 1) := by decide +kernel
theorem dX12_leads_224 : decode cX12_leads 224 = .ok (.iload 6, 2) := by decide +kernel
theorem dX12_leads_226 : decode cX12_leads 226 = .ok (.iadd, 1) := by decide +kernel
theorem dX12_leads_227 : decode cX12_leads 227 = .ok (.iaload, 1) := by decide +kernel
theorem dX12_leads_228 : decode cX12_leads 228 = .ok (.goto 7, 3) := by decide +kernel
theorem dX12_leads_231 : decode cX12_leads 231 = .ok (.aload_n 0, 1) := by decide +kernel
theorem dX12_leads_232 : decode cX12_leads 232 = .ok (.getfield 363, 3) := by decide +kernel
theorem dX12_leads_235 : decode cX12_leads 235 = .ok (.putfield 363, 3) := by decide +kernel
theorem dX12_leads_238 : decode cX12_leads 238 = .ok (.iinc 6 1, 3) := by decide +kernel
theorem dX12_leads_241 : decode cX12_leads 241 = .ok (.goto (-54), 3) := by decide +kernel
theorem dX12_leads_244 : decode cX12_leads 244 = .ok (.iconst 1, 1) := by decide +kernel
theorem dX12_leads_245 : decode cX12_leads 245 = .ok (.ireturn, 1) := by decide +kernel
theorem dX12_newThing_0 : decode cX12_newThing 0 = .ok (.aload_n 0, 1) := by decide +kernel
theorem dX12_newThing_1 : decode cX12_newThing 1 = .ok (.getfield 115, 3) := by decide +kernel
theorem dX12_newThing_4 : decode cX12_newThing 4 = .ok (.aload_n 0, 1) := by decide +kernel
theorem dX12_newThing_5 : decode cX12_newThing 5 = .ok (.getfield 296, 3) := by decide +kernel
theorem dX12_newThing_8 : decode cX12_newThing 8 = .ok (.iload_n 1, 1) := by decide +kernel
theorem dX12_newThing_9 : decode cX12_newThing 9 = .ok (.iastore, 1) := by decide +kernel
theorem dX12_newThing_10 : decode cX12_newThing 10 = .ok (.aload_n 0, 1) := by decide +kernel
theorem dX12_newThing_11 : decode cX12_newThing 11 = .ok (.getfield 118, 3) := by decide +kernel
theorem dX12_newThing_14 : decode cX12_newThing 14 = .ok (.aload_n 0, 1) := by decide +kernel
theorem dX12_newThing_15 : decode cX12_newThing 15 = .ok (.getfield 296, 3) := by decide +kernel
theorem dX12_newThing_18 : decode cX12_newThing 18 = .ok (.iload_n 2, 1) := by decide +kernel
theorem dX12_newThing_19 : decode cX12_newThing 19 = .ok (.iastore, 1) := by decide +kernel
theorem dX12_newThing_20 : decode cX12_newThing 20 = .ok (.aload_n 0, 1) := by decide +kernel
theorem dX12_newThing_21 : decode cX12_newThing 21 = .ok (.getfield 121, 3) := by decide +kernel
theorem dX12_newThing_24 : decode cX12_newThing 24 = .ok (.aload_n 0, 1) := by decide +kernel
theorem dX12_newThing_25 : decode cX12_newThing 25 = .ok (.getfield 296, 3) := by decide +kernel
theorem dX12_newThing_28 : decode cX12_newThing 28 = .ok (.iconst 0, 1) := by decide +kernel
theorem dX12_newThing_29 : decode cX12_newThing 29 = .ok (.iastore, 1) := by decide +kernel
theorem dX12_newThing_30 : decode cX12_newThing 30 = .ok (.aload_n 0, 1) := by decide +kernel
theorem dX12_newThing_31 : decode cX12_newThing 31 = .ok (.getfield 124, 3) := by decide +kernel
theorem dX12_newThing_34 : decode cX12_newThing 34 = .ok (.aload_n 0, 1) := by decide +kernel
theorem dX12_newThing_35 : decode cX12_newThing 35 = .ok (.getfield 296, 3) := by decide +kernel
theorem dX12_newThing_38 : decode cX12_newThing 38 = .ok (.aload_n 0, 1) := by decide +kernel
theorem dX12_newThing_39 : decode cX12_newThing 39 = .ok (.getfield 299, 3) := by decide +kernel
theorem dX12_newThing_42 : decode cX12_newThing 42 = .ok (.iastore, 1) := by decide +kernel
theorem dX12_newThing_43 : decode cX12_newThing 43 = .ok (.iload_n 1, 1) := by decide +kernel
theorem dX12_newThing_44 : decode cX12_newThing 44 = .ok (.bipush 16, 2) := by decide +kernel
theorem dX12_newThing_46 : decode cX12_newThing 46 = .ok (.if_icmp .lt 7, 3) := by decide +kernel
theorem dX12_newThing_49 : decode cX12_newThing 49 = .ok (.iconst 1, 1) := by decide +kernel
theorem dX12_newThing_50 : decode cX12_newThing 50 = .ok (.goto 4, 3) := by decide +kernel
theorem dX12_newThing_53 : decode cX12_newThing 53 = .ok (.iconst 0, 1) := by decide +kernel
theorem dX12_newThing_54 : decode cX12_newThing 54 = .ok (.istore_n 3, 1) := by decide +kernel
theorem dX12_newThing_55 : decode cX12_newThing 55 = .ok (.iconst 0, 1) := by decide +kernel
theorem dX12_newThing_56 : decode cX12_newThing 56 = .ok (.istore 4, 2) := by decide +kernel
theorem dX12_newThing_58 : decode cX12_newThing 58 = .ok (.iload 4, 2) := by decide +kernel
theorem dX12_newThing_60 : decode cX12_newThing 60 = .ok (.iload_n 2, 1) := by decide +kernel
theorem dX12_newThing_61 : decode cX12_newThing 61 = .ok (.if_icmp .ge 32, 3) := by decide +kernel
theorem dX12_newThing_64 : decode cX12_newThing 64 = .ok (.aload_n 0, 1) := by decide +kernel
theorem dX12_newThing_65 : decode cX12_newThing 65 = .ok (.getfield 127, 3) := by decide +kernel
theorem dX12_newThing_68 : decode cX12_newThing 68 = .ok (.aload_n 0, 1) := by decide +kernel
theorem dX12_newThing_69 : decode cX12_newThing 69 = .ok (.getfield 299, 3) := by decide +kernel
theorem dX12_newThing_72 : decode cX12_newThing 72 = .ok (.iload 4, 2) := by decide +kernel
theorem dX12_newThing_74 : decode cX12_newThing 74 = .ok (.iadd, 1) := by decide +kernel
theorem dX12_newThing_75 : decode cX12_newThing 75 = .ok (.iload_n 3, 1) := by decide +kernel
theorem dX12_newThing_76 : decode cX12_newThing 76 = .ok (.ifCond .eq 9, 3) := by decide +kernel
theorem dX12_newThing_79 : decode cX12_newThing 79 = .ok (.ldc2_w 180, 3) := by decide +kernel
theorem dX12_newThing_82 : decode cX12_newThing 82 = .ok (.goto 4, 3) := by decide +kernel
theorem dX12_newThing_85 : decode cX12_newThing 85 = .ok (.lconst 0, 1) := by decide +kernel
theorem dX12_newThing_86 : decode cX12_newThing 86 = .ok (.lastore, 1) := by decide +kernel
theorem dX12_newThing_87 : decode cX12_newThing 87 = .ok (.iinc 4 1, 3) := by decide +kernel
theorem dX12_newThing_90 : decode cX12_newThing 90 = .ok (.goto (-32), 3) := by decide +kernel
theorem dX12_newThing_93 : decode cX12_newThing 93 = .ok (.aload_n 0, 1) := by decide +kernel
theorem dX12_newThing_94 : decode cX12_newThing 94 = .ok (.dup, 1) := by decide +kernel
theorem dX12_newThing_95 : decode cX12_newThing 95 = .ok (.getfield 299, 3) := by decide +kernel
theorem dX12_newThing_98 : decode cX12_newThing 98 = .ok (.iload_n 2, 1) := by decide +kernel
theorem dX12_newThing_99 : decode cX12_newThing 99 = .ok (.iadd, 1) := by decide +kernel
theorem dX12_newThing_100 : decode cX12_newThing 100 = .ok (.putfield 299, 3) := by decide +kernel
theorem dX12_newThing_103 : decode cX12_newThing 103 = .ok (.aload_n 0, 1) := by decide +kernel
theorem dX12_newThing_104 : decode cX12_newThing 104 = .ok (.dup, 1) := by decide +kernel
theorem dX12_newThing_105 : decode cX12_newThing 105 = .ok (.getfield 296, 3) := by decide +kernel
theorem dX12_newThing_108 : decode cX12_newThing 108 = .ok (.iconst 1, 1) := by decide +kernel
theorem dX12_newThing_109 : decode cX12_newThing 109 = .ok (.iadd, 1) := by decide +kernel
theorem dX12_newThing_110 : decode cX12_newThing 110 = .ok (.putfield 296, 3) := by decide +kernel
theorem dX12_newThing_113 : decode cX12_newThing 113 = .ok (.aload_n 0, 1) := by decide +kernel
theorem dX12_newThing_114 : decode cX12_newThing 114 = .ok (.getfield 296, 3) := by decide +kernel
theorem dX12_newThing_117 : decode cX12_newThing 117 = .ok (.iconst 1, 1) := by decide +kernel
theorem dX12_newThing_118 : decode cX12_newThing 118 = .ok (.isub, 1) := by decide +kernel
theorem dX12_newThing_119 : decode cX12_newThing 119 = .ok (.ireturn, 1) := by decide +kernel
