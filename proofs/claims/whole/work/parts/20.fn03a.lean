theorem dX1_ownFault_0 : decode cX1_ownFault 0 = .ok (.aload_n 1, 1) := by decide +kernel
theorem dX1_ownFault_1 : decode cX1_ownFault 1 = .ok (.getfield 113, 3) := by decide +kernel
theorem dX1_ownFault_4 : decode cX1_ownFault 4 = .ok (.iload_n 2, 1) := by decide +kernel
theorem dX1_ownFault_5 : decode cX1_ownFault 5 = .ok (.iaload, 1) := by decide +kernel
theorem dX1_ownFault_6 : decode cX1_ownFault 6 = .ok (.istore_n 3, 1) := by decide +kernel
theorem dX1_ownFault_7 : decode cX1_ownFault 7 = .ok (.aload_n 1, 1) := by decide +kernel
theorem dX1_ownFault_8 : decode cX1_ownFault 8 = .ok (.getfield 116, 3) := by decide +kernel
theorem dX1_ownFault_11 : decode cX1_ownFault 11 = .ok (.iload_n 2, 1) := by decide +kernel
theorem dX1_ownFault_12 : decode cX1_ownFault 12 = .ok (.iaload, 1) := by decide +kernel
theorem dX1_ownFault_13 : decode cX1_ownFault 13 = .ok (.istore 4, 2) := by decide +kernel
theorem dX1_ownFault_15 : decode cX1_ownFault 15 = .ok (.aload_n 1, 1) := by decide +kernel
theorem dX1_ownFault_16 : decode cX1_ownFault 16 = .ok (.getfield 119, 3) := by decide +kernel
theorem dX1_ownFault_19 : decode cX1_ownFault 19 = .ok (.iload_n 2, 1) := by decide +kernel
theorem dX1_ownFault_20 : decode cX1_ownFault 20 = .ok (.iaload, 1) := by decide +kernel
theorem dX1_ownFault_21 : decode cX1_ownFault 21 = .ok (.istore 5, 2) := by decide +kernel
theorem dX1_ownFault_23 : decode cX1_ownFault 23 = .ok (.aload_n 1, 1) := by decide +kernel
theorem dX1_ownFault_24 : decode cX1_ownFault 24 = .ok (.getfield 48, 3) := by decide +kernel
theorem dX1_ownFault_27 : decode cX1_ownFault 27 = .ok (.iload_n 2, 1) := by decide +kernel
theorem dX1_ownFault_28 : decode cX1_ownFault 28 = .ok (.aload_n 0, 1) := by decide +kernel
theorem dX1_ownFault_29 : decode cX1_ownFault 29 = .ok (.getfield 12, 3) := by decide +kernel
theorem dX1_ownFault_32 : decode cX1_ownFault 32 = .ok (.invokevirtual 122, 3) := by decide +kernel
theorem dX1_ownFault_35 : decode cX1_ownFault 35 = .ok (.aload_n 0, 1) := by decide +kernel
theorem dX1_ownFault_36 : decode cX1_ownFault 36 = .ok (.iload_n 3, 1) := by decide +kernel
theorem dX1_ownFault_37 : decode cX1_ownFault 37 = .ok (.iload 4, 2) := by decide +kernel
theorem dX1_ownFault_39 : decode cX1_ownFault 39 = .ok (.iload 5, 2) := by decide +kernel
theorem dX1_ownFault_41 : decode cX1_ownFault 41 = .ok (.invokevirtual 126, 3) := by decide +kernel
theorem dX1_ownFault_44 : decode cX1_ownFault 44 = .ok (.ifCond .ne 6, 3) := by decide +kernel
theorem dX1_ownFault_47 : decode cX1_ownFault 47 = .ok (.bipush 7, 2) := by decide +kernel
theorem dX1_ownFault_49 : decode cX1_ownFault 49 = .ok (.ireturn, 1) := by decide +kernel
theorem dX1_ownFault_50 : decode cX1_ownFault 50 = .ok (.aload_n 0, 1) := by decide +kernel
theorem dX1_ownFault_51 : decode cX1_ownFault 51 = .ok (.aload_n 1, 1) := by decide +kernel
theorem dX1_ownFault_52 : decode cX1_ownFault 52 = .ok (.iload_n 2, 1) := by decide +kernel
theorem dX1_ownFault_53 : decode cX1_ownFault 53 = .ok (.invokevirtual 130, 3) := by decide +kernel
theorem dX1_ownFault_56 : decode cX1_ownFault 56 = .ok (.ifCond .ne 5, 3) := by decide +kernel
theorem dX1_ownFault_59 : decode cX1_ownFault 59 = .ok (.iconst 2, 1) := by decide +kernel
theorem dX1_ownFault_60 : decode cX1_ownFault 60 = .ok (.ireturn, 1) := by decide +kernel
theorem dX1_ownFault_61 : decode cX1_ownFault 61 = .ok (.aload_n 0, 1) := by decide +kernel
theorem dX1_ownFault_62 : decode cX1_ownFault 62 = .ok (.iload_n 3, 1) := by decide +kernel
theorem dX1_ownFault_63 : decode cX1_ownFault 63 = .ok (.iload 4, 2) := by decide +kernel
theorem dX1_ownFault_65 : decode cX1_ownFault 65 = .ok (.iload 5, 2) := by decide +kernel
theorem dX1_ownFault_67 : decode cX1_ownFault 67 = .ok (.invokevirtual 133, 3) := by decide +kernel
theorem dX1_ownFault_70 : decode cX1_ownFault 70 = .ok (.ifCond .ne 5, 3) := by decide +kernel
theorem dX1_ownFault_73 : decode cX1_ownFault 73 = .ok (.iconst 3, 1) := by decide +kernel
theorem dX1_ownFault_74 : decode cX1_ownFault 74 = .ok (.ireturn, 1) := by decide +kernel
theorem dX1_ownFault_75 : decode cX1_ownFault 75 = .ok (.iload_n 3, 1) := by decide +kernel
theorem dX1_ownFault_76 : decode cX1_ownFault 76 = .ok (.iconst 5, 1) := by decide +kernel
theorem dX1_ownFault_77 : decode cX1_ownFault 77 = .ok (.if_icmp .ne 17, 3) := by decide +kernel
theorem dX1_ownFault_80 : decode cX1_ownFault 80 = .ok (.aload_n 0, 1) := by decide +kernel
theorem dX1_ownFault_81 : decode cX1_ownFault 81 = .ok (.getfield 12, 3) := by decide +kernel
theorem dX1_ownFault_84 : decode cX1_ownFault 84 = .ok (.iload 4, 2) := by decide +kernel
theorem dX1_ownFault_86 : decode cX1_ownFault 86 = .ok (.iload 5, 2) := by decide +kernel
theorem dX1_ownFault_88 : decode cX1_ownFault 88 = .ok (.invokevirtual 136, 3) := by decide +kernel
theorem dX1_ownFault_91 : decode cX1_ownFault 91 = .ok (.ifCond .eq 22, 3) := by decide +kernel
theorem dX1_ownFault_94 : decode cX1_ownFault 94 = .ok (.iload_n 3, 1) := by decide +kernel
theorem dX1_ownFault_95 : decode cX1_ownFault 95 = .ok (.bipush 7, 2) := by decide +kernel
theorem dX1_ownFault_97 : decode cX1_ownFault 97 = .ok (.if_icmp .ne 18, 3) := by decide +kernel
theorem dX1_ownFault_100 : decode cX1_ownFault 100 = .ok (.aload_n 0, 1) := by decide +kernel
theorem dX1_ownFault_101 : decode cX1_ownFault 101 = .ok (.getfield 12, 3) := by decide +kernel
theorem dX1_ownFault_104 : decode cX1_ownFault 104 = .ok (.iload 4, 2) := by decide +kernel
theorem dX1_ownFault_106 : decode cX1_ownFault 106 = .ok (.iconst 0, 1) := by decide +kernel
theorem dX1_ownFault_107 : decode cX1_ownFault 107 = .ok (.invokevirtual 136, 3) := by decide +kernel
theorem dX1_ownFault_110 : decode cX1_ownFault 110 = .ok (.ifCond .ne 5, 3) := by decide +kernel
theorem dX1_ownFault_113 : decode cX1_ownFault 113 = .ok (.iconst 5, 1) := by decide +kernel
theorem dX1_ownFault_114 : decode cX1_ownFault 114 = .ok (.ireturn, 1) := by decide +kernel
theorem dX1_ownFault_115 : decode cX1_ownFault 115 = .ok (.iload_n 3, 1) := by decide +kernel
theorem dX1_ownFault_116 : decode cX1_ownFault 116 = .ok (.bipush 34, 2) := by decide +kernel
theorem dX1_ownFault_118 : decode cX1_ownFault 118 = .ok (.if_icmp .ne 15, 3) := by decide +kernel
theorem dX1_ownFault_121 : decode cX1_ownFault 121 = .ok (.iload 4, 2) := by decide +kernel
theorem dX1_ownFault_123 : decode cX1_ownFault 123 = .ok (.aload_n 1, 1) := by decide +kernel
theorem dX1_ownFault_124 : decode cX1_ownFault 124 = .ok (.getfield 140, 3) := by decide +kernel
theorem dX1_ownFault_127 : decode cX1_ownFault 127 = .ok (.if_icmp .eq 6, 3) := by decide +kernel
theorem dX1_ownFault_130 : decode cX1_ownFault 130 = .ok (.bipush 8, 2) := by decide +kernel
theorem dX1_ownFault_132 : decode cX1_ownFault 132 = .ok (.ireturn, 1) := by decide +kernel
theorem dX1_ownFault_133 : decode cX1_ownFault 133 = .ok (.aload_n 0, 1) := by decide +kernel
theorem dX1_ownFault_134 : decode cX1_ownFault 134 = .ok (.iload_n 3, 1) := by decide +kernel
theorem dX1_ownFault_135 : decode cX1_ownFault 135 = .ok (.iload 4, 2) := by decide +kernel
theorem dX1_ownFault_137 : decode cX1_ownFault 137 = .ok (.iload 5, 2) := by decide +kernel
theorem dX1_ownFault_139 : decode cX1_ownFault 139 = .ok (.invokevirtual 143, 3) := by decide +kernel
theorem dX1_ownFault_142 : decode cX1_ownFault 142 = .ok (.aload_n 0, 1) := by decide +kernel
theorem dX1_ownFault_143 : decode cX1_ownFault 143 = .ok (.getfield 12, 3) := by decide +kernel
theorem dX1_ownFault_146 : decode cX1_ownFault 146 = .ok (.getfield 76, 3) := by decide +kernel
theorem dX1_ownFault_149 : decode cX1_ownFault 149 = .ok (.getfield 147, 3) := by decide +kernel
theorem dX1_ownFault_152 : decode cX1_ownFault 152 = .ok (.bipush 12, 2) := by decide +kernel
theorem dX1_ownFault_154 : decode cX1_ownFault 154 = .ok (.if_icmp .le 5, 3) := by decide +kernel
theorem dX1_ownFault_157 : decode cX1_ownFault 157 = .ok (.iconst 4, 1) := by decide +kernel
theorem dX1_ownFault_158 : decode cX1_ownFault 158 = .ok (.ireturn, 1) := by decide +kernel
theorem dX1_ownFault_159 : decode cX1_ownFault 159 = .ok (.iload_n 3, 1) := by decide +kernel
theorem dX1_ownFault_160 : decode cX1_ownFault 160 = .ok (.invokestatic 150, 3) := by decide +kernel
theorem dX1_ownFault_163 : decode cX1_ownFault 163 = .ok (.ifCond .eq 17, 3) := by decide +kernel
theorem dX1_ownFault_166 : decode cX1_ownFault 166 = .ok (.iload_n 2, 1) := by decide +kernel
theorem dX1_ownFault_167 : decode cX1_ownFault 167 = .ok (.iconst 1, 1) := by decide +kernel
theorem dX1_ownFault_168 : decode cX1_ownFault 168 = .ok (.iadd, 1) := by decide +kernel
theorem dX1_ownFault_169 : decode cX1_ownFault 169 = .ok (.aload_n 1, 1) := by decide +kernel
theorem dX1_ownFault_170 : decode cX1_ownFault 170 = .ok (.getfield 45, 3) := by decide +kernel
theorem dX1_ownFault_173 : decode cX1_ownFault 173 = .ok (.if_icmp .lt 7, 3) := by decide +kernel
theorem dX1_ownFault_176 : decode cX1_ownFault 176 = .ok (.iconst 1, 1) := by decide +kernel
theorem dX1_ownFault_177 : decode cX1_ownFault 177 = .ok (.goto 4, 3) := by decide +kernel
theorem dX1_ownFault_180 : decode cX1_ownFault 180 = .ok (.iconst 0, 1) := by decide +kernel
theorem dX1_ownFault_181 : decode cX1_ownFault 181 = .ok (.ireturn, 1) := by decide +kernel
theorem dX1_send_0 : decode cX1_send 0 = .ok (.iload_n 2, 1) := by decide +kernel
theorem dX1_send_1 : decode cX1_send 1 = .ok (.aload_n 1, 1) := by decide +kernel
theorem dX1_send_2 : decode cX1_send 2 = .ok (.getfield 45, 3) := by decide +kernel
theorem dX1_send_5 : decode cX1_send 5 = .ok (.invokestatic 159, 3) := by decide +kernel
theorem dX1_send_8 : decode cX1_send 8 = .ok (.ifCond .eq 15, 3) := by decide +kernel
theorem dX1_send_11 : decode cX1_send 11 = .ok (.aload_n 1, 1) := by decide +kernel
theorem dX1_send_12 : decode cX1_send 12 = .ok (.getfield 48, 3) := by decide +kernel
theorem dX1_send_15 : decode cX1_send 15 = .ok (.iload_n 2, 1) := by decide +kernel
theorem dX1_send_16 : decode cX1_send 16 = .ok (.aload_n 3, 1) := by decide +kernel
theorem dX1_send_17 : decode cX1_send 17 = .ok (.invokevirtual 109, 3) := by decide +kernel
theorem dX1_send_20 : decode cX1_send 20 = .ok (.ifCond .eq 5, 3) := by decide +kernel
theorem dX1_send_23 : decode cX1_send 23 = .ok (.iconst 1, 1) := by decide +kernel
theorem dX1_send_24 : decode cX1_send 24 = .ok (.ireturn, 1) := by decide +kernel
theorem dX1_send_25 : decode cX1_send 25 = .ok (.aload_n 0, 1) := by decide +kernel
theorem dX1_send_26 : decode cX1_send 26 = .ok (.iload_n 2, 1) := by decide +kernel
theorem dX1_send_27 : decode cX1_send 27 = .ok (.putfield 28, 3) := by decide +kernel
theorem dX1_send_30 : decode cX1_send 30 = .ok (.iconst 0, 1) := by decide +kernel
theorem dX1_send_31 : decode cX1_send 31 = .ok (.ireturn, 1) := by decide +kernel
theorem dX1_sendToHandlers_0 : decode cX1_sendToHandlers 0 = .ok (.aload_n 1, 1) := by decide +kernel
theorem dX1_sendToHandlers_1 : decode cX1_sendToHandlers 1 = .ok (.getfield 48, 3) := by decide +kernel
theorem dX1_sendToHandlers_4 : decode cX1_sendToHandlers 4 = .ok (.iload_n 2, 1) := by decide +kernel
theorem dX1_sendToHandlers_5 : decode cX1_sendToHandlers 5 = .ok (.aload_n 0, 1) := by decide +kernel
theorem dX1_sendToHandlers_6 : decode cX1_sendToHandlers 6 = .ok (.getfield 18, 3) := by decide +kernel
theorem dX1_sendToHandlers_9 : decode cX1_sendToHandlers 9 = .ok (.invokevirtual 122, 3) := by decide +kernel
theorem dX1_sendToHandlers_12 : decode cX1_sendToHandlers 12 = .ok (.aload_n 0, 1) := by decide +kernel
theorem dX1_sendToHandlers_13 : decode cX1_sendToHandlers 13 = .ok (.getfield 18, 3) := by decide +kernel
theorem dX1_sendToHandlers_16 : decode cX1_sendToHandlers 16 = .ok (.getfield 76, 3) := by decide +kernel
theorem dX1_sendToHandlers_19 : decode cX1_sendToHandlers 19 = .ok (.invokevirtual 80, 3) := by decide +kernel
theorem dX1_sendToHandlers_22 : decode cX1_sendToHandlers 22 = .ok (.aload_n 0, 1) := by decide +kernel
theorem dX1_sendToHandlers_23 : decode cX1_sendToHandlers 23 = .ok (.getfield 18, 3) := by decide +kernel
theorem dX1_sendToHandlers_26 : decode cX1_sendToHandlers 26 = .ok (.iconst 4, 1) := by decide +kernel
theorem dX1_sendToHandlers_27 : decode cX1_sendToHandlers 27 = .ok (.invokevirtual 215, 3) := by decide +kernel
theorem dX1_sendToHandlers_30 : decode cX1_sendToHandlers 30 = .ok (.iconst 0, 1) := by decide +kernel
theorem dX1_sendToHandlers_31 : decode cX1_sendToHandlers 31 = .ok (.istore_n 3, 1) := by decide +kernel
theorem dX1_sendToHandlers_32 : decode cX1_sendToHandlers 32 = .ok (.iload_n 3, 1) := by decide +kernel
theorem dX1_sendToHandlers_33 : decode cX1_sendToHandlers 33 = .ok (.aload_n 1, 1) := by decide +kernel
theorem dX1_sendToHandlers_34 : decode cX1_sendToHandlers 34 = .ok (.getfield 180, 3) := by decide +kernel
theorem dX1_sendToHandlers_37 : decode cX1_sendToHandlers 37 = .ok (.if_icmp .ge 38, 3) := by decide +kernel
theorem dX1_sendToHandlers_40 : decode cX1_sendToHandlers 40 = .ok (.aload_n 1, 1) := by decide +kernel
theorem dX1_sendToHandlers_41 : decode cX1_sendToHandlers 41 = .ok (.iload_n 3, 1) := by decide +kernel
theorem dX1_sendToHandlers_42 : decode cX1_sendToHandlers 42 = .ok (.iload_n 2, 1) := by decide +kernel
theorem dX1_sendToHandlers_43 : decode cX1_sendToHandlers 43 = .ok (.invokevirtual 183, 3) := by decide +kernel
theorem dX1_sendToHandlers_46 : decode cX1_sendToHandlers 46 = .ok (.ifCond .eq 23, 3) := by decide +kernel
theorem dX1_sendToHandlers_49 : decode cX1_sendToHandlers 49 = .ok (.aload_n 0, 1) := by decide +kernel
theorem dX1_sendToHandlers_50 : decode cX1_sendToHandlers 50 = .ok (.aload_n 1, 1) := by decide +kernel
theorem dX1_sendToHandlers_51 : decode cX1_sendToHandlers 51 = .ok (.aload_n 1, 1) := by decide +kernel
theorem dX1_sendToHandlers_52 : decode cX1_sendToHandlers 52 = .ok (.getfield 186, 3) := by decide +kernel
theorem dX1_sendToHandlers_55 : decode cX1_sendToHandlers 55 = .ok (.iload_n 3, 1) := by decide +kernel
theorem dX1_sendToHandlers_56 : decode cX1_sendToHandlers 56 = .ok (.iaload, 1) := by decide +kernel
theorem dX1_sendToHandlers_57 : decode cX1_sendToHandlers 57 = .ok (.aload_n 0, 1) := by decide +kernel
theorem dX1_sendToHandlers_58 : decode cX1_sendToHandlers 58 = .ok (.getfield 18, 3) := by decide +kernel
theorem dX1_sendToHandlers_61 : decode cX1_sendToHandlers 61 = .ok (.invokevirtual 226, 3) := by decide +kernel
theorem dX1_sendToHandlers_64 : decode cX1_sendToHandlers 64 = .ok (.ifCond .ne 5, 3) := by decide +kernel
theorem dX1_sendToHandlers_67 : decode cX1_sendToHandlers 67 = .ok (.iconst 0, 1) := by decide +kernel
theorem dX1_sendToHandlers_68 : decode cX1_sendToHandlers 68 = .ok (.ireturn, 1) := by decide +kernel
theorem dX1_sendToHandlers_69 : decode cX1_sendToHandlers 69 = .ok (.iinc 3 1, 3) := by decide +kernel
theorem dX1_sendToHandlers_72 : decode cX1_sendToHandlers 72 = .ok (.goto (-40), 3) := by decide +kernel
theorem dX1_sendToHandlers_75 : decode cX1_sendToHandlers 75 = .ok (.iconst 1, 1) := by decide +kernel
theorem dX1_sendToHandlers_76 : decode cX1_sendToHandlers 76 = .ok (.ireturn, 1) := by decide +kernel
theorem dX1_sendByTable_0 : decode cX1_sendByTable 0 = .ok (.aload_n 2, 1) := by decide +kernel
theorem dX1_sendByTable_1 : decode cX1_sendByTable 1 = .ok (.ifnonnull 5, 3) := by decide +kernel
theorem dX1_sendByTable_4 : decode cX1_sendByTable 4 = .ok (.iconst 1, 1) := by decide +kernel
theorem dX1_sendByTable_5 : decode cX1_sendByTable 5 = .ok (.ireturn, 1) := by decide +kernel
theorem dX1_sendByTable_6 : decode cX1_sendByTable 6 = .ok (.iconst 0, 1) := by decide +kernel
theorem dX1_sendByTable_7 : decode cX1_sendByTable 7 = .ok (.istore_n 3, 1) := by decide +kernel
theorem dX1_sendByTable_8 : decode cX1_sendByTable 8 = .ok (.iload_n 3, 1) := by decide +kernel
theorem dX1_sendByTable_9 : decode cX1_sendByTable 9 = .ok (.aload_n 2, 1) := by decide +kernel
theorem dX1_sendByTable_10 : decode cX1_sendByTable 10 = .ok (.getfield 234, 3) := by decide +kernel
theorem dX1_sendByTable_13 : decode cX1_sendByTable 13 = .ok (.if_icmp .ge 29, 3) := by decide +kernel
theorem dX1_sendByTable_16 : decode cX1_sendByTable 16 = .ok (.aload_n 0, 1) := by decide +kernel
theorem dX1_sendByTable_17 : decode cX1_sendByTable 17 = .ok (.aload_n 1, 1) := by decide +kernel
theorem dX1_sendByTable_18 : decode cX1_sendByTable 18 = .ok (.aload_n 2, 1) := by decide +kernel
theorem dX1_sendByTable_19 : decode cX1_sendByTable 19 = .ok (.getfield 237, 3) := by decide +kernel
theorem dX1_sendByTable_22 : decode cX1_sendByTable 22 = .ok (.iload_n 3, 1) := by decide +kernel
theorem dX1_sendByTable_23 : decode cX1_sendByTable 23 = .ok (.iaload, 1) := by decide +kernel
theorem dX1_sendByTable_24 : decode cX1_sendByTable 24 = .ok (.aload_n 0, 1) := by decide +kernel
theorem dX1_sendByTable_25 : decode cX1_sendByTable 25 = .ok (.getfield 12, 3) := by decide +kernel
theorem dX1_sendByTable_28 : decode cX1_sendByTable 28 = .ok (.invokevirtual 226, 3) := by decide +kernel
theorem dX1_sendByTable_31 : decode cX1_sendByTable 31 = .ok (.ifCond .ne 5, 3) := by decide +kernel
theorem dX1_sendByTable_34 : decode cX1_sendByTable 34 = .ok (.iconst 0, 1) := by decide +kernel
theorem dX1_sendByTable_35 : decode cX1_sendByTable 35 = .ok (.ireturn, 1) := by decide +kernel
theorem dX1_sendByTable_36 : decode cX1_sendByTable 36 = .ok (.iinc 3 1, 3) := by decide +kernel
theorem dX1_sendByTable_39 : decode cX1_sendByTable 39 = .ok (.goto (-31), 3) := by decide +kernel
theorem dX1_sendByTable_42 : decode cX1_sendByTable 42 = .ok (.aload_n 0, 1) := by decide +kernel
theorem dX1_sendByTable_43 : decode cX1_sendByTable 43 = .ok (.aload_n 1, 1) := by decide +kernel
theorem dX1_sendByTable_44 : decode cX1_sendByTable 44 = .ok (.aload_n 2, 1) := by decide +kernel
theorem dX1_sendByTable_45 : decode cX1_sendByTable 45 = .ok (.getfield 238, 3) := by decide +kernel
theorem dX1_sendByTable_48 : decode cX1_sendByTable 48 = .ok (.aload_n 0, 1) := by decide +kernel
theorem dX1_sendByTable_49 : decode cX1_sendByTable 49 = .ok (.getfield 12, 3) := by decide +kernel
theorem dX1_sendByTable_52 : decode cX1_sendByTable 52 = .ok (.invokevirtual 226, 3) := by decide +kernel
theorem dX1_sendByTable_55 : decode cX1_sendByTable 55 = .ok (.ireturn, 1) := by decide +kernel
theorem dX1_sendOn_0 : decode cX1_sendOn 0 = .ok (.aload_n 1, 1) := by decide +kernel
theorem dX1_sendOn_1 : decode cX1_sendOn 1 = .ok (.getfield 113, 3) := by decide +kernel
theorem dX1_sendOn_4 : decode cX1_sendOn 4 = .ok (.iload_n 2, 1) := by decide +kernel
theorem dX1_sendOn_5 : decode cX1_sendOn 5 = .ok (.iaload, 1) := by decide +kernel
theorem dX1_sendOn_6 : decode cX1_sendOn 6 = .ok (.istore_n 3, 1) := by decide +kernel
theorem dX1_sendOn_7 : decode cX1_sendOn 7 = .ok (.aload_n 1, 1) := by decide +kernel
theorem dX1_sendOn_8 : decode cX1_sendOn 8 = .ok (.getfield 116, 3) := by decide +kernel
theorem dX1_sendOn_11 : decode cX1_sendOn 11 = .ok (.iload_n 2, 1) := by decide +kernel
theorem dX1_sendOn_12 : decode cX1_sendOn 12 = .ok (.iaload, 1) := by decide +kernel
theorem dX1_sendOn_13 : decode cX1_sendOn 13 = .ok (.istore 4, 2) := by decide +kernel
theorem dX1_sendOn_15 : decode cX1_sendOn 15 = .ok (.iload_n 3, 1) := by decide +kernel
theorem dX1_sendOn_16 : decode cX1_sendOn 16 = .ok (.bipush 23, 2) := by decide +kernel
theorem dX1_sendOn_18 : decode cX1_sendOn 18 = .ok (.if_icmp .ne 18, 3) := by decide +kernel
theorem dX1_sendOn_21 : decode cX1_sendOn 21 = .ok (.aload_n 0, 1) := by decide +kernel
theorem dX1_sendOn_22 : decode cX1_sendOn 22 = .ok (.aload_n 1, 1) := by decide +kernel
theorem dX1_sendOn_23 : decode cX1_sendOn 23 = .ok (.aload_n 0, 1) := by decide +kernel
theorem dX1_sendOn_24 : decode cX1_sendOn 24 = .ok (.getfield 31, 3) := by decide +kernel
theorem dX1_sendOn_27 : decode cX1_sendOn 27 = .ok (.iload 4, 2) := by decide +kernel
theorem dX1_sendOn_29 : decode cX1_sendOn 29 = .ok (.invokevirtual 171, 3) := by decide +kernel
theorem dX1_sendOn_32 : decode cX1_sendOn 32 = .ok (.invokevirtual 230, 3) := by decide +kernel
theorem dX1_sendOn_35 : decode cX1_sendOn 35 = .ok (.ireturn, 1) := by decide +kernel
theorem dX1_sendOn_36 : decode cX1_sendOn 36 = .ok (.iload_n 3, 1) := by decide +kernel
theorem dX1_sendOn_37 : decode cX1_sendOn 37 = .ok (.bipush 20, 2) := by decide +kernel
theorem dX1_sendOn_39 : decode cX1_sendOn 39 = .ok (.if_icmp .eq 15, 3) := by decide +kernel
theorem dX1_sendOn_42 : decode cX1_sendOn 42 = .ok (.iload_n 3, 1) := by decide +kernel
theorem dX1_sendOn_43 : decode cX1_sendOn 43 = .ok (.bipush 21, 2) := by decide +kernel
theorem dX1_sendOn_45 : decode cX1_sendOn 45 = .ok (.if_icmp .eq 9, 3) := by decide +kernel
theorem dX1_sendOn_48 : decode cX1_sendOn 48 = .ok (.iload_n 3, 1) := by decide +kernel
theorem dX1_sendOn_49 : decode cX1_sendOn 49 = .ok (.bipush 22, 2) := by decide +kernel
theorem dX1_sendOn_51 : decode cX1_sendOn 51 = .ok (.if_icmp .ne 19, 3) := by decide +kernel
theorem dX1_sendOn_54 : decode cX1_sendOn 54 = .ok (.aload_n 0, 1) := by decide +kernel
theorem dX1_sendOn_55 : decode cX1_sendOn 55 = .ok (.aload_n 1, 1) := by decide +kernel
theorem dX1_sendOn_56 : decode cX1_sendOn 56 = .ok (.iload 4, 2) := by decide +kernel
theorem dX1_sendOn_58 : decode cX1_sendOn 58 = .ok (.aload_n 0, 1) := by decide +kernel
theorem dX1_sendOn_59 : decode cX1_sendOn 59 = .ok (.getfield 12, 3) := by decide +kernel
theorem dX1_sendOn_62 : decode cX1_sendOn 62 = .ok (.invokevirtual 226, 3) := by decide +kernel
theorem dX1_sendOn_65 : decode cX1_sendOn 65 = .ok (.ifCond .ne 5, 3) := by decide +kernel
theorem dX1_sendOn_68 : decode cX1_sendOn 68 = .ok (.iconst 0, 1) := by decide +kernel
theorem dX1_sendOn_69 : decode cX1_sendOn 69 = .ok (.ireturn, 1) := by decide +kernel
theorem dX1_sendOn_70 : decode cX1_sendOn 70 = .ok (.iload_n 3, 1) := by decide +kernel
theorem dX1_sendOn_71 : decode cX1_sendOn 71 = .ok (.invokestatic 150, 3) := by decide +kernel
theorem dX1_sendOn_74 : decode cX1_sendOn 74 = .ok (.ifCond .eq 18, 3) := by decide +kernel
theorem dX1_sendOn_77 : decode cX1_sendOn 77 = .ok (.aload_n 0, 1) := by decide +kernel
theorem dX1_sendOn_78 : decode cX1_sendOn 78 = .ok (.aload_n 1, 1) := by decide +kernel
theorem dX1_sendOn_79 : decode cX1_sendOn 79 = .ok (.iload_n 2, 1) := by decide +kernel
theorem dX1_sendOn_80 : decode cX1_sendOn 80 = .ok (.iconst 1, 1) := by decide +kernel
theorem dX1_sendOn_81 : decode cX1_sendOn 81 = .ok (.iadd, 1) := by decide +kernel
theorem dX1_sendOn_82 : decode cX1_sendOn 82 = .ok (.aload_n 0, 1) := by decide +kernel
theorem dX1_sendOn_83 : decode cX1_sendOn 83 = .ok (.getfield 12, 3) := by decide +kernel
theorem dX1_sendOn_86 : decode cX1_sendOn 86 = .ok (.invokevirtual 226, 3) := by decide +kernel
theorem dX1_sendOn_89 : decode cX1_sendOn 89 = .ok (.ifCond .eq 7, 3) := by decide +kernel
theorem dX1_sendOn_92 : decode cX1_sendOn 92 = .ok (.iconst 1, 1) := by decide +kernel
theorem dX1_sendOn_93 : decode cX1_sendOn 93 = .ok (.goto 4, 3) := by decide +kernel
theorem dX1_sendOn_96 : decode cX1_sendOn 96 = .ok (.iconst 0, 1) := by decide +kernel
theorem dX1_sendOn_97 : decode cX1_sendOn 97 = .ok (.ireturn, 1) := by decide +kernel
theorem dX6_leastDue_0 : decode cX6_leastDue 0 = .ok (.iconst 0, 1) := by decide +kernel
theorem dX6_leastDue_1 : decode cX6_leastDue 1 = .ok (.istore_n 1, 1) := by decide +kernel
theorem dX6_leastDue_2 : decode cX6_leastDue 2 = .ok (.iload_n 1, 1) := by decide +kernel
theorem dX6_leastDue_3 : decode cX6_leastDue 3 = .ok (.bipush 60, 2) := by decide +kernel
theorem dX6_leastDue_5 : decode cX6_leastDue 5 = .ok (.if_icmp .ge 20, 3) := by decide +kernel
theorem dX6_leastDue_8 : decode cX6_leastDue 8 = .ok (.aload_n 0, 1) := by decide +kernel
theorem dX6_leastDue_9 : decode cX6_leastDue 9 = .ok (.getfield 22, 3) := by decide +kernel
theorem dX6_leastDue_12 : decode cX6_leastDue 12 = .ok (.iload_n 1, 1) := by decide +kernel
theorem dX6_leastDue_13 : decode cX6_leastDue 13 = .ok (.baload, 1) := by decide +kernel
theorem dX6_leastDue_14 : decode cX6_leastDue 14 = .ok (.ifCond .eq 5, 3) := by decide +kernel
theorem dX6_leastDue_17 : decode cX6_leastDue 17 = .ok (.iload_n 1, 1) := by decide +kernel
theorem dX6_leastDue_18 : decode cX6_leastDue 18 = .ok (.ireturn, 1) := by decide +kernel
theorem dX6_leastDue_19 : decode cX6_leastDue 19 = .ok (.iinc 1 1, 3) := by decide +kernel
theorem dX6_leastDue_22 : decode cX6_leastDue 22 = .ok (.goto (-20), 3) := by decide +kernel
theorem dX6_leastDue_25 : decode cX6_leastDue 25 = .ok (.iconst (-1), 1) := by decide +kernel
theorem dX6_leastDue_26 : decode cX6_leastDue 26 = .ok (.ireturn, 1) := by decide +kernel
theorem dX1_examine_0 : decode cX1_examine 0 = .ok (.aload_n 2, 1) := by decide +kernel
theorem dX1_examine_1 : decode cX1_examine 1 = .ok (.iconst 1, 1) := by decide +kernel
theorem dX1_examine_2 : decode cX1_examine 2 = .ok (.putfield 35, 3) := by decide +kernel
theorem dX1_examine_5 : decode cX1_examine 5 = .ok (.aload_n 0, 1) := by decide +kernel
theorem dX1_examine_6 : decode cX1_examine 6 = .ok (.aload_n 2, 1) := by decide +kernel
theorem dX1_examine_7 : decode cX1_examine 7 = .ok (.invokevirtual 41, 3) := by decide +kernel
theorem dX1_examine_10 : decode cX1_examine 10 = .ok (.aload_n 2, 1) := by decide +kernel
theorem dX1_examine_11 : decode cX1_examine 11 = .ok (.getfield 45, 3) := by decide +kernel
theorem dX1_examine_14 : decode cX1_examine 14 = .ok (.ifCond .ne 7, 3) := by decide +kernel
theorem dX1_examine_17 : decode cX1_examine 17 = .ok (.iconst 1, 1) := by decide +kernel
theorem dX1_examine_18 : decode cX1_examine 18 = .ok (.goto 4, 3) := by decide +kernel
theorem dX1_examine_21 : decode cX1_examine 21 = .ok (.iconst 0, 1) := by decide +kernel
theorem dX1_examine_22 : decode cX1_examine 22 = .ok (.istore_n 3, 1) := by decide +kernel
theorem dX1_examine_23 : decode cX1_examine 23 = .ok (.iconst 0, 1) := by decide +kernel
theorem dX1_examine_24 : decode cX1_examine 24 = .ok (.istore 4, 2) := by decide +kernel
theorem dX1_examine_26 : decode cX1_examine 26 = .ok (.iconst 0, 1) := by decide +kernel
theorem dX1_examine_27 : decode cX1_examine 27 = .ok (.istore 5, 2) := by decide +kernel
theorem dX1_examine_29 : decode cX1_examine 29 = .ok (.iload 5, 2) := by decide +kernel
theorem dX1_examine_31 : decode cX1_examine 31 = .ok (.sipush 1020, 3) := by decide +kernel
theorem dX1_examine_34 : decode cX1_examine 34 = .ok (.if_icmp .ge 80, 3) := by decide +kernel
theorem dX1_examine_37 : decode cX1_examine 37 = .ok (.iload 4, 2) := by decide +kernel
theorem dX1_examine_39 : decode cX1_examine 39 = .ok (.iconst (-1), 1) := by decide +kernel
theorem dX1_examine_40 : decode cX1_examine 40 = .ok (.if_icmp .eq 74, 3) := by decide +kernel
theorem dX1_examine_43 : decode cX1_examine 43 = .ok (.iload_n 3, 1) := by decide +kernel
theorem dX1_examine_44 : decode cX1_examine 44 = .ok (.ifCond .ne 70, 3) := by decide +kernel
theorem dX1_examine_47 : decode cX1_examine 47 = .ok (.aload_n 0, 1) := by decide +kernel
theorem dX1_examine_48 : decode cX1_examine 48 = .ok (.iload 4, 2) := by decide +kernel
theorem dX1_examine_50 : decode cX1_examine 50 = .ok (.putfield 28, 3) := by decide +kernel
theorem dX1_examine_53 : decode cX1_examine 53 = .ok (.aload_n 2, 1) := by decide +kernel
theorem dX1_examine_54 : decode cX1_examine 54 = .ok (.getfield 48, 3) := by decide +kernel
theorem dX1_examine_57 : decode cX1_examine 57 = .ok (.getfield 52, 3) := by decide +kernel
theorem dX1_examine_60 : decode cX1_examine 60 = .ok (.iload 4, 2) := by decide +kernel
theorem dX1_examine_62 : decode cX1_examine 62 = .ok (.iconst 0, 1) := by decide +kernel
theorem dX1_examine_63 : decode cX1_examine 63 = .ok (.bastore, 1) := by decide +kernel
theorem dX1_examine_64 : decode cX1_examine 64 = .ok (.aload_n 0, 1) := by decide +kernel
theorem dX1_examine_65 : decode cX1_examine 65 = .ok (.aload_n 2, 1) := by decide +kernel
theorem dX1_examine_66 : decode cX1_examine 66 = .ok (.iload 4, 2) := by decide +kernel
theorem dX1_examine_68 : decode cX1_examine 68 = .ok (.invokevirtual 58, 3) := by decide +kernel
theorem dX1_examine_71 : decode cX1_examine 71 = .ok (.istore_n 3, 1) := by decide +kernel
theorem dX1_examine_72 : decode cX1_examine 72 = .ok (.iload_n 3, 1) := by decide +kernel
theorem dX1_examine_73 : decode cX1_examine 73 = .ok (.ifCond .ne 26, 3) := by decide +kernel
theorem dX1_examine_76 : decode cX1_examine 76 = .ok (.aload_n 0, 1) := by decide +kernel
theorem dX1_examine_77 : decode cX1_examine 77 = .ok (.aload_n 2, 1) := by decide +kernel
theorem dX1_examine_78 : decode cX1_examine 78 = .ok (.iload 4, 2) := by decide +kernel
theorem dX1_examine_80 : decode cX1_examine 80 = .ok (.invokevirtual 62, 3) := by decide +kernel
theorem dX1_examine_83 : decode cX1_examine 83 = .ok (.ifCond .eq 13, 3) := by decide +kernel
theorem dX1_examine_86 : decode cX1_examine 86 = .ok (.aload_n 0, 1) := by decide +kernel
theorem dX1_examine_87 : decode cX1_examine 87 = .ok (.aload_n 2, 1) := by decide +kernel
theorem dX1_examine_88 : decode cX1_examine 88 = .ok (.iload 4, 2) := by decide +kernel
theorem dX1_examine_90 : decode cX1_examine 90 = .ok (.invokevirtual 66, 3) := by decide +kernel
theorem dX1_examine_93 : decode cX1_examine 93 = .ok (.ifCond .ne 6, 3) := by decide +kernel
theorem dX1_examine_96 : decode cX1_examine 96 = .ok (.bipush 6, 2) := by decide +kernel
theorem dX1_examine_98 : decode cX1_examine 98 = .ok (.istore_n 3, 1) := by decide +kernel
theorem dX1_examine_99 : decode cX1_examine 99 = .ok (.aload_n 2, 1) := by decide +kernel
theorem dX1_examine_100 : decode cX1_examine 100 = .ok (.getfield 48, 3) := by decide +kernel
theorem dX1_examine_103 : decode cX1_examine 103 = .ok (.invokevirtual 69, 3) := by decide +kernel
theorem dX1_examine_106 : decode cX1_examine 106 = .ok (.istore 4, 2) := by decide +kernel
theorem dX1_examine_108 : decode cX1_examine 108 = .ok (.iinc 5 1, 3) := by decide +kernel
theorem dX1_examine_111 : decode cX1_examine 111 = .ok (.goto (-82), 3) := by decide +kernel
theorem dX1_examine_114 : decode cX1_examine 114 = .ok (.aload_n 2, 1) := by decide +kernel
theorem dX1_examine_115 : decode cX1_examine 115 = .ok (.iload_n 3, 1) := by decide +kernel
theorem dX1_examine_116 : decode cX1_examine 116 = .ok (.ifCond .ne 7, 3) := by decide +kernel
theorem dX1_examine_119 : decode cX1_examine 119 = .ok (.iconst 1, 1) := by decide +kernel
theorem dX1_examine_120 : decode cX1_examine 120 = .ok (.goto 4, 3) := by decide +kernel
theorem dX1_examine_123 : decode cX1_examine 123 = .ok (.iconst 0, 1) := by decide +kernel
theorem dX1_examine_124 : decode cX1_examine 124 = .ok (.putfield 73, 3) := by decide +kernel
theorem dX1_examine_127 : decode cX1_examine 127 = .ok (.aload_n 2, 1) := by decide +kernel
theorem dX1_examine_128 : decode cX1_examine 128 = .ok (.getfield 73, 3) := by decide +kernel
theorem dX1_examine_131 : decode cX1_examine 131 = .ok (.ifCond .eq 5, 3) := by decide +kernel
theorem dX1_examine_134 : decode cX1_examine 134 = .ok (.iconst 0, 1) := by decide +kernel
theorem dX1_examine_135 : decode cX1_examine 135 = .ok (.ireturn, 1) := by decide +kernel
theorem dX1_examine_136 : decode cX1_examine 136 = .ok (.aload_n 0, 1) := by decide +kernel
theorem dX1_examine_137 : decode cX1_examine 137 = .ok (.iload_n 1, 1) := by decide +kernel
theorem dX1_examine_138 : decode cX1_examine 138 = .ok (.putfield 21, 3) := by decide +kernel
theorem dX1_examine_141 : decode cX1_examine 141 = .ok (.aload_n 0, 1) := by decide +kernel
theorem dX1_examine_142 : decode cX1_examine 142 = .ok (.aload_n 0, 1) := by decide +kernel
theorem dX1_examine_143 : decode cX1_examine 143 = .ok (.getfield 28, 3) := by decide +kernel
theorem dX1_examine_146 : decode cX1_examine 146 = .ok (.putfield 25, 3) := by decide +kernel
theorem dX1_examine_149 : decode cX1_examine 149 = .ok (.bipush (-10), 2) := by decide +kernel
theorem dX1_examine_151 : decode cX1_examine 151 = .ok (.iload_n 3, 1) := by decide +kernel
theorem dX1_examine_152 : decode cX1_examine 152 = .ok (.isub, 1) := by decide +kernel
theorem dX1_examine_153 : decode cX1_examine 153 = .ok (.ireturn, 1) := by decide +kernel
theorem dX5_init_0 : decode cX5_init 0 = .ok (.aload_n 0, 1) := by decide +kernel
theorem dX5_init_1 : decode cX5_init 1 = .ok (.invokespecial 3, 3) := by decide +kernel
theorem dX5_init_4 : decode cX5_init 4 = .ok (.aload_n 0, 1) := by decide +kernel
theorem dX5_init_5 : decode cX5_init 5 = .ok (.new 9, 3) := by decide +kernel
theorem dX5_init_8 : decode cX5_init 8 = .ok (.dup, 1) := by decide +kernel
theorem dX5_init_9 : decode cX5_init 9 = .ok (.invokespecial 11, 3) := by decide +kernel
theorem dX5_init_12 : decode cX5_init 12 = .ok (.putfield 12, 3) := by decide +kernel
theorem dX5_init_15 : decode cX5_init 15 = .ok (.aload_n 0, 1) := by decide +kernel
theorem dX5_init_16 : decode cX5_init 16 = .ok (.bipush 16, 2) := by decide +kernel
theorem dX5_init_18 : decode cX5_init 18 = .ok (.newarray .long, 2) := by decide +kernel
theorem dX5_init_20 : decode cX5_init 20 = .ok (.putfield 18, 3) := by decide +kernel
theorem dX5_init_23 : decode cX5_init 23 = .ok (.return_, 1) := by decide +kernel
theorem dX1_init_0 : decode cX1_init 0 = .ok (.aload_n 0, 1) := by decide +kernel
theorem dX1_init_1 : decode cX1_init 1 = .ok (.invokespecial 3, 3) := by decide +kernel
theorem dX1_init_4 : decode cX1_init 4 = .ok (.aload_n 0, 1) := by decide +kernel
theorem dX1_init_5 : decode cX1_init 5 = .ok (.new 9, 3) := by decide +kernel
theorem dX1_init_8 : decode cX1_init 8 = .ok (.dup, 1) := by decide +kernel
theorem dX1_init_9 : decode cX1_init 9 = .ok (.invokespecial 11, 3) := by decide +kernel
theorem dX1_init_12 : decode cX1_init 12 = .ok (.putfield 12, 3) := by decide +kernel
theorem dX1_init_15 : decode cX1_init 15 = .ok (.aload_n 0, 1) := by decide +kernel
theorem dX1_init_16 : decode cX1_init 16 = .ok (.new 9, 3) := by decide +kernel
theorem dX1_init_19 : decode cX1_init 19 = .ok (.dup, 1) := by decide +kernel
theorem dX1_init_20 : decode cX1_init 20 = .ok (.invokespecial 11, 3) := by decide +kernel
theorem dX1_init_23 : decode cX1_init 23 = .ok (.putfield 18, 3) := by decide +kernel
theorem dX1_init_26 : decode cX1_init 26 = .ok (.aload_n 0, 1) := by decide +kernel
theorem dX1_init_27 : decode cX1_init 27 = .ok (.iconst (-1), 1) := by decide +kernel
theorem dX1_init_28 : decode cX1_init 28 = .ok (.putfield 21, 3) := by decide +kernel
theorem dX1_init_31 : decode cX1_init 31 = .ok (.aload_n 0, 1) := by decide +kernel
theorem dX1_init_32 : decode cX1_init 32 = .ok (.iconst (-1), 1) := by decide +kernel
theorem dX1_init_33 : decode cX1_init 33 = .ok (.putfield 25, 3) := by decide +kernel
theorem dX1_init_36 : decode cX1_init 36 = .ok (.aload_n 0, 1) := by decide +kernel
theorem dX1_init_37 : decode cX1_init 37 = .ok (.iconst 0, 1) := by decide +kernel
theorem dX1_init_38 : decode cX1_init 38 = .ok (.putfield 28, 3) := by decide +kernel
theorem dX1_init_41 : decode cX1_init 41 = .ok (.aload_n 0, 1) := by decide +kernel
theorem dX1_init_42 : decode cX1_init 42 = .ok (.aload_n 1, 1) := by decide +kernel
theorem dX1_init_43 : decode cX1_init 43 = .ok (.putfield 31, 3) := by decide +kernel
theorem dX1_init_46 : decode cX1_init 46 = .ok (.return_, 1) := by decide +kernel
theorem dX2_addArgument_0 : decode cX2_addArgument 0 = .ok (.aload_n 0, 1) := by decide +kernel
theorem dX2_addArgument_1 : decode cX2_addArgument 1 = .ok (.getfield 9, 3) := by decide +kernel
theorem dX2_addArgument_4 : decode cX2_addArgument 4 = .ok (.aload_n 0, 1) := by decide +kernel
theorem dX2_addArgument_5 : decode cX2_addArgument 5 = .ok (.getfield 15, 3) := by decide +kernel
theorem dX2_addArgument_8 : decode cX2_addArgument 8 = .ok (.iload_n 1, 1) := by decide +kernel
theorem dX2_addArgument_9 : decode cX2_addArgument 9 = .ok (.iastore, 1) := by decide +kernel
theorem dX2_addArgument_10 : decode cX2_addArgument 10 = .ok (.aload_n 0, 1) := by decide +kernel
theorem dX2_addArgument_11 : decode cX2_addArgument 11 = .ok (.dup, 1) := by decide +kernel
theorem dX2_addArgument_12 : decode cX2_addArgument 12 = .ok (.getfield 15, 3) := by decide +kernel
theorem dX2_addArgument_15 : decode cX2_addArgument 15 = .ok (.iconst 1, 1) := by decide +kernel
theorem dX2_addArgument_16 : decode cX2_addArgument 16 = .ok (.iadd, 1) := by decide +kernel
theorem dX2_addArgument_17 : decode cX2_addArgument 17 = .ok (.putfield 15, 3) := by decide +kernel
theorem dX2_addArgument_20 : decode cX2_addArgument 20 = .ok (.aload_n 0, 1) := by decide +kernel
theorem dX2_addArgument_21 : decode cX2_addArgument 21 = .ok (.dup, 1) := by decide +kernel
theorem dX2_addArgument_22 : decode cX2_addArgument 22 = .ok (.getfield 19, 3) := by decide +kernel
theorem dX2_addArgument_25 : decode cX2_addArgument 25 = .ok (.iload_n 1, 1) := by decide +kernel
theorem dX2_addArgument_26 : decode cX2_addArgument 26 = .ok (.invokestatic 66, 3) := by decide +kernel
theorem dX2_addArgument_29 : decode cX2_addArgument 29 = .ok (.iadd, 1) := by decide +kernel
theorem dX2_addArgument_30 : decode cX2_addArgument 30 = .ok (.putfield 19, 3) := by decide +kernel
theorem dX2_addArgument_33 : decode cX2_addArgument 33 = .ok (.aload_n 0, 1) := by decide +kernel
theorem dX2_addArgument_34 : decode cX2_addArgument 34 = .ok (.getfield 19, 3) := by decide +kernel
theorem dX2_addArgument_37 : decode cX2_addArgument 37 = .ok (.ireturn, 1) := by decide +kernel
theorem dX2_addHandler_0 : decode cX2_addHandler 0 = .ok (.aload_n 0, 1) := by decide +kernel
theorem dX2_addHandler_1 : decode cX2_addHandler 1 = .ok (.getfield 34, 3) := by decide +kernel
theorem dX2_addHandler_4 : decode cX2_addHandler 4 = .ok (.aload_n 0, 1) := by decide +kernel
theorem dX2_addHandler_5 : decode cX2_addHandler 5 = .ok (.getfield 46, 3) := by decide +kernel
theorem dX2_addHandler_8 : decode cX2_addHandler 8 = .ok (.iload_n 1, 1) := by decide +kernel
theorem dX2_addHandler_9 : decode cX2_addHandler 9 = .ok (.iastore, 1) := by decide +kernel
theorem dX2_addHandler_10 : decode cX2_addHandler 10 = .ok (.aload_n 0, 1) := by decide +kernel
theorem dX2_addHandler_11 : decode cX2_addHandler 11 = .ok (.getfield 37, 3) := by decide +kernel
theorem dX2_addHandler_14 : decode cX2_addHandler 14 = .ok (.aload_n 0, 1) := by decide +kernel
theorem dX2_addHandler_15 : decode cX2_addHandler 15 = .ok (.getfield 46, 3) := by decide +kernel
theorem dX2_addHandler_18 : decode cX2_addHandler 18 = .ok (.iload_n 2, 1) := by decide +kernel
theorem dX2_addHandler_19 : decode cX2_addHandler 19 = .ok (.iastore, 1) := by decide +kernel
theorem dX2_addHandler_20 : decode cX2_addHandler 20 = .ok (.aload_n 0, 1) := by decide +kernel
theorem dX2_addHandler_21 : decode cX2_addHandler 21 = .ok (.getfield 40, 3) := by decide +kernel
theorem dX2_addHandler_24 : decode cX2_addHandler 24 = .ok (.aload_n 0, 1) := by decide +kernel
theorem dX2_addHandler_25 : decode cX2_addHandler 25 = .ok (.getfield 46, 3) := by decide +kernel
theorem dX2_addHandler_28 : decode cX2_addHandler 28 = .ok (.iload_n 3, 1) := by decide +kernel
theorem dX2_addHandler_29 : decode cX2_addHandler 29 = .ok (.iastore, 1) := by decide +kernel
theorem dX2_addHandler_30 : decode cX2_addHandler 30 = .ok (.aload_n 0, 1) := by decide +kernel
theorem dX2_addHandler_31 : decode cX2_addHandler 31 = .ok (.getfield 43, 3) := by decide +kernel
theorem dX2_addHandler_34 : decode cX2_addHandler 34 = .ok (.aload_n 0, 1) := by decide +kernel
theorem dX2_addHandler_35 : decode cX2_addHandler 35 = .ok (.getfield 46, 3) := by decide +kernel
theorem dX2_addHandler_38 : decode cX2_addHandler 38 = .ok (.iload 4, 2) := by decide +kernel
theorem dX2_addHandler_40 : decode cX2_addHandler 40 = .ok (.iastore, 1) := by decide +kernel
theorem dX2_addHandler_41 : decode cX2_addHandler 41 = .ok (.aload_n 0, 1) := by decide +kernel
theorem dX2_addHandler_42 : decode cX2_addHandler 42 = .ok (.dup, 1) := by decide +kernel
theorem dX2_addHandler_43 : decode cX2_addHandler 43 = .ok (.getfield 46, 3) := by decide +kernel
theorem dX2_addHandler_46 : decode cX2_addHandler 46 = .ok (.iconst 1, 1) := by decide +kernel
theorem dX2_addHandler_47 : decode cX2_addHandler 47 = .ok (.iadd, 1) := by decide +kernel
theorem dX2_addHandler_48 : decode cX2_addHandler 48 = .ok (.putfield 46, 3) := by decide +kernel
theorem dX2_addHandler_51 : decode cX2_addHandler 51 = .ok (.aload_n 0, 1) := by decide +kernel
theorem dX2_addHandler_52 : decode cX2_addHandler 52 = .ok (.getfield 46, 3) := by decide +kernel
theorem dX2_addHandler_55 : decode cX2_addHandler 55 = .ok (.ireturn, 1) := by decide +kernel
theorem dX2_catcher_0 : decode cX2_catcher 0 = .ok (.iconst 0, 1) := by decide +kernel
theorem dX2_catcher_1 : decode cX2_catcher 1 = .ok (.istore_n 3, 1) := by decide +kernel
theorem dX2_catcher_2 : decode cX2_catcher 2 = .ok (.iload_n 3, 1) := by decide +kernel
theorem dX2_catcher_3 : decode cX2_catcher 3 = .ok (.aload_n 0, 1) := by decide +kernel
theorem dX2_catcher_4 : decode cX2_catcher 4 = .ok (.getfield 46, 3) := by decide +kernel
theorem dX2_catcher_7 : decode cX2_catcher 7 = .ok (.if_icmp .ge 45, 3) := by decide +kernel
theorem dX2_catcher_10 : decode cX2_catcher 10 = .ok (.aload_n 0, 1) := by decide +kernel
theorem dX2_catcher_11 : decode cX2_catcher 11 = .ok (.iload_n 3, 1) := by decide +kernel
theorem dX2_catcher_12 : decode cX2_catcher 12 = .ok (.iload_n 1, 1) := by decide +kernel
theorem dX2_catcher_13 : decode cX2_catcher 13 = .ok (.invokevirtual 70, 3) := by decide +kernel
theorem dX2_catcher_16 : decode cX2_catcher 16 = .ok (.ifCond .eq 30, 3) := by decide +kernel
theorem dX2_catcher_19 : decode cX2_catcher 19 = .ok (.aload_n 0, 1) := by decide +kernel
theorem dX2_catcher_20 : decode cX2_catcher 20 = .ok (.getfield 43, 3) := by decide +kernel
theorem dX2_catcher_23 : decode cX2_catcher 23 = .ok (.iload_n 3, 1) := by decide +kernel
theorem dX2_catcher_24 : decode cX2_catcher 24 = .ok (.iaload, 1) := by decide +kernel
theorem dX2_catcher_25 : decode cX2_catcher 25 = .ok (.iconst (-1), 1) := by decide +kernel
theorem dX2_catcher_26 : decode cX2_catcher 26 = .ok (.if_icmp .eq 13, 3) := by decide +kernel
theorem dX2_catcher_29 : decode cX2_catcher 29 = .ok (.aload_n 0, 1) := by decide +kernel
theorem dX2_catcher_30 : decode cX2_catcher 30 = .ok (.getfield 43, 3) := by decide +kernel
theorem dX2_catcher_33 : decode cX2_catcher 33 = .ok (.iload_n 3, 1) := by decide +kernel
theorem dX2_catcher_34 : decode cX2_catcher 34 = .ok (.iaload, 1) := by decide +kernel
theorem dX2_catcher_35 : decode cX2_catcher 35 = .ok (.iload_n 2, 1) := by decide +kernel
theorem dX2_catcher_36 : decode cX2_catcher 36 = .ok (.if_icmp .ne 10, 3) := by decide +kernel
theorem dX2_catcher_39 : decode cX2_catcher 39 = .ok (.aload_n 0, 1) := by decide +kernel
theorem dX2_catcher_40 : decode cX2_catcher 40 = .ok (.getfield 40, 3) := by decide +kernel
theorem dX2_catcher_43 : decode cX2_catcher 43 = .ok (.iload_n 3, 1) := by decide +kernel
theorem dX2_catcher_44 : decode cX2_catcher 44 = .ok (.iaload, 1) := by decide +kernel
theorem dX2_catcher_45 : decode cX2_catcher 45 = .ok (.ireturn, 1) := by decide +kernel
theorem dX2_catcher_46 : decode cX2_catcher 46 = .ok (.iinc 3 1, 3) := by decide +kernel
theorem dX2_catcher_49 : decode cX2_catcher 49 = .ok (.goto (-47), 3) := by decide +kernel
theorem dX2_catcher_52 : decode cX2_catcher 52 = .ok (.iconst (-1), 1) := by decide +kernel
theorem dX2_catcher_53 : decode cX2_catcher 53 = .ok (.ireturn, 1) := by decide +kernel
theorem dX6_init_0 : decode cX6_init 0 = .ok (.aload_n 0, 1) := by decide +kernel
theorem dX6_init_1 : decode cX6_init 1 = .ok (.invokespecial 3, 3) := by decide +kernel
theorem dX6_init_4 : decode cX6_init 4 = .ok (.aload_n 0, 1) := by decide +kernel
theorem dX6_init_5 : decode cX6_init 5 = .ok (.bipush 60, 2) := by decide +kernel
theorem dX6_init_7 : decode cX6_init 7 = .ok (.newarray .int, 2) := by decide +kernel
theorem dX6_init_9 : decode cX6_init 9 = .ok (.putfield 9, 3) := by decide +kernel
theorem dX6_init_12 : decode cX6_init 12 = .ok (.aload_n 0, 1) := by decide +kernel
theorem dX6_init_13 : decode cX6_init 13 = .ok (.sipush 720, 3) := by decide +kernel
theorem dX6_init_16 : decode cX6_init 16 = .ok (.newarray .long, 2) := by decide +kernel
theorem dX6_init_18 : decode cX6_init 18 = .ok (.putfield 15, 3) := by decide +kernel
theorem dX6_init_21 : decode cX6_init 21 = .ok (.aload_n 0, 1) := by decide +kernel
theorem dX6_init_22 : decode cX6_init 22 = .ok (.sipush 960, 3) := by decide +kernel
theorem dX6_init_25 : decode cX6_init 25 = .ok (.newarray .long, 2) := by decide +kernel
theorem dX6_init_27 : decode cX6_init 27 = .ok (.putfield 19, 3) := by decide +kernel
theorem dX6_init_30 : decode cX6_init 30 = .ok (.aload_n 0, 1) := by decide +kernel
theorem dX6_init_31 : decode cX6_init 31 = .ok (.bipush 60, 2) := by decide +kernel
theorem dX6_init_33 : decode cX6_init 33 = .ok (.newarray .boolean, 2) := by decide +kernel
theorem dX6_init_35 : decode cX6_init 35 = .ok (.putfield 22, 3) := by decide +kernel
theorem dX6_init_38 : decode cX6_init 38 = .ok (.return_, 1) := by decide +kernel
theorem dX2_init_0 : decode cX2_init 0 = .ok (.aload_n 0, 1) := by decide +kernel
theorem dX2_init_1 : decode cX2_init 1 = .ok (.invokespecial 3, 3) := by decide +kernel
theorem dX2_init_4 : decode cX2_init 4 = .ok (.aload_n 0, 1) := by decide +kernel
theorem dX2_init_5 : decode cX2_init 5 = .ok (.bipush 8, 2) := by decide +kernel
theorem dX2_init_7 : decode cX2_init 7 = .ok (.newarray .int, 2) := by decide +kernel
theorem dX2_init_9 : decode cX2_init 9 = .ok (.putfield 9, 3) := by decide +kernel
theorem dX2_init_12 : decode cX2_init 12 = .ok (.aload_n 0, 1) := by decide +kernel
theorem dX2_init_13 : decode cX2_init 13 = .ok (.iconst 0, 1) := by decide +kernel
theorem dX2_init_14 : decode cX2_init 14 = .ok (.putfield 15, 3) := by decide +kernel
theorem dX2_init_17 : decode cX2_init 17 = .ok (.aload_n 0, 1) := by decide +kernel
theorem dX2_init_18 : decode cX2_init 18 = .ok (.iconst 0, 1) := by decide +kernel
theorem dX2_init_19 : decode cX2_init 19 = .ok (.putfield 19, 3) := by decide +kernel
theorem dX2_init_22 : decode cX2_init 22 = .ok (.aload_n 0, 1) := by decide +kernel
theorem dX2_init_23 : decode cX2_init 23 = .ok (.bipush 60, 2) := by decide +kernel
theorem dX2_init_25 : decode cX2_init 25 = .ok (.newarray .int, 2) := by decide +kernel
theorem dX2_init_27 : decode cX2_init 27 = .ok (.putfield 22, 3) := by decide +kernel
theorem dX2_init_30 : decode cX2_init 30 = .ok (.aload_n 0, 1) := by decide +kernel
theorem dX2_init_31 : decode cX2_init 31 = .ok (.bipush 60, 2) := by decide +kernel
theorem dX2_init_33 : decode cX2_init 33 = .ok (.newarray .int, 2) := by decide +kernel
theorem dX2_init_35 : decode cX2_init 35 = .ok (.putfield 25, 3) := by decide +kernel
theorem dX2_init_38 : decode cX2_init 38 = .ok (.aload_n 0, 1) := by decide +kernel
theorem dX2_init_39 : decode cX2_init 39 = .ok (.bipush 60, 2) := by decide +kernel
theorem dX2_init_41 : decode cX2_init 41 = .ok (.newarray .int, 2) := by decide +kernel
theorem dX2_init_43 : decode cX2_init 43 = .ok (.putfield 28, 3) := by decide +kernel
theorem dX2_init_46 : decode cX2_init 46 = .ok (.aload_n 0, 1) := by decide +kernel
theorem dX2_init_47 : decode cX2_init 47 = .ok (.iconst 0, 1) := by decide +kernel
theorem dX2_init_48 : decode cX2_init 48 = .ok (.putfield 31, 3) := by decide +kernel
theorem dX2_init_51 : decode cX2_init 51 = .ok (.aload_n 0, 1) := by decide +kernel
theorem dX2_init_52 : decode cX2_init 52 = .ok (.bipush 6, 2) := by decide +kernel
theorem dX2_init_54 : decode cX2_init 54 = .ok (.newarray .int, 2) := by decide +kernel
theorem dX2_init_56 : decode cX2_init 56 = .ok (.putfield 34, 3) := by decide +kernel
theorem dX2_init_59 : decode cX2_init 59 = .ok (.aload_n 0, 1) := by decide +kernel
theorem dX2_init_60 : decode cX2_init 60 = .ok (.bipush 6, 2) := by decide +kernel
theorem dX2_init_62 : decode cX2_init 62 = .ok (.newarray .int, 2) := by decide +kernel
theorem dX2_init_64 : decode cX2_init 64 = .ok (.putfield 37, 3) := by decide +kernel
theorem dX2_init_67 : decode cX2_init 67 = .ok (.aload_n 0, 1) := by decide +kernel
theorem dX2_init_68 : decode cX2_init 68 = .ok (.bipush 6, 2) := by decide +kernel
theorem dX2_init_70 : decode cX2_init 70 = .ok (.newarray .int, 2) := by decide +kernel
theorem dX2_init_72 : decode cX2_init 72 = .ok (.putfield 40, 3) := by decide +kernel
theorem dX2_init_75 : decode cX2_init 75 = .ok (.aload_n 0, 1) := by decide +kernel
theorem dX2_init_76 : decode cX2_init 76 = .ok (.bipush 6, 2) := by decide +kernel
theorem dX2_init_78 : decode cX2_init 78 = .ok (.newarray .int, 2) := by decide +kernel
theorem dX2_init_80 : decode cX2_init 80 = .ok (.putfield 43, 3) := by decide +kernel
theorem dX2_init_83 : decode cX2_init 83 = .ok (.aload_n 0, 1) := by decide +kernel
theorem dX2_init_84 : decode cX2_init 84 = .ok (.iconst 0, 1) := by decide +kernel
theorem dX2_init_85 : decode cX2_init 85 = .ok (.putfield 46, 3) := by decide +kernel
theorem dX2_init_88 : decode cX2_init 88 = .ok (.aload_n 0, 1) := by decide +kernel
theorem dX2_init_89 : decode cX2_init 89 = .ok (.new 49, 3) := by decide +kernel
theorem dX2_init_92 : decode cX2_init 92 = .ok (.dup, 1) := by decide +kernel
theorem dX2_init_93 : decode cX2_init 93 = .ok (.invokespecial 51, 3) := by decide +kernel
theorem dX2_init_96 : decode cX2_init 96 = .ok (.putfield 52, 3) := by decide +kernel
theorem dX2_init_99 : decode cX2_init 99 = .ok (.aload_n 0, 1) := by decide +kernel
theorem dX2_init_100 : decode cX2_init 100 = .ok (.iconst 0, 1) := by decide +kernel
theorem dX2_init_101 : decode cX2_init 101 = .ok (.putfield 56, 3) := by decide +kernel
theorem dX2_init_104 : decode cX2_init 104 = .ok (.aload_n 0, 1) := by decide +kernel
theorem dX2_init_105 : decode cX2_init 105 = .ok (.iconst 0, 1) := by decide +kernel
theorem dX2_init_106 : decode cX2_init 106 = .ok (.putfield 60, 3) := by decide +kernel
theorem dX2_init_109 : decode cX2_init 109 = .ok (.aload_n 0, 1) := by decide +kernel
theorem dX2_init_110 : decode cX2_init 110 = .ok (.iload_n 1, 1) := by decide +kernel
theorem dX2_init_111 : decode cX2_init 111 = .ok (.putfield 63, 3) := by decide +kernel
theorem dX2_init_114 : decode cX2_init 114 = .ok (.return_, 1) := by decide +kernel
theorem dX2_setOperation_0 : decode cX2_setOperation 0 = .ok (.aload_n 0, 1) := by decide +kernel
theorem dX2_setOperation_1 : decode cX2_setOperation 1 = .ok (.getfield 22, 3) := by decide +kernel
theorem dX2_setOperation_4 : decode cX2_setOperation 4 = .ok (.iload_n 1, 1) := by decide +kernel
theorem dX2_setOperation_5 : decode cX2_setOperation 5 = .ok (.iload_n 2, 1) := by decide +kernel
theorem dX2_setOperation_6 : decode cX2_setOperation 6 = .ok (.iastore, 1) := by decide +kernel
theorem dX2_setOperation_7 : decode cX2_setOperation 7 = .ok (.aload_n 0, 1) := by decide +kernel
theorem dX2_setOperation_8 : decode cX2_setOperation 8 = .ok (.getfield 25, 3) := by decide +kernel
theorem dX2_setOperation_11 : decode cX2_setOperation 11 = .ok (.iload_n 1, 1) := by decide +kernel
theorem dX2_setOperation_12 : decode cX2_setOperation 12 = .ok (.iload_n 3, 1) := by decide +kernel
theorem dX2_setOperation_13 : decode cX2_setOperation 13 = .ok (.iastore, 1) := by decide +kernel
theorem dX2_setOperation_14 : decode cX2_setOperation 14 = .ok (.aload_n 0, 1) := by decide +kernel
theorem dX2_setOperation_15 : decode cX2_setOperation 15 = .ok (.getfield 28, 3) := by decide +kernel
theorem dX2_setOperation_18 : decode cX2_setOperation 18 = .ok (.iload_n 1, 1) := by decide +kernel
theorem dX2_setOperation_19 : decode cX2_setOperation 19 = .ok (.iload 4, 2) := by decide +kernel
theorem dX2_setOperation_21 : decode cX2_setOperation 21 = .ok (.iastore, 1) := by decide +kernel
theorem dX2_setOperation_22 : decode cX2_setOperation 22 = .ok (.return_, 1) := by decide +kernel
theorem dX3_calculateInt_0 : decode cX3_calculateInt 0 = .ok (.iload_n 0, 1) := by decide +kernel
theorem dX3_calculateInt_1 : decode cX3_calculateInt 1 = .ok (.tableswitch 119 0 10 #[59, 63, 67, 71, 83, 95, 99, 103, 107, 111, 115], 59) := by decide +kernel
theorem dX3_calculateInt_60 : decode cX3_calculateInt 60 = .ok (.iload_n 1, 1) := by decide +kernel
theorem dX3_calculateInt_61 : decode cX3_calculateInt 61 = .ok (.iload_n 2, 1) := by decide +kernel
theorem dX3_calculateInt_62 : decode cX3_calculateInt 62 = .ok (.iadd, 1) := by decide +kernel
theorem dX3_calculateInt_63 : decode cX3_calculateInt 63 = .ok (.ireturn, 1) := by decide +kernel
theorem dX3_calculateInt_64 : decode cX3_calculateInt 64 = .ok (.iload_n 1, 1) := by decide +kernel
theorem dX3_calculateInt_65 : decode cX3_calculateInt 65 = .ok (.iload_n 2, 1) := by decide +kernel
theorem dX3_calculateInt_66 : decode cX3_calculateInt 66 = .ok (.isub, 1) := by decide +kernel
theorem dX3_calculateInt_67 : decode cX3_calculateInt 67 = .ok (.ireturn, 1) := by decide +kernel
theorem dX3_calculateInt_68 : decode cX3_calculateInt 68 = .ok (.iload_n 1, 1) := by decide +kernel
theorem dX3_calculateInt_69 : decode cX3_calculateInt 69 = .ok (.iload_n 2, 1) := by decide +kernel
theorem dX3_calculateInt_70 : decode cX3_calculateInt 70 = .ok (.imul, 1) := by decide +kernel
theorem dX3_calculateInt_71 : decode cX3_calculateInt 71 = .ok (.ireturn, 1) := by decide +kernel
theorem dX3_calculateInt_72 : decode cX3_calculateInt 72 = .ok (.iload_n 2, 1) := by decide +kernel
theorem dX3_calculateInt_73 : decode cX3_calculateInt 73 = .ok (.ifCond .ne 7, 3) := by decide +kernel
theorem dX3_calculateInt_76 : decode cX3_calculateInt 76 = .ok (.iconst 0, 1) := by decide +kernel
theorem dX3_calculateInt_77 : decode cX3_calculateInt 77 = .ok (.goto 6, 3) := by decide +kernel
theorem dX3_calculateInt_80 : decode cX3_calculateInt 80 = .ok (.iload_n 1, 1) := by decide +kernel
theorem dX3_calculateInt_81 : decode cX3_calculateInt 81 = .ok (.iload_n 2, 1) := by decide +kernel
theorem dX3_calculateInt_82 : decode cX3_calculateInt 82 = .ok (.idiv, 1) := by decide +kernel
theorem dX3_calculateInt_83 : decode cX3_calculateInt 83 = .ok (.ireturn, 1) := by decide +kernel
theorem dX3_calculateInt_84 : decode cX3_calculateInt 84 = .ok (.iload_n 2, 1) := by decide +kernel
theorem dX3_calculateInt_85 : decode cX3_calculateInt 85 = .ok (.ifCond .ne 7, 3) := by decide +kernel
theorem dX3_calculateInt_88 : decode cX3_calculateInt 88 = .ok (.iconst 0, 1) := by decide +kernel
theorem dX3_calculateInt_89 : decode cX3_calculateInt 89 = .ok (.goto 6, 3) := by decide +kernel
theorem dX3_calculateInt_92 : decode cX3_calculateInt 92 = .ok (.iload_n 1, 1) := by decide +kernel
theorem dX3_calculateInt_93 : decode cX3_calculateInt 93 = .ok (.iload_n 2, 1) := by decide +kernel
theorem dX3_calculateInt_94 : decode cX3_calculateInt 94 = .ok (.irem, 1) := by decide +kernel
theorem dX3_calculateInt_95 : decode cX3_calculateInt 95 = .ok (.ireturn, 1) := by decide +kernel
theorem dX3_calculateInt_96 : decode cX3_calculateInt 96 = .ok (.iload_n 1, 1) := by decide +kernel
theorem dX3_calculateInt_97 : decode cX3_calculateInt 97 = .ok (.iload_n 2, 1) := by decide +kernel
theorem dX3_calculateInt_98 : decode cX3_calculateInt 98 = .ok (.iand, 1) := by decide +kernel
theorem dX3_calculateInt_99 : decode cX3_calculateInt 99 = .ok (.ireturn, 1) := by decide +kernel
theorem dX3_calculateInt_100 : decode cX3_calculateInt 100 = .ok (.iload_n 1, 1) := by decide +kernel
theorem dX3_calculateInt_101 : decode cX3_calculateInt 101 = .ok (.iload_n 2, 1) := by decide +kernel
theorem dX3_calculateInt_102 : decode cX3_calculateInt 102 = .ok (.ior, 1) := by decide +kernel
theorem dX3_calculateInt_103 : decode cX3_calculateInt 103 = .ok (.ireturn, 1) := by decide +kernel
theorem dX3_calculateInt_104 : decode cX3_calculateInt 104 = .ok (.iload_n 1, 1) := by decide +kernel
theorem dX3_calculateInt_105 : decode cX3_calculateInt 105 = .ok (.iload_n 2, 1) := by decide +kernel
theorem dX3_calculateInt_106 : decode cX3_calculateInt 106 = .ok (.ixor, 1) := by decide +kernel
theorem dX3_calculateInt_107 : decode cX3_calculateInt 107 = .ok (.ireturn, 1) := by decide +kernel
theorem dX3_calculateInt_108 : decode cX3_calculateInt 108 = .ok (.iload_n 1, 1) := by decide +kernel
theorem dX3_calculateInt_109 : decode cX3_calculateInt 109 = .ok (.iload_n 2, 1) := by decide +kernel
theorem dX3_calculateInt_110 : decode cX3_calculateInt 110 = .ok (.ishl, 1) := by decide +kernel
theorem dX3_calculateInt_111 : decode cX3_calculateInt 111 = .ok (.ireturn, 1) := by decide +kernel
theorem dX3_calculateInt_112 : decode cX3_calculateInt 112 = .ok (.iload_n 1, 1) := by decide +kernel
theorem dX3_calculateInt_113 : decode cX3_calculateInt 113 = .ok (.iload_n 2, 1) := by decide +kernel
theorem dX3_calculateInt_114 : decode cX3_calculateInt 114 = .ok (.ishr, 1) := by decide +kernel
theorem dX3_calculateInt_115 : decode cX3_calculateInt 115 = .ok (.ireturn, 1) := by decide +kernel
theorem dX3_calculateInt_116 : decode cX3_calculateInt 116 = .ok (.iload_n 1, 1) := by decide +kernel
theorem dX3_calculateInt_117 : decode cX3_calculateInt 117 = .ok (.iload_n 2, 1) := by decide +kernel
theorem dX3_calculateInt_118 : decode cX3_calculateInt 118 = .ok (.iushr, 1) := by decide +kernel
theorem dX3_calculateInt_119 : decode cX3_calculateInt 119 = .ok (.ireturn, 1) := by decide +kernel
theorem dX3_calculateInt_120 : decode cX3_calculateInt 120 = .ok (.iload_n 1, 1) := by decide +kernel
theorem dX3_calculateInt_121 : decode cX3_calculateInt 121 = .ok (.ineg, 1) := by decide +kernel
theorem dX3_calculateInt_122 : decode cX3_calculateInt 122 = .ok (.ireturn, 1) := by decide +kernel
theorem dX3_calculateLong_0 : decode cX3_calculateLong 0 = .ok (.iload_n 0, 1) := by decide +kernel
theorem dX3_calculateLong_1 : decode cX3_calculateLong 1 = .ok (.tableswitch 126 0 10 #[59, 63, 67, 71, 85, 99, 103, 107, 111, 116, 121], 59) := by decide +kernel
theorem dX3_calculateLong_60 : decode cX3_calculateLong 60 = .ok (.lload_n 1, 1) := by decide +kernel
theorem dX3_calculateLong_61 : decode cX3_calculateLong 61 = .ok (.lload_n 3, 1) := by decide +kernel
theorem dX3_calculateLong_62 : decode cX3_calculateLong 62 = .ok (.ladd, 1) := by decide +kernel
theorem dX3_calculateLong_63 : decode cX3_calculateLong 63 = .ok (.lreturn, 1) := by decide +kernel
theorem dX3_calculateLong_64 : decode cX3_calculateLong 64 = .ok (.lload_n 1, 1) := by decide +kernel
theorem dX3_calculateLong_65 : decode cX3_calculateLong 65 = .ok (.lload_n 3, 1) := by decide +kernel
theorem dX3_calculateLong_66 : decode cX3_calculateLong 66 = .ok (.lsub, 1) := by decide +kernel
theorem dX3_calculateLong_67 : decode cX3_calculateLong 67 = .ok (.lreturn, 1) := by decide +kernel
theorem dX3_calculateLong_68 : decode cX3_calculateLong 68 = .ok (.lload_n 1, 1) := by decide +kernel
theorem dX3_calculateLong_69 : decode cX3_calculateLong 69 = .ok (.lload_n 3, 1) := by decide +kernel
theorem dX3_calculateLong_70 : decode cX3_calculateLong 70 = .ok (.lmul, 1) := by decide +kernel
theorem dX3_calculateLong_71 : decode cX3_calculateLong 71 = .ok (.lreturn, 1) := by decide +kernel
theorem dX3_calculateLong_72 : decode cX3_calculateLong 72 = .ok (.lload_n 3, 1) := by decide +kernel
theorem dX3_calculateLong_73 : decode cX3_calculateLong 73 = .ok (.lconst 0, 1) := by decide +kernel
theorem dX3_calculateLong_74 : decode cX3_calculateLong 74 = .ok (.lcmp, 1) := by decide +kernel
theorem dX3_calculateLong_75 : decode cX3_calculateLong 75 = .ok (.ifCond .ne 7, 3) := by decide +kernel
theorem dX3_calculateLong_78 : decode cX3_calculateLong 78 = .ok (.lconst 0, 1) := by decide +kernel
theorem dX3_calculateLong_79 : decode cX3_calculateLong 79 = .ok (.goto 6, 3) := by decide +kernel
theorem dX3_calculateLong_82 : decode cX3_calculateLong 82 = .ok (.lload_n 1, 1) := by decide +kernel
theorem dX3_calculateLong_83 : decode cX3_calculateLong 83 = .ok (.lload_n 3, 1) := by decide +kernel
theorem dX3_calculateLong_84 : decode cX3_calculateLong 84 = .ok (.ldiv, 1) := by decide +kernel
theorem dX3_calculateLong_85 : decode cX3_calculateLong 85 = .ok (.lreturn, 1) := by decide +kernel
theorem dX3_calculateLong_86 : decode cX3_calculateLong 86 = .ok (.lload_n 3, 1) := by decide +kernel
theorem dX3_calculateLong_87 : decode cX3_calculateLong 87 = .ok (.lconst 0, 1) := by decide +kernel
theorem dX3_calculateLong_88 : decode cX3_calculateLong 88 = .ok (.lcmp, 1) := by decide +kernel
theorem dX3_calculateLong_89 : decode cX3_calculateLong 89 = .ok (.ifCond .ne 7, 3) := by decide +kernel
theorem dX3_calculateLong_92 : decode cX3_calculateLong 92 = .ok (.lconst 0, 1) := by decide +kernel
theorem dX3_calculateLong_93 : decode cX3_calculateLong 93 = .ok (.goto 6, 3) := by decide +kernel
theorem dX3_calculateLong_96 : decode cX3_calculateLong 96 = .ok (.lload_n 1, 1) := by decide +kernel
theorem dX3_calculateLong_97 : decode cX3_calculateLong 97 = .ok (.lload_n 3, 1) := by decide +kernel
theorem dX3_calculateLong_98 : decode cX3_calculateLong 98 = .ok (.lrem, 1) := by decide +kernel
theorem dX3_calculateLong_99 : decode cX3_calculateLong 99 = .ok (.lreturn, 1) := by decide +kernel
theorem dX3_calculateLong_100 : decode cX3_calculateLong 100 = .ok (.lload_n 1, 1) := by decide +kernel
theorem dX3_calculateLong_101 : decode cX3_calculateLong 101 = .ok (.lload_n 3, 1) := by decide +kernel
theorem dX3_calculateLong_102 : decode cX3_calculateLong 102 = .ok (.land, 1) := by decide +kernel
theorem dX3_calculateLong_103 : decode cX3_calculateLong 103 = .ok (.lreturn, 1) := by decide +kernel
theorem dX3_calculateLong_104 : decode cX3_calculateLong 104 = .ok (.lload_n 1, 1) := by decide +kernel
theorem dX3_calculateLong_105 : decode cX3_calculateLong 105 = .ok (.lload_n 3, 1) := by decide +kernel
theorem dX3_calculateLong_106 : decode cX3_calculateLong 106 = .ok (.lor, 1) := by decide +kernel
theorem dX3_calculateLong_107 : decode cX3_calculateLong 107 = .ok (.lreturn, 1) := by decide +kernel
theorem dX3_calculateLong_108 : decode cX3_calculateLong 108 = .ok (.lload_n 1, 1) := by decide +kernel
theorem dX3_calculateLong_109 : decode cX3_calculateLong 109 = .ok (.lload_n 3, 1) := by decide +kernel
theorem dX3_calculateLong_110 : decode cX3_calculateLong 110 = .ok (.lxor, 1) := by decide +kernel
theorem dX3_calculateLong_111 : decode cX3_calculateLong 111 = .ok (.lreturn, 1) := by decide +kernel
theorem dX3_calculateLong_112 : decode cX3_calculateLong 112 = .ok (.lload_n 1, 1) := by decide +kernel
theorem dX3_calculateLong_113 : decode cX3_calculateLong 113 = .ok (.lload_n 3, 1) := by decide +kernel
theorem dX3_calculateLong_114 : decode cX3_calculateLong 114 = .ok (.l2i, 1) := by decide +kernel
theorem dX3_calculateLong_115 : decode cX3_calculateLong 115 = .ok (.lshl, 1) := by decide +kernel
theorem dX3_calculateLong_116 : decode cX3_calculateLong 116 = .ok (.lreturn, 1) := by decide +kernel
theorem dX3_calculateLong_117 : decode cX3_calculateLong 117 = .ok (.lload_n 1, 1) := by decide +kernel
theorem dX3_calculateLong_118 : decode cX3_calculateLong 118 = .ok (.lload_n 3, 1) := by decide +kernel
theorem dX3_calculateLong_119 : decode cX3_calculateLong 119 = .ok (.l2i, 1) := by decide +kernel
theorem dX3_calculateLong_120 : decode cX3_calculateLong 120 = .ok (.lshr, 1) := by decide +kernel
theorem dX3_calculateLong_121 : decode cX3_calculateLong 121 = .ok (.lreturn, 1) := by decide +kernel
theorem dX3_calculateLong_122 : decode cX3_calculateLong 122 = .ok (.lload_n 1, 1) := by decide +kernel
theorem dX3_calculateLong_123 : decode cX3_calculateLong 123 = .ok (.lload_n 3, 1) := by decide +kernel
theorem dX3_calculateLong_124 : decode cX3_calculateLong 124 = .ok (.l2i, 1) := by decide +kernel
theorem dX3_calculateLong_125 : decode cX3_calculateLong 125 = .ok (.lushr, 1) := by decide +kernel
theorem dX3_calculateLong_126 : decode cX3_calculateLong 126 = .ok (.lreturn, 1) := by decide +kernel
theorem dX3_calculateLong_127 : decode cX3_calculateLong 127 = .ok (.lload_n 1, 1) := by decide +kernel
theorem dX3_calculateLong_128 : decode cX3_calculateLong 128 = .ok (.lneg, 1) := by decide +kernel
theorem dX3_calculateLong_129 : decode cX3_calculateLong 129 = .ok (.lreturn, 1) := by decide +kernel
theorem dX3_order_0 : decode cX3_order 0 = .ok (.lload_n 0, 1) := by decide +kernel
theorem dX3_order_1 : decode cX3_order 1 = .ok (.lload_n 2, 1) := by decide +kernel
theorem dX3_order_2 : decode cX3_order 2 = .ok (.lcmp, 1) := by decide +kernel
theorem dX3_order_3 : decode cX3_order 3 = .ok (.ifCond .ne 5, 3) := by decide +kernel
theorem dX3_order_6 : decode cX3_order 6 = .ok (.iconst 0, 1) := by decide +kernel
theorem dX3_order_7 : decode cX3_order 7 = .ok (.ireturn, 1) := by decide +kernel
theorem dX3_order_8 : decode cX3_order 8 = .ok (.lload_n 0, 1) := by decide +kernel
theorem dX3_order_9 : decode cX3_order 9 = .ok (.lload_n 2, 1) := by decide +kernel
theorem dX3_order_10 : decode cX3_order 10 = .ok (.lcmp, 1) := by decide +kernel
theorem dX3_order_11 : decode cX3_order 11 = .ok (.ifCond .ge 7, 3) := by decide +kernel
theorem dX3_order_14 : decode cX3_order 14 = .ok (.iconst (-1), 1) := by decide +kernel
theorem dX3_order_15 : decode cX3_order 15 = .ok (.goto 4, 3) := by decide +kernel
theorem dX3_order_18 : decode cX3_order 18 = .ok (.iconst 1, 1) := by decide +kernel
theorem dX3_order_19 : decode cX3_order 19 = .ok (.ireturn, 1) := by decide +kernel
