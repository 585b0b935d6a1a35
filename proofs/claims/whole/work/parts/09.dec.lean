theorem dX0_init_0 : decode cX0_init 0 = .ok (.aload_n 0, 1) := by decide +kernel
theorem dX0_init_1 : decode cX0_init 1 = .ok (.invokespecial 1, 3) := by decide +kernel
theorem dX0_init_4 : decode cX0_init 4 = .ok (.aload_n 0, 1) := by decide +kernel
theorem dX0_init_5 : decode cX0_init 5 = .ok (.iload_n 1, 1) := by decide +kernel
theorem dX0_init_6 : decode cX0_init 6 = .ok (.putfield 7, 3) := by decide +kernel
theorem dX0_init_9 : decode cX0_init 9 = .ok (.return_, 1) := by decide +kernel
theorem dX0_paceUnder_0 : decode cX0_paceUnder 0 = .ok (.aload_n 0, 1) := by decide +kernel
theorem dX0_paceUnder_1 : decode cX0_paceUnder 1 = .ok (.getfield 13, 3) := by decide +kernel
theorem dX0_paceUnder_4 : decode cX0_paceUnder 4 = .ok (.iload_n 1, 1) := by decide +kernel
theorem dX0_paceUnder_5 : decode cX0_paceUnder 5 = .ok (.if_icmp .ge 10, 3) := by decide +kernel
theorem dX0_paceUnder_8 : decode cX0_paceUnder 8 = .ok (.aload_n 0, 1) := by decide +kernel
theorem dX0_paceUnder_9 : decode cX0_paceUnder 9 = .ok (.getfield 7, 3) := by decide +kernel
theorem dX0_paceUnder_12 : decode cX0_paceUnder 12 = .ok (.goto 11, 3) := by decide +kernel
theorem dX0_paceUnder_15 : decode cX0_paceUnder 15 = .ok (.aload_n 0, 1) := by decide +kernel
theorem dX0_paceUnder_16 : decode cX0_paceUnder 16 = .ok (.getfield 7, 3) := by decide +kernel
theorem dX0_paceUnder_19 : decode cX0_paceUnder 19 = .ok (.iconst 1, 1) := by decide +kernel
theorem dX0_paceUnder_20 : decode cX0_paceUnder 20 = .ok (.iadd, 1) := by decide +kernel
theorem dX0_paceUnder_21 : decode cX0_paceUnder 21 = .ok (.iconst 2, 1) := by decide +kernel
theorem dX0_paceUnder_22 : decode cX0_paceUnder 22 = .ok (.idiv, 1) := by decide +kernel
theorem dX0_paceUnder_23 : decode cX0_paceUnder 23 = .ok (.ireturn, 1) := by decide +kernel
theorem dX1_init_0 : decode cX1_init 0 = .ok (.aload_n 0, 1) := by decide +kernel
theorem dX1_init_1 : decode cX1_init 1 = .ok (.invokespecial 1, 3) := by decide +kernel
theorem dX1_init_4 : decode cX1_init 4 = .ok (.aload_n 0, 1) := by decide +kernel
theorem dX1_init_5 : decode cX1_init 5 = .ok (.iload_n 1, 1) := by decide +kernel
theorem dX1_init_6 : decode cX1_init 6 = .ok (.putfield 7, 3) := by decide +kernel
theorem dX1_init_9 : decode cX1_init 9 = .ok (.aload_n 0, 1) := by decide +kernel
theorem dX1_init_10 : decode cX1_init 10 = .ok (.aload_n 2, 1) := by decide +kernel
theorem dX1_init_11 : decode cX1_init 11 = .ok (.putfield 13, 3) := by decide +kernel
theorem dX1_init_14 : decode cX1_init 14 = .ok (.aload_n 0, 1) := by decide +kernel
theorem dX1_init_15 : decode cX1_init 15 = .ok (.iload_n 3, 1) := by decide +kernel
theorem dX1_init_16 : decode cX1_init 16 = .ok (.putfield 17, 3) := by decide +kernel
theorem dX1_init_19 : decode cX1_init 19 = .ok (.aload_n 0, 1) := by decide +kernel
theorem dX1_init_20 : decode cX1_init 20 = .ok (.lload 4, 2) := by decide +kernel
theorem dX1_init_22 : decode cX1_init 22 = .ok (.putfield 20, 3) := by decide +kernel
theorem dX1_init_25 : decode cX1_init 25 = .ok (.return_, 1) := by decide +kernel
theorem dX2_init_0 : decode cX2_init 0 = .ok (.aload_n 0, 1) := by decide +kernel
theorem dX2_init_1 : decode cX2_init 1 = .ok (.invokespecial 1, 3) := by decide +kernel
theorem dX2_init_4 : decode cX2_init 4 = .ok (.aload_n 0, 1) := by decide +kernel
theorem dX2_init_5 : decode cX2_init 5 = .ok (.new 7, 3) := by decide +kernel
theorem dX2_init_8 : decode cX2_init 8 = .ok (.dup, 1) := by decide +kernel
theorem dX2_init_9 : decode cX2_init 9 = .ok (.invokespecial 9, 3) := by decide +kernel
theorem dX2_init_12 : decode cX2_init 12 = .ok (.putfield 10, 3) := by decide +kernel
theorem dX2_init_15 : decode cX2_init 15 = .ok (.return_, 1) := by decide +kernel
theorem dX3_init_0 : decode cX3_init 0 = .ok (.aload_n 0, 1) := by decide +kernel
theorem dX3_init_1 : decode cX3_init 1 = .ok (.invokespecial 3, 3) := by decide +kernel
theorem dX3_init_4 : decode cX3_init 4 = .ok (.aload_n 0, 1) := by decide +kernel
theorem dX3_init_5 : decode cX3_init 5 = .ok (.iload_n 1, 1) := by decide +kernel
theorem dX3_init_6 : decode cX3_init 6 = .ok (.putfield 9, 3) := by decide +kernel
theorem dX3_init_9 : decode cX3_init 9 = .ok (.aload_n 0, 1) := by decide +kernel
theorem dX3_init_10 : decode cX3_init 10 = .ok (.aload_n 2, 1) := by decide +kernel
theorem dX3_init_11 : decode cX3_init 11 = .ok (.putfield 15, 3) := by decide +kernel
theorem dX3_init_14 : decode cX3_init 14 = .ok (.aload_n 0, 1) := by decide +kernel
theorem dX3_init_15 : decode cX3_init 15 = .ok (.iload_n 3, 1) := by decide +kernel
theorem dX3_init_16 : decode cX3_init 16 = .ok (.putfield 19, 3) := by decide +kernel
theorem dX3_init_19 : decode cX3_init 19 = .ok (.aload_n 0, 1) := by decide +kernel
theorem dX3_init_20 : decode cX3_init 20 = .ok (.lload 4, 2) := by decide +kernel
theorem dX3_init_22 : decode cX3_init 22 = .ok (.putfield 22, 3) := by decide +kernel
theorem dX3_init_25 : decode cX3_init 25 = .ok (.aload_n 0, 1) := by decide +kernel
theorem dX3_init_26 : decode cX3_init 26 = .ok (.iload 6, 2) := by decide +kernel
theorem dX3_init_28 : decode cX3_init 28 = .ok (.putfield 26, 3) := by decide +kernel
theorem dX3_init_31 : decode cX3_init 31 = .ok (.return_, 1) := by decide +kernel
theorem dX3_isTimed_0 : decode cX3_isTimed 0 = .ok (.aload_n 0, 1) := by decide +kernel
theorem dX3_isTimed_1 : decode cX3_isTimed 1 = .ok (.getfield 29, 3) := by decide +kernel
theorem dX3_isTimed_4 : decode cX3_isTimed 4 = .ok (.ifCond .le 7, 3) := by decide +kernel
theorem dX3_isTimed_7 : decode cX3_isTimed 7 = .ok (.iconst 1, 1) := by decide +kernel
theorem dX3_isTimed_8 : decode cX3_isTimed 8 = .ok (.goto 4, 3) := by decide +kernel
theorem dX3_isTimed_11 : decode cX3_isTimed 11 = .ok (.iconst 0, 1) := by decide +kernel
theorem dX3_isTimed_12 : decode cX3_isTimed 12 = .ok (.ireturn, 1) := by decide +kernel
theorem dX3_isReady_0 : decode cX3_isReady 0 = .ok (.aload_n 0, 1) := by decide +kernel
theorem dX3_isReady_1 : decode cX3_isReady 1 = .ok (.getfield 32, 3) := by decide +kernel
theorem dX3_isReady_4 : decode cX3_isReady 4 = .ok (.ifCond .ne 21, 3) := by decide +kernel
theorem dX3_isReady_7 : decode cX3_isReady 7 = .ok (.aload_n 0, 1) := by decide +kernel
theorem dX3_isReady_8 : decode cX3_isReady 8 = .ok (.getfield 36, 3) := by decide +kernel
theorem dX3_isReady_11 : decode cX3_isReady 11 = .ok (.ifnonnull 14, 3) := by decide +kernel
theorem dX3_isReady_14 : decode cX3_isReady 14 = .ok (.aload_n 0, 1) := by decide +kernel
theorem dX3_isReady_15 : decode cX3_isReady 15 = .ok (.getfield 26, 3) := by decide +kernel
theorem dX3_isReady_18 : decode cX3_isReady 18 = .ok (.ifCond .le 7, 3) := by decide +kernel
theorem dX3_isReady_21 : decode cX3_isReady 21 = .ok (.iconst 1, 1) := by decide +kernel
theorem dX3_isReady_22 : decode cX3_isReady 22 = .ok (.goto 4, 3) := by decide +kernel
theorem dX3_isReady_25 : decode cX3_isReady 25 = .ok (.iconst 0, 1) := by decide +kernel
theorem dX3_isReady_26 : decode cX3_isReady 26 = .ok (.ireturn, 1) := by decide +kernel
theorem dX3_ownUrgency_0 : decode cX3_ownUrgency 0 = .ok (.aload_n 0, 1) := by decide +kernel
theorem dX3_ownUrgency_1 : decode cX3_ownUrgency 1 = .ok (.invokevirtual 40, 3) := by decide +kernel
theorem dX3_ownUrgency_4 : decode cX3_ownUrgency 4 = .ok (.ifCond .eq 17, 3) := by decide +kernel
theorem dX3_ownUrgency_7 : decode cX3_ownUrgency 7 = .ok (.aload_n 0, 1) := by decide +kernel
theorem dX3_ownUrgency_8 : decode cX3_ownUrgency 8 = .ok (.getfield 26, 3) := by decide +kernel
theorem dX3_ownUrgency_11 : decode cX3_ownUrgency 11 = .ok (.ifCond .le 10, 3) := by decide +kernel
theorem dX3_ownUrgency_14 : decode cX3_ownUrgency 14 = .ok (.aload_n 0, 1) := by decide +kernel
theorem dX3_ownUrgency_15 : decode cX3_ownUrgency 15 = .ok (.getfield 44, 3) := by decide +kernel
theorem dX3_ownUrgency_18 : decode cX3_ownUrgency 18 = .ok (.goto 5, 3) := by decide +kernel
theorem dX3_ownUrgency_21 : decode cX3_ownUrgency 21 = .ok (.ldc 47, 2) := by decide +kernel
theorem dX3_ownUrgency_23 : decode cX3_ownUrgency 23 = .ok (.ireturn, 1) := by decide +kernel
theorem dX4_init_0 : decode cX4_init 0 = .ok (.aload_n 0, 1) := by decide +kernel
theorem dX4_init_1 : decode cX4_init 1 = .ok (.invokespecial 3, 3) := by decide +kernel
theorem dX4_init_4 : decode cX4_init 4 = .ok (.aload_n 0, 1) := by decide +kernel
theorem dX4_init_5 : decode cX4_init 5 = .ok (.new 9, 3) := by decide +kernel
theorem dX4_init_8 : decode cX4_init 8 = .ok (.dup, 1) := by decide +kernel
theorem dX4_init_9 : decode cX4_init 9 = .ok (.invokespecial 11, 3) := by decide +kernel
theorem dX4_init_12 : decode cX4_init 12 = .ok (.putfield 12, 3) := by decide +kernel
theorem dX4_init_15 : decode cX4_init 15 = .ok (.aload_n 0, 1) := by decide +kernel
theorem dX4_init_16 : decode cX4_init 16 = .ok (.new 9, 3) := by decide +kernel
theorem dX4_init_19 : decode cX4_init 19 = .ok (.dup, 1) := by decide +kernel
theorem dX4_init_20 : decode cX4_init 20 = .ok (.invokespecial 11, 3) := by decide +kernel
theorem dX4_init_23 : decode cX4_init 23 = .ok (.putfield 18, 3) := by decide +kernel
theorem dX4_init_26 : decode cX4_init 26 = .ok (.aload_n 0, 1) := by decide +kernel
theorem dX4_init_27 : decode cX4_init 27 = .ok (.new 9, 3) := by decide +kernel
theorem dX4_init_30 : decode cX4_init 30 = .ok (.dup, 1) := by decide +kernel
theorem dX4_init_31 : decode cX4_init 31 = .ok (.invokespecial 11, 3) := by decide +kernel
theorem dX4_init_34 : decode cX4_init 34 = .ok (.putfield 21, 3) := by decide +kernel
theorem dX4_init_37 : decode cX4_init 37 = .ok (.aload_n 0, 1) := by decide +kernel
theorem dX4_init_38 : decode cX4_init 38 = .ok (.new 9, 3) := by decide +kernel
theorem dX4_init_41 : decode cX4_init 41 = .ok (.dup, 1) := by decide +kernel
theorem dX4_init_42 : decode cX4_init 42 = .ok (.invokespecial 11, 3) := by decide +kernel
theorem dX4_init_45 : decode cX4_init 45 = .ok (.putfield 24, 3) := by decide +kernel
theorem dX4_init_48 : decode cX4_init 48 = .ok (.aload_n 0, 1) := by decide +kernel
theorem dX4_init_49 : decode cX4_init 49 = .ok (.new 27, 3) := by decide +kernel
theorem dX4_init_52 : decode cX4_init 52 = .ok (.dup, 1) := by decide +kernel
theorem dX4_init_53 : decode cX4_init 53 = .ok (.iconst 0, 1) := by decide +kernel
theorem dX4_init_54 : decode cX4_init 54 = .ok (.aconst_null, 1) := by decide +kernel
theorem dX4_init_55 : decode cX4_init 55 = .ok (.iconst 0, 1) := by decide +kernel
theorem dX4_init_56 : decode cX4_init 56 = .ok (.lconst 0, 1) := by decide +kernel
theorem dX4_init_57 : decode cX4_init 57 = .ok (.invokespecial 29, 3) := by decide +kernel
theorem dX4_init_60 : decode cX4_init 60 = .ok (.putfield 32, 3) := by decide +kernel
theorem dX4_init_63 : decode cX4_init 63 = .ok (.aload_n 0, 1) := by decide +kernel
theorem dX4_init_64 : decode cX4_init 64 = .ok (.bipush 50, 2) := by decide +kernel
theorem dX4_init_66 : decode cX4_init 66 = .ok (.putfield 36, 3) := by decide +kernel
theorem dX4_init_69 : decode cX4_init 69 = .ok (.aload_n 0, 1) := by decide +kernel
theorem dX4_init_70 : decode cX4_init 70 = .ok (.bipush 12, 2) := by decide +kernel
theorem dX4_init_72 : decode cX4_init 72 = .ok (.putfield 40, 3) := by decide +kernel
theorem dX4_init_75 : decode cX4_init 75 = .ok (.aload_n 0, 1) := by decide +kernel
theorem dX4_init_76 : decode cX4_init 76 = .ok (.iconst 0, 1) := by decide +kernel
theorem dX4_init_77 : decode cX4_init 77 = .ok (.putfield 43, 3) := by decide +kernel
theorem dX4_init_80 : decode cX4_init 80 = .ok (.aload_n 0, 1) := by decide +kernel
theorem dX4_init_81 : decode cX4_init 81 = .ok (.iconst 0, 1) := by decide +kernel
theorem dX4_init_82 : decode cX4_init 82 = .ok (.putfield 46, 3) := by decide +kernel
theorem dX4_init_85 : decode cX4_init 85 = .ok (.aload_n 0, 1) := by decide +kernel
theorem dX4_init_86 : decode cX4_init 86 = .ok (.iconst 0, 1) := by decide +kernel
theorem dX4_init_87 : decode cX4_init 87 = .ok (.putfield 49, 3) := by decide +kernel
theorem dX4_init_90 : decode cX4_init 90 = .ok (.aload_n 0, 1) := by decide +kernel
theorem dX4_init_91 : decode cX4_init 91 = .ok (.iconst 0, 1) := by decide +kernel
theorem dX4_init_92 : decode cX4_init 92 = .ok (.putfield 52, 3) := by decide +kernel
theorem dX4_init_95 : decode cX4_init 95 = .ok (.aload_n 0, 1) := by decide +kernel
theorem dX4_init_96 : decode cX4_init 96 = .ok (.getfield 18, 3) := by decide +kernel
theorem dX4_init_99 : decode cX4_init 99 = .ok (.aload_n 0, 1) := by decide +kernel
theorem dX4_init_100 : decode cX4_init 100 = .ok (.getfield 32, 3) := by decide +kernel
theorem dX4_init_103 : decode cX4_init 103 = .ok (.invokevirtual 55, 3) := by decide +kernel
theorem dX4_init_106 : decode cX4_init 106 = .ok (.pop, 1) := by decide +kernel
theorem dX4_init_107 : decode cX4_init 107 = .ok (.iconst 0, 1) := by decide +kernel
theorem dX4_init_108 : decode cX4_init 108 = .ok (.istore_n 1, 1) := by decide +kernel
theorem dX4_init_109 : decode cX4_init 109 = .ok (.iload_n 1, 1) := by decide +kernel
theorem dX4_init_110 : decode cX4_init 110 = .ok (.iconst 4, 1) := by decide +kernel
theorem dX4_init_111 : decode cX4_init 111 = .ok (.if_icmp .ge 24, 3) := by decide +kernel
theorem dX4_init_114 : decode cX4_init 114 = .ok (.aload_n 0, 1) := by decide +kernel
theorem dX4_init_115 : decode cX4_init 115 = .ok (.getfield 24, 3) := by decide +kernel
theorem dX4_init_118 : decode cX4_init 118 = .ok (.new 59, 3) := by decide +kernel
theorem dX4_init_121 : decode cX4_init 121 = .ok (.dup, 1) := by decide +kernel
theorem dX4_init_122 : decode cX4_init 122 = .ok (.invokespecial 61, 3) := by decide +kernel
theorem dX4_init_125 : decode cX4_init 125 = .ok (.invokevirtual 55, 3) := by decide +kernel
theorem dX4_init_128 : decode cX4_init 128 = .ok (.pop, 1) := by decide +kernel
theorem dX4_init_129 : decode cX4_init 129 = .ok (.iinc 1 1, 3) := by decide +kernel
theorem dX4_init_132 : decode cX4_init 132 = .ok (.goto (-23), 3) := by decide +kernel
theorem dX4_init_135 : decode cX4_init 135 = .ok (.return_, 1) := by decide +kernel
theorem dX4_addCore_0 : decode cX4_addCore 0 = .ok (.iload_n 1, 1) := by decide +kernel
theorem dX4_addCore_1 : decode cX4_addCore 1 = .ok (.iconst 1, 1) := by decide +kernel
theorem dX4_addCore_2 : decode cX4_addCore 2 = .ok (.if_icmp .lt 8, 3) := by decide +kernel
theorem dX4_addCore_5 : decode cX4_addCore 5 = .ok (.iload_n 1, 1) := by decide +kernel
theorem dX4_addCore_6 : decode cX4_addCore 6 = .ok (.iconst 4, 1) := by decide +kernel
theorem dX4_addCore_7 : decode cX4_addCore 7 = .ok (.if_icmp .le 13, 3) := by decide +kernel
theorem dX4_addCore_10 : decode cX4_addCore 10 = .ok (.new 62, 3) := by decide +kernel
theorem dX4_addCore_13 : decode cX4_addCore 13 = .ok (.dup, 1) := by decide +kernel
theorem dX4_addCore_14 : decode cX4_addCore 14 = .ok (.ldc 64, 2) := by decide +kernel
theorem dX4_addCore_16 : decode cX4_addCore 16 = .ok (.invokespecial 66, 3) := by decide +kernel
theorem dX4_addCore_19 : decode cX4_addCore 19 = .ok (.athrow, 1) := by decide +kernel
theorem dX4_addCore_20 : decode cX4_addCore 20 = .ok (.aload_n 0, 1) := by decide +kernel
theorem dX4_addCore_21 : decode cX4_addCore 21 = .ok (.getfield 12, 3) := by decide +kernel
theorem dX4_addCore_24 : decode cX4_addCore 24 = .ok (.invokevirtual 69, 3) := by decide +kernel
theorem dX4_addCore_27 : decode cX4_addCore 27 = .ok (.istore_n 2, 1) := by decide +kernel
theorem dX4_addCore_28 : decode cX4_addCore 28 = .ok (.iload_n 2, 1) := by decide +kernel
theorem dX4_addCore_29 : decode cX4_addCore 29 = .ok (.iconst 3, 1) := by decide +kernel
theorem dX4_addCore_30 : decode cX4_addCore 30 = .ok (.if_icmp .lt 13, 3) := by decide +kernel
theorem dX4_addCore_33 : decode cX4_addCore 33 = .ok (.new 73, 3) := by decide +kernel
theorem dX4_addCore_36 : decode cX4_addCore 36 = .ok (.dup, 1) := by decide +kernel
theorem dX4_addCore_37 : decode cX4_addCore 37 = .ok (.ldc 75, 2) := by decide +kernel
theorem dX4_addCore_39 : decode cX4_addCore 39 = .ok (.invokespecial 77, 3) := by decide +kernel
theorem dX4_addCore_42 : decode cX4_addCore 42 = .ok (.athrow, 1) := by decide +kernel
theorem dX4_addCore_43 : decode cX4_addCore 43 = .ok (.aload_n 0, 1) := by decide +kernel
theorem dX4_addCore_44 : decode cX4_addCore 44 = .ok (.getfield 12, 3) := by decide +kernel
theorem dX4_addCore_47 : decode cX4_addCore 47 = .ok (.new 78, 3) := by decide +kernel
theorem dX4_addCore_50 : decode cX4_addCore 50 = .ok (.dup, 1) := by decide +kernel
theorem dX4_addCore_51 : decode cX4_addCore 51 = .ok (.iload_n 1, 1) := by decide +kernel
theorem dX4_addCore_52 : decode cX4_addCore 52 = .ok (.invokespecial 80, 3) := by decide +kernel
theorem dX4_addCore_55 : decode cX4_addCore 55 = .ok (.invokevirtual 55, 3) := by decide +kernel
theorem dX4_addCore_58 : decode cX4_addCore 58 = .ok (.pop, 1) := by decide +kernel
theorem dX4_addCore_59 : decode cX4_addCore 59 = .ok (.iload_n 2, 1) := by decide +kernel
theorem dX4_addCore_60 : decode cX4_addCore 60 = .ok (.ireturn, 1) := by decide +kernel
theorem dX4_setLimit_0 : decode cX4_setLimit 0 = .ok (.iload_n 1, 1) := by decide +kernel
theorem dX4_setLimit_1 : decode cX4_setLimit 1 = .ok (.iconst 1, 1) := by decide +kernel
theorem dX4_setLimit_2 : decode cX4_setLimit 2 = .ok (.if_icmp .lt 9, 3) := by decide +kernel
theorem dX4_setLimit_5 : decode cX4_setLimit 5 = .ok (.iload_n 1, 1) := by decide +kernel
theorem dX4_setLimit_6 : decode cX4_setLimit 6 = .ok (.bipush 99, 2) := by decide +kernel
theorem dX4_setLimit_8 : decode cX4_setLimit 8 = .ok (.if_icmp .le 13, 3) := by decide +kernel
theorem dX4_setLimit_11 : decode cX4_setLimit 11 = .ok (.new 62, 3) := by decide +kernel
theorem dX4_setLimit_14 : decode cX4_setLimit 14 = .ok (.dup, 1) := by decide +kernel
theorem dX4_setLimit_15 : decode cX4_setLimit 15 = .ok (.ldc 83, 2) := by decide +kernel
theorem dX4_setLimit_17 : decode cX4_setLimit 17 = .ok (.invokespecial 66, 3) := by decide +kernel
theorem dX4_setLimit_20 : decode cX4_setLimit 20 = .ok (.athrow, 1) := by decide +kernel
theorem dX4_setLimit_21 : decode cX4_setLimit 21 = .ok (.aload_n 0, 1) := by decide +kernel
theorem dX4_setLimit_22 : decode cX4_setLimit 22 = .ok (.getfield 36, 3) := by decide +kernel
theorem dX4_setLimit_25 : decode cX4_setLimit 25 = .ok (.istore_n 2, 1) := by decide +kernel
theorem dX4_setLimit_26 : decode cX4_setLimit 26 = .ok (.aload_n 0, 1) := by decide +kernel
theorem dX4_setLimit_27 : decode cX4_setLimit 27 = .ok (.iload_n 1, 1) := by decide +kernel
theorem dX4_setLimit_28 : decode cX4_setLimit 28 = .ok (.putfield 36, 3) := by decide +kernel
theorem dX4_setLimit_31 : decode cX4_setLimit 31 = .ok (.iload_n 2, 1) := by decide +kernel
theorem dX4_setLimit_32 : decode cX4_setLimit 32 = .ok (.ireturn, 1) := by decide +kernel
theorem dX4_setCap_0 : decode cX4_setCap 0 = .ok (.iload_n 1, 1) := by decide +kernel
theorem dX4_setCap_1 : decode cX4_setCap 1 = .ok (.ifCond .lt 9, 3) := by decide +kernel
theorem dX4_setCap_4 : decode cX4_setCap 4 = .ok (.iload_n 1, 1) := by decide +kernel
theorem dX4_setCap_5 : decode cX4_setCap 5 = .ok (.bipush 12, 2) := by decide +kernel
theorem dX4_setCap_7 : decode cX4_setCap 7 = .ok (.if_icmp .le 13, 3) := by decide +kernel
theorem dX4_setCap_10 : decode cX4_setCap 10 = .ok (.new 62, 3) := by decide +kernel
theorem dX4_setCap_13 : decode cX4_setCap 13 = .ok (.dup, 1) := by decide +kernel
theorem dX4_setCap_14 : decode cX4_setCap 14 = .ok (.ldc 85, 2) := by decide +kernel
theorem dX4_setCap_16 : decode cX4_setCap 16 = .ok (.invokespecial 66, 3) := by decide +kernel
theorem dX4_setCap_19 : decode cX4_setCap 19 = .ok (.athrow, 1) := by decide +kernel
theorem dX4_setCap_20 : decode cX4_setCap 20 = .ok (.aload_n 0, 1) := by decide +kernel
theorem dX4_setCap_21 : decode cX4_setCap 21 = .ok (.getfield 40, 3) := by decide +kernel
theorem dX4_setCap_24 : decode cX4_setCap 24 = .ok (.istore_n 2, 1) := by decide +kernel
theorem dX4_setCap_25 : decode cX4_setCap 25 = .ok (.aload_n 0, 1) := by decide +kernel
theorem dX4_setCap_26 : decode cX4_setCap 26 = .ok (.iload_n 1, 1) := by decide +kernel
theorem dX4_setCap_27 : decode cX4_setCap 27 = .ok (.putfield 40, 3) := by decide +kernel
theorem dX4_setCap_30 : decode cX4_setCap 30 = .ok (.iload_n 2, 1) := by decide +kernel
theorem dX4_setCap_31 : decode cX4_setCap 31 = .ok (.ireturn, 1) := by decide +kernel
theorem dX4_heat_0 : decode cX4_heat 0 = .ok (.aload_n 0, 1) := by decide +kernel
theorem dX4_heat_1 : decode cX4_heat 1 = .ok (.iload_n 1, 1) := by decide +kernel
theorem dX4_heat_2 : decode cX4_heat 2 = .ok (.invokevirtual 87, 3) := by decide +kernel
theorem dX4_heat_5 : decode cX4_heat 5 = .ok (.astore_n 2, 1) := by decide +kernel
theorem dX4_heat_6 : decode cX4_heat 6 = .ok (.aload_n 2, 1) := by decide +kernel
theorem dX4_heat_7 : decode cX4_heat 7 = .ok (.ifnonnull 13, 3) := by decide +kernel
theorem dX4_heat_10 : decode cX4_heat 10 = .ok (.new 91, 3) := by decide +kernel
theorem dX4_heat_13 : decode cX4_heat 13 = .ok (.dup, 1) := by decide +kernel
theorem dX4_heat_14 : decode cX4_heat 14 = .ok (.ldc 93, 2) := by decide +kernel
theorem dX4_heat_16 : decode cX4_heat 16 = .ok (.invokespecial 95, 3) := by decide +kernel
theorem dX4_heat_19 : decode cX4_heat 19 = .ok (.athrow, 1) := by decide +kernel
theorem dX4_heat_20 : decode cX4_heat 20 = .ok (.aload_n 2, 1) := by decide +kernel
theorem dX4_heat_21 : decode cX4_heat 21 = .ok (.getfield 96, 3) := by decide +kernel
theorem dX4_heat_24 : decode cX4_heat 24 = .ok (.ireturn, 1) := by decide +kernel
theorem dX4_pace_0 : decode cX4_pace 0 = .ok (.aload_n 0, 1) := by decide +kernel
theorem dX4_pace_1 : decode cX4_pace 1 = .ok (.iload_n 1, 1) := by decide +kernel
theorem dX4_pace_2 : decode cX4_pace 2 = .ok (.invokevirtual 87, 3) := by decide +kernel
theorem dX4_pace_5 : decode cX4_pace 5 = .ok (.astore_n 2, 1) := by decide +kernel
theorem dX4_pace_6 : decode cX4_pace 6 = .ok (.aload_n 2, 1) := by decide +kernel
theorem dX4_pace_7 : decode cX4_pace 7 = .ok (.ifnonnull 13, 3) := by decide +kernel
theorem dX4_pace_10 : decode cX4_pace 10 = .ok (.new 91, 3) := by decide +kernel
theorem dX4_pace_13 : decode cX4_pace 13 = .ok (.dup, 1) := by decide +kernel
theorem dX4_pace_14 : decode cX4_pace 14 = .ok (.ldc 93, 2) := by decide +kernel
theorem dX4_pace_16 : decode cX4_pace 16 = .ok (.invokespecial 95, 3) := by decide +kernel
theorem dX4_pace_19 : decode cX4_pace 19 = .ok (.athrow, 1) := by decide +kernel
theorem dX4_pace_20 : decode cX4_pace 20 = .ok (.aload_n 2, 1) := by decide +kernel
theorem dX4_pace_21 : decode cX4_pace 21 = .ok (.aload_n 0, 1) := by decide +kernel
theorem dX4_pace_22 : decode cX4_pace 22 = .ok (.getfield 36, 3) := by decide +kernel
theorem dX4_pace_25 : decode cX4_pace 25 = .ok (.invokevirtual 99, 3) := by decide +kernel
theorem dX4_pace_28 : decode cX4_pace 28 = .ok (.ireturn, 1) := by decide +kernel
theorem dX4_addGroup_0 : decode cX4_addGroup 0 = .ok (.aload_n 0, 1) := by decide +kernel
theorem dX4_addGroup_1 : decode cX4_addGroup 1 = .ok (.iload_n 1, 1) := by decide +kernel
theorem dX4_addGroup_2 : decode cX4_addGroup 2 = .ok (.invokevirtual 103, 3) := by decide +kernel
theorem dX4_addGroup_5 : decode cX4_addGroup 5 = .ok (.astore_n 3, 1) := by decide +kernel
theorem dX4_addGroup_6 : decode cX4_addGroup 6 = .ok (.aload_n 3, 1) := by decide +kernel
theorem dX4_addGroup_7 : decode cX4_addGroup 7 = .ok (.ifnonnull 13, 3) := by decide +kernel
theorem dX4_addGroup_10 : decode cX4_addGroup 10 = .ok (.new 91, 3) := by decide +kernel
theorem dX4_addGroup_13 : decode cX4_addGroup 13 = .ok (.dup, 1) := by decide +kernel
theorem dX4_addGroup_14 : decode cX4_addGroup 14 = .ok (.ldc 107, 2) := by decide +kernel
theorem dX4_addGroup_16 : decode cX4_addGroup 16 = .ok (.invokespecial 95, 3) := by decide +kernel
theorem dX4_addGroup_19 : decode cX4_addGroup 19 = .ok (.athrow, 1) := by decide +kernel
theorem dX4_addGroup_20 : decode cX4_addGroup 20 = .ok (.iload_n 2, 1) := by decide +kernel
theorem dX4_addGroup_21 : decode cX4_addGroup 21 = .ok (.iconst 1, 1) := by decide +kernel
theorem dX4_addGroup_22 : decode cX4_addGroup 22 = .ok (.if_icmp .lt 9, 3) := by decide +kernel
theorem dX4_addGroup_25 : decode cX4_addGroup 25 = .ok (.iload_n 2, 1) := by decide +kernel
theorem dX4_addGroup_26 : decode cX4_addGroup 26 = .ok (.bipush 9, 2) := by decide +kernel
theorem dX4_addGroup_28 : decode cX4_addGroup 28 = .ok (.if_icmp .le 13, 3) := by decide +kernel
theorem dX4_addGroup_31 : decode cX4_addGroup 31 = .ok (.new 62, 3) := by decide +kernel
theorem dX4_addGroup_34 : decode cX4_addGroup 34 = .ok (.dup, 1) := by decide +kernel
theorem dX4_addGroup_35 : decode cX4_addGroup 35 = .ok (.ldc 109, 2) := by decide +kernel
theorem dX4_addGroup_37 : decode cX4_addGroup 37 = .ok (.invokespecial 66, 3) := by decide +kernel
theorem dX4_addGroup_40 : decode cX4_addGroup 40 = .ok (.athrow, 1) := by decide +kernel
theorem dX4_addGroup_41 : decode cX4_addGroup 41 = .ok (.aload_n 0, 1) := by decide +kernel
theorem dX4_addGroup_42 : decode cX4_addGroup 42 = .ok (.getfield 18, 3) := by decide +kernel
theorem dX4_addGroup_45 : decode cX4_addGroup 45 = .ok (.invokevirtual 69, 3) := by decide +kernel
theorem dX4_addGroup_48 : decode cX4_addGroup 48 = .ok (.istore 4, 2) := by decide +kernel
theorem dX4_addGroup_50 : decode cX4_addGroup 50 = .ok (.iload 4, 2) := by decide +kernel
theorem dX4_addGroup_52 : decode cX4_addGroup 52 = .ok (.bipush 6, 2) := by decide +kernel
theorem dX4_addGroup_54 : decode cX4_addGroup 54 = .ok (.if_icmp .lt 13, 3) := by decide +kernel
theorem dX4_addGroup_57 : decode cX4_addGroup 57 = .ok (.new 73, 3) := by decide +kernel
theorem dX4_addGroup_60 : decode cX4_addGroup 60 = .ok (.dup, 1) := by decide +kernel
theorem dX4_addGroup_61 : decode cX4_addGroup 61 = .ok (.ldc 111, 2) := by decide +kernel
theorem dX4_addGroup_63 : decode cX4_addGroup 63 = .ok (.invokespecial 77, 3) := by decide +kernel
theorem dX4_addGroup_66 : decode cX4_addGroup 66 = .ok (.athrow, 1) := by decide +kernel
theorem dX4_addGroup_67 : decode cX4_addGroup 67 = .ok (.aload_n 0, 1) := by decide +kernel
theorem dX4_addGroup_68 : decode cX4_addGroup 68 = .ok (.getfield 18, 3) := by decide +kernel
theorem dX4_addGroup_71 : decode cX4_addGroup 71 = .ok (.new 27, 3) := by decide +kernel
theorem dX4_addGroup_74 : decode cX4_addGroup 74 = .ok (.dup, 1) := by decide +kernel
theorem dX4_addGroup_75 : decode cX4_addGroup 75 = .ok (.iload 4, 2) := by decide +kernel
theorem dX4_addGroup_77 : decode cX4_addGroup 77 = .ok (.aload_n 3, 1) := by decide +kernel
theorem dX4_addGroup_78 : decode cX4_addGroup 78 = .ok (.sipush 2520, 3) := by decide +kernel
theorem dX4_addGroup_81 : decode cX4_addGroup 81 = .ok (.iload_n 2, 1) := by decide +kernel
theorem dX4_addGroup_82 : decode cX4_addGroup 82 = .ok (.idiv, 1) := by decide +kernel
theorem dX4_addGroup_83 : decode cX4_addGroup 83 = .ok (.aload_n 0, 1) := by decide +kernel
theorem dX4_addGroup_84 : decode cX4_addGroup 84 = .ok (.aload_n 3, 1) := by decide +kernel
theorem dX4_addGroup_85 : decode cX4_addGroup 85 = .ok (.invokevirtual 113, 3) := by decide +kernel
theorem dX4_addGroup_88 : decode cX4_addGroup 88 = .ok (.invokespecial 29, 3) := by decide +kernel
theorem dX4_addGroup_91 : decode cX4_addGroup 91 = .ok (.invokevirtual 55, 3) := by decide +kernel
theorem dX4_addGroup_94 : decode cX4_addGroup 94 = .ok (.pop, 1) := by decide +kernel
theorem dX4_addGroup_95 : decode cX4_addGroup 95 = .ok (.iload 4, 2) := by decide +kernel
theorem dX4_addGroup_97 : decode cX4_addGroup 97 = .ok (.ireturn, 1) := by decide +kernel
theorem dX4_addPlain_0 : decode cX4_addPlain 0 = .ok (.aload_n 0, 1) := by decide +kernel
theorem dX4_addPlain_1 : decode cX4_addPlain 1 = .ok (.iload_n 1, 1) := by decide +kernel
theorem dX4_addPlain_2 : decode cX4_addPlain 2 = .ok (.invokevirtual 103, 3) := by decide +kernel
theorem dX4_addPlain_5 : decode cX4_addPlain 5 = .ok (.astore 4, 2) := by decide +kernel
theorem dX4_addPlain_7 : decode cX4_addPlain 7 = .ok (.aload 4, 2) := by decide +kernel
theorem dX4_addPlain_9 : decode cX4_addPlain 9 = .ok (.ifnonnull 13, 3) := by decide +kernel
theorem dX4_addPlain_12 : decode cX4_addPlain 12 = .ok (.new 91, 3) := by decide +kernel
theorem dX4_addPlain_15 : decode cX4_addPlain 15 = .ok (.dup, 1) := by decide +kernel
theorem dX4_addPlain_16 : decode cX4_addPlain 16 = .ok (.ldc 107, 2) := by decide +kernel
theorem dX4_addPlain_18 : decode cX4_addPlain 18 = .ok (.invokespecial 95, 3) := by decide +kernel
theorem dX4_addPlain_21 : decode cX4_addPlain 21 = .ok (.athrow, 1) := by decide +kernel
theorem dX4_addPlain_22 : decode cX4_addPlain 22 = .ok (.iload_n 2, 1) := by decide +kernel
theorem dX4_addPlain_23 : decode cX4_addPlain 23 = .ok (.iconst 1, 1) := by decide +kernel
theorem dX4_addPlain_24 : decode cX4_addPlain 24 = .ok (.if_icmp .lt 21, 3) := by decide +kernel
theorem dX4_addPlain_27 : decode cX4_addPlain 27 = .ok (.iload_n 2, 1) := by decide +kernel
theorem dX4_addPlain_28 : decode cX4_addPlain 28 = .ok (.bipush 9, 2) := by decide +kernel
theorem dX4_addPlain_30 : decode cX4_addPlain 30 = .ok (.if_icmp .gt 15, 3) := by decide +kernel
theorem dX4_addPlain_33 : decode cX4_addPlain 33 = .ok (.iload_n 3, 1) := by decide +kernel
theorem dX4_addPlain_34 : decode cX4_addPlain 34 = .ok (.iconst 1, 1) := by decide +kernel
theorem dX4_addPlain_35 : decode cX4_addPlain 35 = .ok (.if_icmp .lt 10, 3) := by decide +kernel
theorem dX4_addPlain_38 : decode cX4_addPlain 38 = .ok (.iload_n 3, 1) := by decide +kernel
theorem dX4_addPlain_39 : decode cX4_addPlain 39 = .ok (.sipush 500, 3) := by decide +kernel
theorem dX4_addPlain_42 : decode cX4_addPlain 42 = .ok (.if_icmp .le 13, 3) := by decide +kernel
theorem dX4_addPlain_45 : decode cX4_addPlain 45 = .ok (.new 62, 3) := by decide +kernel
theorem dX4_addPlain_48 : decode cX4_addPlain 48 = .ok (.dup, 1) := by decide +kernel
theorem dX4_addPlain_49 : decode cX4_addPlain 49 = .ok (.ldc 117, 2) := by decide +kernel
theorem dX4_addPlain_51 : decode cX4_addPlain 51 = .ok (.invokespecial 66, 3) := by decide +kernel
theorem dX4_addPlain_54 : decode cX4_addPlain 54 = .ok (.athrow, 1) := by decide +kernel
theorem dX4_addPlain_55 : decode cX4_addPlain 55 = .ok (.aload_n 0, 1) := by decide +kernel
theorem dX4_addPlain_56 : decode cX4_addPlain 56 = .ok (.getfield 21, 3) := by decide +kernel
theorem dX4_addPlain_59 : decode cX4_addPlain 59 = .ok (.invokevirtual 69, 3) := by decide +kernel
theorem dX4_addPlain_62 : decode cX4_addPlain 62 = .ok (.istore 5, 2) := by decide +kernel
theorem dX4_addPlain_64 : decode cX4_addPlain 64 = .ok (.iload 5, 2) := by decide +kernel
theorem dX4_addPlain_66 : decode cX4_addPlain 66 = .ok (.bipush 12, 2) := by decide +kernel
theorem dX4_addPlain_68 : decode cX4_addPlain 68 = .ok (.if_icmp .lt 13, 3) := by decide +kernel
theorem dX4_addPlain_71 : decode cX4_addPlain 71 = .ok (.new 73, 3) := by decide +kernel
theorem dX4_addPlain_74 : decode cX4_addPlain 74 = .ok (.dup, 1) := by decide +kernel
theorem dX4_addPlain_75 : decode cX4_addPlain 75 = .ok (.ldc 119, 2) := by decide +kernel
theorem dX4_addPlain_77 : decode cX4_addPlain 77 = .ok (.invokespecial 77, 3) := by decide +kernel
theorem dX4_addPlain_80 : decode cX4_addPlain 80 = .ok (.athrow, 1) := by decide +kernel
theorem dX4_addPlain_81 : decode cX4_addPlain 81 = .ok (.aload_n 0, 1) := by decide +kernel
theorem dX4_addPlain_82 : decode cX4_addPlain 82 = .ok (.getfield 21, 3) := by decide +kernel
theorem dX4_addPlain_85 : decode cX4_addPlain 85 = .ok (.new 121, 3) := by decide +kernel
theorem dX4_addPlain_88 : decode cX4_addPlain 88 = .ok (.dup, 1) := by decide +kernel
theorem dX4_addPlain_89 : decode cX4_addPlain 89 = .ok (.iload 5, 2) := by decide +kernel
theorem dX4_addPlain_91 : decode cX4_addPlain 91 = .ok (.aload 4, 2) := by decide +kernel
theorem dX4_addPlain_93 : decode cX4_addPlain 93 = .ok (.sipush 2520, 3) := by decide +kernel
theorem dX4_addPlain_96 : decode cX4_addPlain 96 = .ok (.iload_n 2, 1) := by decide +kernel
theorem dX4_addPlain_97 : decode cX4_addPlain 97 = .ok (.idiv, 1) := by decide +kernel
theorem dX4_addPlain_98 : decode cX4_addPlain 98 = .ok (.aload_n 0, 1) := by decide +kernel
theorem dX4_addPlain_99 : decode cX4_addPlain 99 = .ok (.aload 4, 2) := by decide +kernel
theorem dX4_addPlain_101 : decode cX4_addPlain 101 = .ok (.invokevirtual 113, 3) := by decide +kernel
theorem dX4_addPlain_104 : decode cX4_addPlain 104 = .ok (.iload_n 3, 1) := by decide +kernel
theorem dX4_addPlain_105 : decode cX4_addPlain 105 = .ok (.invokespecial 123, 3) := by decide +kernel
theorem dX4_addPlain_108 : decode cX4_addPlain 108 = .ok (.invokevirtual 55, 3) := by decide +kernel
theorem dX4_addPlain_111 : decode cX4_addPlain 111 = .ok (.pop, 1) := by decide +kernel
theorem dX4_addPlain_112 : decode cX4_addPlain 112 = .ok (.iload 5, 2) := by decide +kernel
theorem dX4_addPlain_114 : decode cX4_addPlain 114 = .ok (.ireturn, 1) := by decide +kernel
theorem dX4_addTimed_0 : decode cX4_addTimed 0 = .ok (.aload_n 0, 1) := by decide +kernel
theorem dX4_addTimed_1 : decode cX4_addTimed 1 = .ok (.iload_n 1, 1) := by decide +kernel
theorem dX4_addTimed_2 : decode cX4_addTimed 2 = .ok (.invokevirtual 103, 3) := by decide +kernel
theorem dX4_addTimed_5 : decode cX4_addTimed 5 = .ok (.astore 5, 2) := by decide +kernel
theorem dX4_addTimed_7 : decode cX4_addTimed 7 = .ok (.aload 5, 2) := by decide +kernel
theorem dX4_addTimed_9 : decode cX4_addTimed 9 = .ok (.ifnonnull 13, 3) := by decide +kernel
theorem dX4_addTimed_12 : decode cX4_addTimed 12 = .ok (.new 91, 3) := by decide +kernel
theorem dX4_addTimed_15 : decode cX4_addTimed 15 = .ok (.dup, 1) := by decide +kernel
theorem dX4_addTimed_16 : decode cX4_addTimed 16 = .ok (.ldc 107, 2) := by decide +kernel
theorem dX4_addTimed_18 : decode cX4_addTimed 18 = .ok (.invokespecial 95, 3) := by decide +kernel
theorem dX4_addTimed_21 : decode cX4_addTimed 21 = .ok (.athrow, 1) := by decide +kernel
theorem dX4_addTimed_22 : decode cX4_addTimed 22 = .ok (.iload_n 2, 1) := by decide +kernel
theorem dX4_addTimed_23 : decode cX4_addTimed 23 = .ok (.iconst 1, 1) := by decide +kernel
theorem dX4_addTimed_24 : decode cX4_addTimed 24 = .ok (.if_icmp .lt 33, 3) := by decide +kernel
theorem dX4_addTimed_27 : decode cX4_addTimed 27 = .ok (.iload_n 2, 1) := by decide +kernel
theorem dX4_addTimed_28 : decode cX4_addTimed 28 = .ok (.bipush 9, 2) := by decide +kernel
theorem dX4_addTimed_30 : decode cX4_addTimed 30 = .ok (.if_icmp .gt 27, 3) := by decide +kernel
theorem dX4_addTimed_33 : decode cX4_addTimed 33 = .ok (.iload_n 3, 1) := by decide +kernel
theorem dX4_addTimed_34 : decode cX4_addTimed 34 = .ok (.iconst 2, 1) := by decide +kernel
theorem dX4_addTimed_35 : decode cX4_addTimed 35 = .ok (.if_icmp .lt 22, 3) := by decide +kernel
theorem dX4_addTimed_38 : decode cX4_addTimed 38 = .ok (.iload_n 3, 1) := by decide +kernel
theorem dX4_addTimed_39 : decode cX4_addTimed 39 = .ok (.bipush 60, 2) := by decide +kernel
theorem dX4_addTimed_41 : decode cX4_addTimed 41 = .ok (.if_icmp .gt 16, 3) := by decide +kernel
theorem dX4_addTimed_44 : decode cX4_addTimed 44 = .ok (.iload 4, 2) := by decide +kernel
theorem dX4_addTimed_46 : decode cX4_addTimed 46 = .ok (.iconst 1, 1) := by decide +kernel
theorem dX4_addTimed_47 : decode cX4_addTimed 47 = .ok (.if_icmp .lt 10, 3) := by decide +kernel
theorem dX4_addTimed_50 : decode cX4_addTimed 50 = .ok (.iload 4, 2) := by decide +kernel
theorem dX4_addTimed_52 : decode cX4_addTimed 52 = .ok (.bipush 40, 2) := by decide +kernel
theorem dX4_addTimed_54 : decode cX4_addTimed 54 = .ok (.if_icmp .le 13, 3) := by decide +kernel
theorem dX4_addTimed_57 : decode cX4_addTimed 57 = .ok (.new 62, 3) := by decide +kernel
theorem dX4_addTimed_60 : decode cX4_addTimed 60 = .ok (.dup, 1) := by decide +kernel
theorem dX4_addTimed_61 : decode cX4_addTimed 61 = .ok (.ldc 117, 2) := by decide +kernel
theorem dX4_addTimed_63 : decode cX4_addTimed 63 = .ok (.invokespecial 66, 3) := by decide +kernel
theorem dX4_addTimed_66 : decode cX4_addTimed 66 = .ok (.athrow, 1) := by decide +kernel
theorem dX4_addTimed_67 : decode cX4_addTimed 67 = .ok (.sipush 1000, 3) := by decide +kernel
theorem dX4_addTimed_70 : decode cX4_addTimed 70 = .ok (.iload 4, 2) := by decide +kernel
theorem dX4_addTimed_72 : decode cX4_addTimed 72 = .ok (.imul, 1) := by decide +kernel
theorem dX4_addTimed_73 : decode cX4_addTimed 73 = .ok (.iload_n 3, 1) := by decide +kernel
theorem dX4_addTimed_74 : decode cX4_addTimed 74 = .ok (.iadd, 1) := by decide +kernel
theorem dX4_addTimed_75 : decode cX4_addTimed 75 = .ok (.iconst 1, 1) := by decide +kernel
theorem dX4_addTimed_76 : decode cX4_addTimed 76 = .ok (.isub, 1) := by decide +kernel
theorem dX4_addTimed_77 : decode cX4_addTimed 77 = .ok (.iload_n 3, 1) := by decide +kernel
theorem dX4_addTimed_78 : decode cX4_addTimed 78 = .ok (.idiv, 1) := by decide +kernel
theorem dX4_addTimed_79 : decode cX4_addTimed 79 = .ok (.istore 6, 2) := by decide +kernel
theorem dX4_addTimed_81 : decode cX4_addTimed 81 = .ok (.aload_n 0, 1) := by decide +kernel
theorem dX4_addTimed_82 : decode cX4_addTimed 82 = .ok (.invokevirtual 126, 3) := by decide +kernel
theorem dX4_addTimed_85 : decode cX4_addTimed 85 = .ok (.iload 6, 2) := by decide +kernel
theorem dX4_addTimed_87 : decode cX4_addTimed 87 = .ok (.iadd, 1) := by decide +kernel
theorem dX4_addTimed_88 : decode cX4_addTimed 88 = .ok (.sipush 1000, 3) := by decide +kernel
theorem dX4_addTimed_91 : decode cX4_addTimed 91 = .ok (.aload_n 0, 1) := by decide +kernel
theorem dX4_addTimed_92 : decode cX4_addTimed 92 = .ok (.invokevirtual 129, 3) := by decide +kernel
theorem dX4_addTimed_95 : decode cX4_addTimed 95 = .ok (.imul, 1) := by decide +kernel
theorem dX4_addTimed_96 : decode cX4_addTimed 96 = .ok (.if_icmp .le 13, 3) := by decide +kernel
theorem dX4_addTimed_99 : decode cX4_addTimed 99 = .ok (.new 132, 3) := by decide +kernel
theorem dX4_addTimed_102 : decode cX4_addTimed 102 = .ok (.dup, 1) := by decide +kernel
theorem dX4_addTimed_103 : decode cX4_addTimed 103 = .ok (.ldc 134, 2) := by decide +kernel
theorem dX4_addTimed_105 : decode cX4_addTimed 105 = .ok (.invokespecial 136, 3) := by decide +kernel
theorem dX4_addTimed_108 : decode cX4_addTimed 108 = .ok (.athrow, 1) := by decide +kernel
theorem dX4_addTimed_109 : decode cX4_addTimed 109 = .ok (.aload_n 0, 1) := by decide +kernel
theorem dX4_addTimed_110 : decode cX4_addTimed 110 = .ok (.getfield 21, 3) := by decide +kernel
theorem dX4_addTimed_113 : decode cX4_addTimed 113 = .ok (.invokevirtual 69, 3) := by decide +kernel
theorem dX4_addTimed_116 : decode cX4_addTimed 116 = .ok (.istore 7, 2) := by decide +kernel
theorem dX4_addTimed_118 : decode cX4_addTimed 118 = .ok (.iload 7, 2) := by decide +kernel
theorem dX4_addTimed_120 : decode cX4_addTimed 120 = .ok (.bipush 12, 2) := by decide +kernel
theorem dX4_addTimed_122 : decode cX4_addTimed 122 = .ok (.if_icmp .lt 13, 3) := by decide +kernel
theorem dX4_addTimed_125 : decode cX4_addTimed 125 = .ok (.new 73, 3) := by decide +kernel
theorem dX4_addTimed_128 : decode cX4_addTimed 128 = .ok (.dup, 1) := by decide +kernel
theorem dX4_addTimed_129 : decode cX4_addTimed 129 = .ok (.ldc 119, 2) := by decide +kernel
theorem dX4_addTimed_131 : decode cX4_addTimed 131 = .ok (.invokespecial 77, 3) := by decide +kernel
theorem dX4_addTimed_134 : decode cX4_addTimed 134 = .ok (.athrow, 1) := by decide +kernel
theorem dX4_addTimed_135 : decode cX4_addTimed 135 = .ok (.new 121, 3) := by decide +kernel
theorem dX4_addTimed_138 : decode cX4_addTimed 138 = .ok (.dup, 1) := by decide +kernel
theorem dX4_addTimed_139 : decode cX4_addTimed 139 = .ok (.iload 7, 2) := by decide +kernel
theorem dX4_addTimed_141 : decode cX4_addTimed 141 = .ok (.aload 5, 2) := by decide +kernel
theorem dX4_addTimed_143 : decode cX4_addTimed 143 = .ok (.sipush 2520, 3) := by decide +kernel
theorem dX4_addTimed_146 : decode cX4_addTimed 146 = .ok (.iload_n 2, 1) := by decide +kernel
theorem dX4_addTimed_147 : decode cX4_addTimed 147 = .ok (.idiv, 1) := by decide +kernel
theorem dX4_addTimed_148 : decode cX4_addTimed 148 = .ok (.aload_n 0, 1) := by decide +kernel
theorem dX4_addTimed_149 : decode cX4_addTimed 149 = .ok (.aload 5, 2) := by decide +kernel
theorem dX4_addTimed_151 : decode cX4_addTimed 151 = .ok (.invokevirtual 113, 3) := by decide +kernel
theorem dX4_addTimed_154 : decode cX4_addTimed 154 = .ok (.iload 4, 2) := by decide +kernel
theorem dX4_addTimed_156 : decode cX4_addTimed 156 = .ok (.invokespecial 123, 3) := by decide +kernel
theorem dX4_addTimed_159 : decode cX4_addTimed 159 = .ok (.astore 8, 2) := by decide +kernel
theorem dX4_addTimed_161 : decode cX4_addTimed 161 = .ok (.aload 8, 2) := by decide +kernel
theorem dX4_addTimed_163 : decode cX4_addTimed 163 = .ok (.iload_n 3, 1) := by decide +kernel
theorem dX4_addTimed_164 : decode cX4_addTimed 164 = .ok (.putfield 137, 3) := by decide +kernel
theorem dX4_addTimed_167 : decode cX4_addTimed 167 = .ok (.aload 8, 2) := by decide +kernel
theorem dX4_addTimed_169 : decode cX4_addTimed 169 = .ok (.iload 4, 2) := by decide +kernel
theorem dX4_addTimed_171 : decode cX4_addTimed 171 = .ok (.putfield 140, 3) := by decide +kernel
theorem dX4_addTimed_174 : decode cX4_addTimed 174 = .ok (.aload 8, 2) := by decide +kernel
theorem dX4_addTimed_176 : decode cX4_addTimed 176 = .ok (.iload 6, 2) := by decide +kernel
theorem dX4_addTimed_178 : decode cX4_addTimed 178 = .ok (.putfield 143, 3) := by decide +kernel
theorem dX4_addTimed_181 : decode cX4_addTimed 181 = .ok (.aload 8, 2) := by decide +kernel
theorem dX4_addTimed_183 : decode cX4_addTimed 183 = .ok (.aload_n 0, 1) := by decide +kernel
theorem dX4_addTimed_184 : decode cX4_addTimed 184 = .ok (.getfield 43, 3) := by decide +kernel
theorem dX4_addTimed_187 : decode cX4_addTimed 187 = .ok (.iload_n 3, 1) := by decide +kernel
theorem dX4_addTimed_188 : decode cX4_addTimed 188 = .ok (.iadd, 1) := by decide +kernel
theorem dX4_addTimed_189 : decode cX4_addTimed 189 = .ok (.putfield 146, 3) := by decide +kernel
theorem dX4_addTimed_192 : decode cX4_addTimed 192 = .ok (.aload_n 0, 1) := by decide +kernel
theorem dX4_addTimed_193 : decode cX4_addTimed 193 = .ok (.getfield 21, 3) := by decide +kernel
theorem dX4_addTimed_196 : decode cX4_addTimed 196 = .ok (.aload 8, 2) := by decide +kernel
theorem dX4_addTimed_198 : decode cX4_addTimed 198 = .ok (.invokevirtual 55, 3) := by decide +kernel
theorem dX4_addTimed_201 : decode cX4_addTimed 201 = .ok (.pop, 1) := by decide +kernel
theorem dX4_addTimed_202 : decode cX4_addTimed 202 = .ok (.iload 7, 2) := by decide +kernel
theorem dX4_addTimed_204 : decode cX4_addTimed 204 = .ok (.ireturn, 1) := by decide +kernel
theorem dX4_end_0 : decode cX4_end 0 = .ok (.aload_n 0, 1) := by decide +kernel
theorem dX4_end_1 : decode cX4_end 1 = .ok (.iload_n 1, 1) := by decide +kernel
theorem dX4_end_2 : decode cX4_end 2 = .ok (.invokevirtual 149, 3) := by decide +kernel
theorem dX4_end_5 : decode cX4_end 5 = .ok (.astore_n 2, 1) := by decide +kernel
theorem dX4_end_6 : decode cX4_end 6 = .ok (.aload_n 2, 1) := by decide +kernel
theorem dX4_end_7 : decode cX4_end 7 = .ok (.ifnonnull 13, 3) := by decide +kernel
theorem dX4_end_10 : decode cX4_end 10 = .ok (.new 153, 3) := by decide +kernel
theorem dX4_end_13 : decode cX4_end 13 = .ok (.dup, 1) := by decide +kernel
theorem dX4_end_14 : decode cX4_end 14 = .ok (.ldc 155, 2) := by decide +kernel
theorem dX4_end_16 : decode cX4_end 16 = .ok (.invokespecial 157, 3) := by decide +kernel
theorem dX4_end_19 : decode cX4_end 19 = .ok (.athrow, 1) := by decide +kernel
theorem dX4_end_20 : decode cX4_end 20 = .ok (.aload_n 2, 1) := by decide +kernel
theorem dX4_end_21 : decode cX4_end 21 = .ok (.getfield 158, 3) := by decide +kernel
theorem dX4_end_24 : decode cX4_end 24 = .ok (.ifCond .eq 13, 3) := by decide +kernel
theorem dX4_end_27 : decode cX4_end 27 = .ok (.new 73, 3) := by decide +kernel
theorem dX4_end_30 : decode cX4_end 30 = .ok (.dup, 1) := by decide +kernel
theorem dX4_end_31 : decode cX4_end 31 = .ok (.ldc 162, 2) := by decide +kernel
theorem dX4_end_33 : decode cX4_end 33 = .ok (.invokespecial 77, 3) := by decide +kernel
theorem dX4_end_36 : decode cX4_end 36 = .ok (.athrow, 1) := by decide +kernel
theorem dX4_end_37 : decode cX4_end 37 = .ok (.aload_n 2, 1) := by decide +kernel
theorem dX4_end_38 : decode cX4_end 38 = .ok (.getfield 164, 3) := by decide +kernel
theorem dX4_end_41 : decode cX4_end 41 = .ok (.istore_n 3, 1) := by decide +kernel
theorem dX4_end_42 : decode cX4_end 42 = .ok (.aload_n 2, 1) := by decide +kernel
theorem dX4_end_43 : decode cX4_end 43 = .ok (.iconst 0, 1) := by decide +kernel
theorem dX4_end_44 : decode cX4_end 44 = .ok (.putfield 164, 3) := by decide +kernel
theorem dX4_end_47 : decode cX4_end 47 = .ok (.aload_n 2, 1) := by decide +kernel
theorem dX4_end_48 : decode cX4_end 48 = .ok (.iconst 1, 1) := by decide +kernel
theorem dX4_end_49 : decode cX4_end 49 = .ok (.putfield 158, 3) := by decide +kernel
theorem dX4_end_52 : decode cX4_end 52 = .ok (.aload_n 2, 1) := by decide +kernel
theorem dX4_end_53 : decode cX4_end 53 = .ok (.invokestatic 167, 3) := by decide +kernel
theorem dX4_end_56 : decode cX4_end 56 = .ok (.iconst 0, 1) := by decide +kernel
theorem dX4_end_57 : decode cX4_end 57 = .ok (.istore 4, 2) := by decide +kernel
theorem dX4_end_59 : decode cX4_end 59 = .ok (.iload 4, 2) := by decide +kernel
theorem dX4_end_61 : decode cX4_end 61 = .ok (.aload_n 0, 1) := by decide +kernel
theorem dX4_end_62 : decode cX4_end 62 = .ok (.getfield 24, 3) := by decide +kernel
theorem dX4_end_65 : decode cX4_end 65 = .ok (.invokevirtual 69, 3) := by decide +kernel
theorem dX4_end_68 : decode cX4_end 68 = .ok (.if_icmp .ge 37, 3) := by decide +kernel
theorem dX4_end_71 : decode cX4_end 71 = .ok (.aload_n 0, 1) := by decide +kernel
theorem dX4_end_72 : decode cX4_end 72 = .ok (.getfield 24, 3) := by decide +kernel
theorem dX4_end_75 : decode cX4_end 75 = .ok (.iload 4, 2) := by decide +kernel
theorem dX4_end_77 : decode cX4_end 77 = .ok (.invokevirtual 171, 3) := by decide +kernel
theorem dX4_end_80 : decode cX4_end 80 = .ok (.checkcast 59, 3) := by decide +kernel
theorem dX4_end_83 : decode cX4_end 83 = .ok (.astore 5, 2) := by decide +kernel
theorem dX4_end_85 : decode cX4_end 85 = .ok (.aload 5, 2) := by decide +kernel
theorem dX4_end_87 : decode cX4_end 87 = .ok (.getfield 175, 3) := by decide +kernel
theorem dX4_end_90 : decode cX4_end 90 = .ok (.aload_n 2, 1) := by decide +kernel
theorem dX4_end_91 : decode cX4_end 91 = .ok (.if_acmp .ne 8, 3) := by decide +kernel
theorem dX4_end_94 : decode cX4_end 94 = .ok (.aload 5, 2) := by decide +kernel
theorem dX4_end_96 : decode cX4_end 96 = .ok (.invokestatic 179, 3) := by decide +kernel
theorem dX4_end_99 : decode cX4_end 99 = .ok (.iinc 4 1, 3) := by decide +kernel
theorem dX4_end_102 : decode cX4_end 102 = .ok (.goto (-43), 3) := by decide +kernel
theorem dX4_end_105 : decode cX4_end 105 = .ok (.iload_n 3, 1) := by decide +kernel
theorem dX4_end_106 : decode cX4_end 106 = .ok (.ireturn, 1) := by decide +kernel
theorem dX4_left_0 : decode cX4_left 0 = .ok (.aload_n 0, 1) := by decide +kernel
theorem dX4_left_1 : decode cX4_left 1 = .ok (.iload_n 1, 1) := by decide +kernel
theorem dX4_left_2 : decode cX4_left 2 = .ok (.invokevirtual 149, 3) := by decide +kernel
theorem dX4_left_5 : decode cX4_left 5 = .ok (.astore_n 2, 1) := by decide +kernel
theorem dX4_left_6 : decode cX4_left 6 = .ok (.aload_n 2, 1) := by decide +kernel
theorem dX4_left_7 : decode cX4_left 7 = .ok (.ifnonnull 13, 3) := by decide +kernel
theorem dX4_left_10 : decode cX4_left 10 = .ok (.new 153, 3) := by decide +kernel
theorem dX4_left_13 : decode cX4_left 13 = .ok (.dup, 1) := by decide +kernel
theorem dX4_left_14 : decode cX4_left 14 = .ok (.ldc 155, 2) := by decide +kernel
theorem dX4_left_16 : decode cX4_left 16 = .ok (.invokespecial 157, 3) := by decide +kernel
theorem dX4_left_19 : decode cX4_left 19 = .ok (.athrow, 1) := by decide +kernel
theorem dX4_left_20 : decode cX4_left 20 = .ok (.aload_n 2, 1) := by decide +kernel
theorem dX4_left_21 : decode cX4_left 21 = .ok (.getfield 164, 3) := by decide +kernel
theorem dX4_left_24 : decode cX4_left 24 = .ok (.ireturn, 1) := by decide +kernel
theorem dX4_stateOf_0 : decode cX4_stateOf 0 = .ok (.aload_n 0, 1) := by decide +kernel
theorem dX4_stateOf_1 : decode cX4_stateOf 1 = .ok (.iload_n 1, 1) := by decide +kernel
theorem dX4_stateOf_2 : decode cX4_stateOf 2 = .ok (.invokevirtual 149, 3) := by decide +kernel
theorem dX4_stateOf_5 : decode cX4_stateOf 5 = .ok (.astore_n 2, 1) := by decide +kernel
theorem dX4_stateOf_6 : decode cX4_stateOf 6 = .ok (.aload_n 2, 1) := by decide +kernel
theorem dX4_stateOf_7 : decode cX4_stateOf 7 = .ok (.ifnonnull 13, 3) := by decide +kernel
theorem dX4_stateOf_10 : decode cX4_stateOf 10 = .ok (.new 153, 3) := by decide +kernel
theorem dX4_stateOf_13 : decode cX4_stateOf 13 = .ok (.dup, 1) := by decide +kernel
theorem dX4_stateOf_14 : decode cX4_stateOf 14 = .ok (.ldc 155, 2) := by decide +kernel
theorem dX4_stateOf_16 : decode cX4_stateOf 16 = .ok (.invokespecial 157, 3) := by decide +kernel
theorem dX4_stateOf_19 : decode cX4_stateOf 19 = .ok (.athrow, 1) := by decide +kernel
theorem dX4_stateOf_20 : decode cX4_stateOf 20 = .ok (.aload_n 2, 1) := by decide +kernel
theorem dX4_stateOf_21 : decode cX4_stateOf 21 = .ok (.getfield 158, 3) := by decide +kernel
theorem dX4_stateOf_24 : decode cX4_stateOf 24 = .ok (.ifCond .eq 6, 3) := by decide +kernel
theorem dX4_stateOf_27 : decode cX4_stateOf 27 = .ok (.bipush 101, 2) := by decide +kernel
theorem dX4_stateOf_29 : decode cX4_stateOf 29 = .ok (.ireturn, 1) := by decide +kernel
theorem dX4_stateOf_30 : decode cX4_stateOf 30 = .ok (.aload_n 2, 1) := by decide +kernel
theorem dX4_stateOf_31 : decode cX4_stateOf 31 = .ok (.getfield 183, 3) := by decide +kernel
theorem dX4_stateOf_34 : decode cX4_stateOf 34 = .ok (.ifnull 6, 3) := by decide +kernel
theorem dX4_stateOf_37 : decode cX4_stateOf 37 = .ok (.bipush 119, 2) := by decide +kernel
theorem dX4_stateOf_39 : decode cX4_stateOf 39 = .ok (.ireturn, 1) := by decide +kernel
theorem dX4_stateOf_40 : decode cX4_stateOf 40 = .ok (.aload_n 2, 1) := by decide +kernel
theorem dX4_stateOf_41 : decode cX4_stateOf 41 = .ok (.invokevirtual 187, 3) := by decide +kernel
theorem dX4_stateOf_44 : decode cX4_stateOf 44 = .ok (.ifCond .eq 8, 3) := by decide +kernel
theorem dX4_stateOf_47 : decode cX4_stateOf 47 = .ok (.bipush 114, 2) := by decide +kernel
theorem dX4_stateOf_49 : decode cX4_stateOf 49 = .ok (.goto 5, 3) := by decide +kernel
theorem dX4_stateOf_52 : decode cX4_stateOf 52 = .ok (.bipush 105, 2) := by decide +kernel
theorem dX4_stateOf_54 : decode cX4_stateOf 54 = .ok (.ireturn, 1) := by decide +kernel
theorem dX4_timeOf_0 : decode cX4_timeOf 0 = .ok (.aload_n 0, 1) := by decide +kernel
theorem dX4_timeOf_1 : decode cX4_timeOf 1 = .ok (.iload_n 1, 1) := by decide +kernel
theorem dX4_timeOf_2 : decode cX4_timeOf 2 = .ok (.invokevirtual 149, 3) := by decide +kernel
theorem dX4_timeOf_5 : decode cX4_timeOf 5 = .ok (.astore_n 2, 1) := by decide +kernel
theorem dX4_timeOf_6 : decode cX4_timeOf 6 = .ok (.aload_n 2, 1) := by decide +kernel
theorem dX4_timeOf_7 : decode cX4_timeOf 7 = .ok (.ifnonnull 13, 3) := by decide +kernel
theorem dX4_timeOf_10 : decode cX4_timeOf 10 = .ok (.new 153, 3) := by decide +kernel
theorem dX4_timeOf_13 : decode cX4_timeOf 13 = .ok (.dup, 1) := by decide +kernel
theorem dX4_timeOf_14 : decode cX4_timeOf 14 = .ok (.ldc 155, 2) := by decide +kernel
theorem dX4_timeOf_16 : decode cX4_timeOf 16 = .ok (.invokespecial 157, 3) := by decide +kernel
theorem dX4_timeOf_19 : decode cX4_timeOf 19 = .ok (.athrow, 1) := by decide +kernel
theorem dX4_timeOf_20 : decode cX4_timeOf 20 = .ok (.aload_n 2, 1) := by decide +kernel
theorem dX4_timeOf_21 : decode cX4_timeOf 21 = .ok (.getfield 191, 3) := by decide +kernel
theorem dX4_timeOf_24 : decode cX4_timeOf 24 = .ok (.lreturn, 1) := by decide +kernel
theorem dX4_timeOfGroup_0 : decode cX4_timeOfGroup 0 = .ok (.aload_n 0, 1) := by decide +kernel
theorem dX4_timeOfGroup_1 : decode cX4_timeOfGroup 1 = .ok (.iload_n 1, 1) := by decide +kernel
theorem dX4_timeOfGroup_2 : decode cX4_timeOfGroup 2 = .ok (.invokevirtual 103, 3) := by decide +kernel
theorem dX4_timeOfGroup_5 : decode cX4_timeOfGroup 5 = .ok (.astore_n 2, 1) := by decide +kernel
theorem dX4_timeOfGroup_6 : decode cX4_timeOfGroup 6 = .ok (.aload_n 2, 1) := by decide +kernel
theorem dX4_timeOfGroup_7 : decode cX4_timeOfGroup 7 = .ok (.ifnull 11, 3) := by decide +kernel
theorem dX4_timeOfGroup_10 : decode cX4_timeOfGroup 10 = .ok (.aload_n 2, 1) := by decide +kernel
theorem dX4_timeOfGroup_11 : decode cX4_timeOfGroup 11 = .ok (.aload_n 0, 1) := by decide +kernel
theorem dX4_timeOfGroup_12 : decode cX4_timeOfGroup 12 = .ok (.getfield 32, 3) := by decide +kernel
theorem dX4_timeOfGroup_15 : decode cX4_timeOfGroup 15 = .ok (.if_acmp .ne 13, 3) := by decide +kernel
theorem dX4_timeOfGroup_18 : decode cX4_timeOfGroup 18 = .ok (.new 91, 3) := by decide +kernel
theorem dX4_timeOfGroup_21 : decode cX4_timeOfGroup 21 = .ok (.dup, 1) := by decide +kernel
theorem dX4_timeOfGroup_22 : decode cX4_timeOfGroup 22 = .ok (.ldc 195, 2) := by decide +kernel
theorem dX4_timeOfGroup_24 : decode cX4_timeOfGroup 24 = .ok (.invokespecial 95, 3) := by decide +kernel
theorem dX4_timeOfGroup_27 : decode cX4_timeOfGroup 27 = .ok (.athrow, 1) := by decide +kernel
theorem dX4_timeOfGroup_28 : decode cX4_timeOfGroup 28 = .ok (.aload_n 2, 1) := by decide +kernel
theorem dX4_timeOfGroup_29 : decode cX4_timeOfGroup 29 = .ok (.getfield 197, 3) := by decide +kernel
theorem dX4_timeOfGroup_32 : decode cX4_timeOfGroup 32 = .ok (.lreturn, 1) := by decide +kernel
theorem dX4_doneBy_0 : decode cX4_doneBy 0 = .ok (.aload_n 0, 1) := by decide +kernel
theorem dX4_doneBy_1 : decode cX4_doneBy 1 = .ok (.iload_n 1, 1) := by decide +kernel
theorem dX4_doneBy_2 : decode cX4_doneBy 2 = .ok (.invokevirtual 149, 3) := by decide +kernel
theorem dX4_doneBy_5 : decode cX4_doneBy 5 = .ok (.astore_n 2, 1) := by decide +kernel
theorem dX4_doneBy_6 : decode cX4_doneBy 6 = .ok (.aload_n 2, 1) := by decide +kernel
theorem dX4_doneBy_7 : decode cX4_doneBy 7 = .ok (.ifnonnull 13, 3) := by decide +kernel
theorem dX4_doneBy_10 : decode cX4_doneBy 10 = .ok (.new 153, 3) := by decide +kernel
theorem dX4_doneBy_13 : decode cX4_doneBy 13 = .ok (.dup, 1) := by decide +kernel
theorem dX4_doneBy_14 : decode cX4_doneBy 14 = .ok (.ldc 155, 2) := by decide +kernel
theorem dX4_doneBy_16 : decode cX4_doneBy 16 = .ok (.invokespecial 157, 3) := by decide +kernel
theorem dX4_doneBy_19 : decode cX4_doneBy 19 = .ok (.athrow, 1) := by decide +kernel
theorem dX4_doneBy_20 : decode cX4_doneBy 20 = .ok (.aload_n 2, 1) := by decide +kernel
theorem dX4_doneBy_21 : decode cX4_doneBy 21 = .ok (.getfield 198, 3) := by decide +kernel
theorem dX4_doneBy_24 : decode cX4_doneBy 24 = .ok (.ireturn, 1) := by decide +kernel
theorem dX4_doneIn_0 : decode cX4_doneIn 0 = .ok (.aload_n 0, 1) := by decide +kernel
theorem dX4_doneIn_1 : decode cX4_doneIn 1 = .ok (.iload_n 1, 1) := by decide +kernel
theorem dX4_doneIn_2 : decode cX4_doneIn 2 = .ok (.invokevirtual 103, 3) := by decide +kernel
theorem dX4_doneIn_5 : decode cX4_doneIn 5 = .ok (.astore_n 2, 1) := by decide +kernel
theorem dX4_doneIn_6 : decode cX4_doneIn 6 = .ok (.aload_n 2, 1) := by decide +kernel
theorem dX4_doneIn_7 : decode cX4_doneIn 7 = .ok (.ifnonnull 13, 3) := by decide +kernel
theorem dX4_doneIn_10 : decode cX4_doneIn 10 = .ok (.new 91, 3) := by decide +kernel
theorem dX4_doneIn_13 : decode cX4_doneIn 13 = .ok (.dup, 1) := by decide +kernel
theorem dX4_doneIn_14 : decode cX4_doneIn 14 = .ok (.ldc 107, 2) := by decide +kernel
theorem dX4_doneIn_16 : decode cX4_doneIn 16 = .ok (.invokespecial 95, 3) := by decide +kernel
theorem dX4_doneIn_19 : decode cX4_doneIn 19 = .ok (.athrow, 1) := by decide +kernel
theorem dX4_doneIn_20 : decode cX4_doneIn 20 = .ok (.aload_n 2, 1) := by decide +kernel
theorem dX4_doneIn_21 : decode cX4_doneIn 21 = .ok (.getfield 201, 3) := by decide +kernel
theorem dX4_doneIn_24 : decode cX4_doneIn 24 = .ok (.ireturn, 1) := by decide +kernel
theorem dX4_admitted_0 : decode cX4_admitted 0 = .ok (.iconst 0, 1) := by decide +kernel
theorem dX4_admitted_1 : decode cX4_admitted 1 = .ok (.istore_n 1, 1) := by decide +kernel
theorem dX4_admitted_2 : decode cX4_admitted 2 = .ok (.iconst 0, 1) := by decide +kernel
theorem dX4_admitted_3 : decode cX4_admitted 3 = .ok (.istore_n 2, 1) := by decide +kernel
theorem dX4_admitted_4 : decode cX4_admitted 4 = .ok (.iload_n 2, 1) := by decide +kernel
theorem dX4_admitted_5 : decode cX4_admitted 5 = .ok (.aload_n 0, 1) := by decide +kernel
theorem dX4_admitted_6 : decode cX4_admitted 6 = .ok (.getfield 21, 3) := by decide +kernel
theorem dX4_admitted_9 : decode cX4_admitted 9 = .ok (.invokevirtual 69, 3) := by decide +kernel
theorem dX4_admitted_12 : decode cX4_admitted 12 = .ok (.if_icmp .ge 35, 3) := by decide +kernel
theorem dX4_admitted_15 : decode cX4_admitted 15 = .ok (.aload_n 0, 1) := by decide +kernel
theorem dX4_admitted_16 : decode cX4_admitted 16 = .ok (.getfield 21, 3) := by decide +kernel
theorem dX4_admitted_19 : decode cX4_admitted 19 = .ok (.iload_n 2, 1) := by decide +kernel
theorem dX4_admitted_20 : decode cX4_admitted 20 = .ok (.invokevirtual 171, 3) := by decide +kernel
theorem dX4_admitted_23 : decode cX4_admitted 23 = .ok (.checkcast 121, 3) := by decide +kernel
theorem dX4_admitted_26 : decode cX4_admitted 26 = .ok (.astore_n 3, 1) := by decide +kernel
theorem dX4_admitted_27 : decode cX4_admitted 27 = .ok (.aload_n 3, 1) := by decide +kernel
theorem dX4_admitted_28 : decode cX4_admitted 28 = .ok (.getfield 158, 3) := by decide +kernel
theorem dX4_admitted_31 : decode cX4_admitted 31 = .ok (.ifCond .ne 10, 3) := by decide +kernel
theorem dX4_admitted_34 : decode cX4_admitted 34 = .ok (.iload_n 1, 1) := by decide +kernel
theorem dX4_admitted_35 : decode cX4_admitted 35 = .ok (.aload_n 3, 1) := by decide +kernel
theorem dX4_admitted_36 : decode cX4_admitted 36 = .ok (.getfield 143, 3) := by decide +kernel
theorem dX4_admitted_39 : decode cX4_admitted 39 = .ok (.iadd, 1) := by decide +kernel
theorem dX4_admitted_40 : decode cX4_admitted 40 = .ok (.istore_n 1, 1) := by decide +kernel
theorem dX4_admitted_41 : decode cX4_admitted 41 = .ok (.iinc 2 1, 3) := by decide +kernel
theorem dX4_admitted_44 : decode cX4_admitted 44 = .ok (.goto (-40), 3) := by decide +kernel
theorem dX4_admitted_47 : decode cX4_admitted 47 = .ok (.iload_n 1, 1) := by decide +kernel
theorem dX4_admitted_48 : decode cX4_admitted 48 = .ok (.ireturn, 1) := by decide +kernel
theorem dX4_promise_0 : decode cX4_promise 0 = .ok (.iconst 0, 1) := by decide +kernel
theorem dX4_promise_1 : decode cX4_promise 1 = .ok (.istore_n 1, 1) := by decide +kernel
theorem dX4_promise_2 : decode cX4_promise 2 = .ok (.iconst 0, 1) := by decide +kernel
theorem dX4_promise_3 : decode cX4_promise 3 = .ok (.istore_n 2, 1) := by decide +kernel
theorem dX4_promise_4 : decode cX4_promise 4 = .ok (.iload_n 2, 1) := by decide +kernel
theorem dX4_promise_5 : decode cX4_promise 5 = .ok (.aload_n 0, 1) := by decide +kernel
theorem dX4_promise_6 : decode cX4_promise 6 = .ok (.getfield 12, 3) := by decide +kernel
theorem dX4_promise_9 : decode cX4_promise 9 = .ok (.invokevirtual 69, 3) := by decide +kernel
theorem dX4_promise_12 : decode cX4_promise 12 = .ok (.if_icmp .ge 26, 3) := by decide +kernel
theorem dX4_promise_15 : decode cX4_promise 15 = .ok (.iload_n 1, 1) := by decide +kernel
theorem dX4_promise_16 : decode cX4_promise 16 = .ok (.aload_n 0, 1) := by decide +kernel
theorem dX4_promise_17 : decode cX4_promise 17 = .ok (.getfield 12, 3) := by decide +kernel
theorem dX4_promise_20 : decode cX4_promise 20 = .ok (.iload_n 2, 1) := by decide +kernel
theorem dX4_promise_21 : decode cX4_promise 21 = .ok (.invokevirtual 171, 3) := by decide +kernel
theorem dX4_promise_24 : decode cX4_promise 24 = .ok (.checkcast 78, 3) := by decide +kernel
theorem dX4_promise_27 : decode cX4_promise 27 = .ok (.getfield 202, 3) := by decide +kernel
theorem dX4_promise_30 : decode cX4_promise 30 = .ok (.iadd, 1) := by decide +kernel
theorem dX4_promise_31 : decode cX4_promise 31 = .ok (.istore_n 1, 1) := by decide +kernel
theorem dX4_promise_32 : decode cX4_promise 32 = .ok (.iinc 2 1, 3) := by decide +kernel
theorem dX4_promise_35 : decode cX4_promise 35 = .ok (.goto (-31), 3) := by decide +kernel
theorem dX4_promise_38 : decode cX4_promise 38 = .ok (.iload_n 1, 1) := by decide +kernel
theorem dX4_promise_39 : decode cX4_promise 39 = .ok (.aload_n 0, 1) := by decide +kernel
theorem dX4_promise_40 : decode cX4_promise 40 = .ok (.getfield 40, 3) := by decide +kernel
theorem dX4_promise_43 : decode cX4_promise 43 = .ok (.invokestatic 205, 3) := by decide +kernel
theorem dX4_promise_46 : decode cX4_promise 46 = .ok (.ireturn, 1) := by decide +kernel
theorem dX4_deadlineOf_0 : decode cX4_deadlineOf 0 = .ok (.aload_n 0, 1) := by decide +kernel
theorem dX4_deadlineOf_1 : decode cX4_deadlineOf 1 = .ok (.iload_n 1, 1) := by decide +kernel
theorem dX4_deadlineOf_2 : decode cX4_deadlineOf 2 = .ok (.invokevirtual 149, 3) := by decide +kernel
theorem dX4_deadlineOf_5 : decode cX4_deadlineOf 5 = .ok (.astore_n 2, 1) := by decide +kernel
theorem dX4_deadlineOf_6 : decode cX4_deadlineOf 6 = .ok (.aload_n 2, 1) := by decide +kernel
theorem dX4_deadlineOf_7 : decode cX4_deadlineOf 7 = .ok (.ifnonnull 13, 3) := by decide +kernel
theorem dX4_deadlineOf_10 : decode cX4_deadlineOf 10 = .ok (.new 153, 3) := by decide +kernel
theorem dX4_deadlineOf_13 : decode cX4_deadlineOf 13 = .ok (.dup, 1) := by decide +kernel
theorem dX4_deadlineOf_14 : decode cX4_deadlineOf 14 = .ok (.ldc 155, 2) := by decide +kernel
theorem dX4_deadlineOf_16 : decode cX4_deadlineOf 16 = .ok (.invokespecial 157, 3) := by decide +kernel
theorem dX4_deadlineOf_19 : decode cX4_deadlineOf 19 = .ok (.athrow, 1) := by decide +kernel
theorem dX4_deadlineOf_20 : decode cX4_deadlineOf 20 = .ok (.aload_n 2, 1) := by decide +kernel
theorem dX4_deadlineOf_21 : decode cX4_deadlineOf 21 = .ok (.invokevirtual 211, 3) := by decide +kernel
theorem dX4_deadlineOf_24 : decode cX4_deadlineOf 24 = .ok (.ifCond .ne 13, 3) := by decide +kernel
theorem dX4_deadlineOf_27 : decode cX4_deadlineOf 27 = .ok (.new 132, 3) := by decide +kernel
theorem dX4_deadlineOf_30 : decode cX4_deadlineOf 30 = .ok (.dup, 1) := by decide +kernel
theorem dX4_deadlineOf_31 : decode cX4_deadlineOf 31 = .ok (.ldc 214, 2) := by decide +kernel
theorem dX4_deadlineOf_33 : decode cX4_deadlineOf 33 = .ok (.invokespecial 136, 3) := by decide +kernel
theorem dX4_deadlineOf_36 : decode cX4_deadlineOf 36 = .ok (.athrow, 1) := by decide +kernel
theorem dX4_deadlineOf_37 : decode cX4_deadlineOf 37 = .ok (.aload_n 2, 1) := by decide +kernel
theorem dX4_deadlineOf_38 : decode cX4_deadlineOf 38 = .ok (.getfield 146, 3) := by decide +kernel
theorem dX4_deadlineOf_41 : decode cX4_deadlineOf 41 = .ok (.ireturn, 1) := by decide +kernel
theorem dX4_urgencyOf_0 : decode cX4_urgencyOf 0 = .ok (.aload_n 0, 1) := by decide +kernel
theorem dX4_urgencyOf_1 : decode cX4_urgencyOf 1 = .ok (.iload_n 1, 1) := by decide +kernel
theorem dX4_urgencyOf_2 : decode cX4_urgencyOf 2 = .ok (.invokevirtual 149, 3) := by decide +kernel
theorem dX4_urgencyOf_5 : decode cX4_urgencyOf 5 = .ok (.astore_n 2, 1) := by decide +kernel
theorem dX4_urgencyOf_6 : decode cX4_urgencyOf 6 = .ok (.aload_n 2, 1) := by decide +kernel
theorem dX4_urgencyOf_7 : decode cX4_urgencyOf 7 = .ok (.ifnonnull 13, 3) := by decide +kernel
theorem dX4_urgencyOf_10 : decode cX4_urgencyOf 10 = .ok (.new 153, 3) := by decide +kernel
theorem dX4_urgencyOf_13 : decode cX4_urgencyOf 13 = .ok (.dup, 1) := by decide +kernel
theorem dX4_urgencyOf_14 : decode cX4_urgencyOf 14 = .ok (.ldc 155, 2) := by decide +kernel
theorem dX4_urgencyOf_16 : decode cX4_urgencyOf 16 = .ok (.invokespecial 157, 3) := by decide +kernel
theorem dX4_urgencyOf_19 : decode cX4_urgencyOf 19 = .ok (.athrow, 1) := by decide +kernel
theorem dX4_urgencyOf_20 : decode cX4_urgencyOf 20 = .ok (.aload_n 0, 1) := by decide +kernel
theorem dX4_urgencyOf_21 : decode cX4_urgencyOf 21 = .ok (.invokevirtual 216, 3) := by decide +kernel
theorem dX4_urgencyOf_24 : decode cX4_urgencyOf 24 = .ok (.aload_n 2, 1) := by decide +kernel
theorem dX4_urgencyOf_25 : decode cX4_urgencyOf 25 = .ok (.getfield 219, 3) := by decide +kernel
theorem dX4_urgencyOf_28 : decode cX4_urgencyOf 28 = .ok (.ldc 222, 2) := by decide +kernel
theorem dX4_urgencyOf_30 : decode cX4_urgencyOf 30 = .ok (.if_icmp .ne 13, 3) := by decide +kernel
theorem dX4_urgencyOf_33 : decode cX4_urgencyOf 33 = .ok (.new 153, 3) := by decide +kernel
theorem dX4_urgencyOf_36 : decode cX4_urgencyOf 36 = .ok (.dup, 1) := by decide +kernel
theorem dX4_urgencyOf_37 : decode cX4_urgencyOf 37 = .ok (.ldc 223, 2) := by decide +kernel
theorem dX4_urgencyOf_39 : decode cX4_urgencyOf 39 = .ok (.invokespecial 157, 3) := by decide +kernel
theorem dX4_urgencyOf_42 : decode cX4_urgencyOf 42 = .ok (.athrow, 1) := by decide +kernel
theorem dX4_urgencyOf_43 : decode cX4_urgencyOf 43 = .ok (.aload_n 2, 1) := by decide +kernel
theorem dX4_urgencyOf_44 : decode cX4_urgencyOf 44 = .ok (.getfield 219, 3) := by decide +kernel
theorem dX4_urgencyOf_47 : decode cX4_urgencyOf 47 = .ok (.ireturn, 1) := by decide +kernel
theorem dX4_missesOf_0 : decode cX4_missesOf 0 = .ok (.aload_n 0, 1) := by decide +kernel
theorem dX4_missesOf_1 : decode cX4_missesOf 1 = .ok (.iload_n 1, 1) := by decide +kernel
theorem dX4_missesOf_2 : decode cX4_missesOf 2 = .ok (.invokevirtual 149, 3) := by decide +kernel
theorem dX4_missesOf_5 : decode cX4_missesOf 5 = .ok (.astore_n 2, 1) := by decide +kernel
theorem dX4_missesOf_6 : decode cX4_missesOf 6 = .ok (.aload_n 2, 1) := by decide +kernel
theorem dX4_missesOf_7 : decode cX4_missesOf 7 = .ok (.ifnonnull 13, 3) := by decide +kernel
theorem dX4_missesOf_10 : decode cX4_missesOf 10 = .ok (.new 153, 3) := by decide +kernel
theorem dX4_missesOf_13 : decode cX4_missesOf 13 = .ok (.dup, 1) := by decide +kernel
theorem dX4_missesOf_14 : decode cX4_missesOf 14 = .ok (.ldc 155, 2) := by decide +kernel
theorem dX4_missesOf_16 : decode cX4_missesOf 16 = .ok (.invokespecial 157, 3) := by decide +kernel
theorem dX4_missesOf_19 : decode cX4_missesOf 19 = .ok (.athrow, 1) := by decide +kernel
theorem dX4_missesOf_20 : decode cX4_missesOf 20 = .ok (.aload_n 2, 1) := by decide +kernel
theorem dX4_missesOf_21 : decode cX4_missesOf 21 = .ok (.getfield 225, 3) := by decide +kernel
theorem dX4_missesOf_24 : decode cX4_missesOf 24 = .ok (.ireturn, 1) := by decide +kernel
theorem dX4_misses_0 : decode cX4_misses 0 = .ok (.iconst 0, 1) := by decide +kernel
theorem dX4_misses_1 : decode cX4_misses 1 = .ok (.istore_n 1, 1) := by decide +kernel
theorem dX4_misses_2 : decode cX4_misses 2 = .ok (.iconst 0, 1) := by decide +kernel
theorem dX4_misses_3 : decode cX4_misses 3 = .ok (.istore_n 2, 1) := by decide +kernel
theorem dX4_misses_4 : decode cX4_misses 4 = .ok (.iload_n 2, 1) := by decide +kernel
theorem dX4_misses_5 : decode cX4_misses 5 = .ok (.aload_n 0, 1) := by decide +kernel
theorem dX4_misses_6 : decode cX4_misses 6 = .ok (.getfield 21, 3) := by decide +kernel
theorem dX4_misses_9 : decode cX4_misses 9 = .ok (.invokevirtual 69, 3) := by decide +kernel
theorem dX4_misses_12 : decode cX4_misses 12 = .ok (.if_icmp .ge 26, 3) := by decide +kernel
theorem dX4_misses_15 : decode cX4_misses 15 = .ok (.iload_n 1, 1) := by decide +kernel
theorem dX4_misses_16 : decode cX4_misses 16 = .ok (.aload_n 0, 1) := by decide +kernel
theorem dX4_misses_17 : decode cX4_misses 17 = .ok (.getfield 21, 3) := by decide +kernel
theorem dX4_misses_20 : decode cX4_misses 20 = .ok (.iload_n 2, 1) := by decide +kernel
theorem dX4_misses_21 : decode cX4_misses 21 = .ok (.invokevirtual 171, 3) := by decide +kernel
theorem dX4_misses_24 : decode cX4_misses 24 = .ok (.checkcast 121, 3) := by decide +kernel
theorem dX4_misses_27 : decode cX4_misses 27 = .ok (.getfield 225, 3) := by decide +kernel
theorem dX4_misses_30 : decode cX4_misses 30 = .ok (.iadd, 1) := by decide +kernel
theorem dX4_misses_31 : decode cX4_misses 31 = .ok (.istore_n 1, 1) := by decide +kernel
theorem dX4_misses_32 : decode cX4_misses 32 = .ok (.iinc 2 1, 3) := by decide +kernel
theorem dX4_misses_35 : decode cX4_misses 35 = .ok (.goto (-31), 3) := by decide +kernel
theorem dX4_misses_38 : decode cX4_misses 38 = .ok (.iload_n 1, 1) := by decide +kernel
theorem dX4_misses_39 : decode cX4_misses 39 = .ok (.ireturn, 1) := by decide +kernel
theorem dX4_take_0 : decode cX4_take 0 = .ok (.aload_n 0, 1) := by decide +kernel
theorem dX4_take_1 : decode cX4_take 1 = .ok (.iload_n 1, 1) := by decide +kernel
theorem dX4_take_2 : decode cX4_take 2 = .ok (.invokevirtual 149, 3) := by decide +kernel
theorem dX4_take_5 : decode cX4_take 5 = .ok (.astore_n 3, 1) := by decide +kernel
theorem dX4_take_6 : decode cX4_take 6 = .ok (.aload_n 3, 1) := by decide +kernel
theorem dX4_take_7 : decode cX4_take 7 = .ok (.ifnonnull 13, 3) := by decide +kernel
theorem dX4_take_10 : decode cX4_take 10 = .ok (.new 153, 3) := by decide +kernel
theorem dX4_take_13 : decode cX4_take 13 = .ok (.dup, 1) := by decide +kernel
theorem dX4_take_14 : decode cX4_take 14 = .ok (.ldc 155, 2) := by decide +kernel
theorem dX4_take_16 : decode cX4_take 16 = .ok (.invokespecial 157, 3) := by decide +kernel
theorem dX4_take_19 : decode cX4_take 19 = .ok (.athrow, 1) := by decide +kernel
theorem dX4_take_20 : decode cX4_take 20 = .ok (.aload_n 0, 1) := by decide +kernel
theorem dX4_take_21 : decode cX4_take 21 = .ok (.iload_n 2, 1) := by decide +kernel
theorem dX4_take_22 : decode cX4_take 22 = .ok (.invokevirtual 228, 3) := by decide +kernel
theorem dX4_take_25 : decode cX4_take 25 = .ok (.astore 4, 2) := by decide +kernel
theorem dX4_take_27 : decode cX4_take 27 = .ok (.aload 4, 2) := by decide +kernel
theorem dX4_take_29 : decode cX4_take 29 = .ok (.ifnonnull 13, 3) := by decide +kernel
theorem dX4_take_32 : decode cX4_take 32 = .ok (.new 91, 3) := by decide +kernel
theorem dX4_take_35 : decode cX4_take 35 = .ok (.dup, 1) := by decide +kernel
theorem dX4_take_36 : decode cX4_take 36 = .ok (.ldc 232, 2) := by decide +kernel
theorem dX4_take_38 : decode cX4_take 38 = .ok (.invokespecial 95, 3) := by decide +kernel
theorem dX4_take_41 : decode cX4_take 41 = .ok (.athrow, 1) := by decide +kernel
theorem dX4_take_42 : decode cX4_take 42 = .ok (.aload_n 3, 1) := by decide +kernel
theorem dX4_take_43 : decode cX4_take 43 = .ok (.getfield 158, 3) := by decide +kernel
theorem dX4_take_46 : decode cX4_take 46 = .ok (.ifCond .ne 19, 3) := by decide +kernel
theorem dX4_take_49 : decode cX4_take 49 = .ok (.aload_n 3, 1) := by decide +kernel
theorem dX4_take_50 : decode cX4_take 50 = .ok (.getfield 183, 3) := by decide +kernel
theorem dX4_take_53 : decode cX4_take 53 = .ok (.ifnonnull 12, 3) := by decide +kernel
theorem dX4_take_56 : decode cX4_take 56 = .ok (.aload 4, 2) := by decide +kernel
theorem dX4_take_58 : decode cX4_take 58 = .ok (.getfield 175, 3) := by decide +kernel
theorem dX4_take_61 : decode cX4_take 61 = .ok (.aload_n 3, 1) := by decide +kernel
theorem dX4_take_62 : decode cX4_take 62 = .ok (.if_acmp .ne 13, 3) := by decide +kernel
theorem dX4_take_65 : decode cX4_take 65 = .ok (.new 73, 3) := by decide +kernel
theorem dX4_take_68 : decode cX4_take 68 = .ok (.dup, 1) := by decide +kernel
theorem dX4_take_69 : decode cX4_take 69 = .ok (.ldc 234, 2) := by decide +kernel
theorem dX4_take_71 : decode cX4_take 71 = .ok (.invokespecial 77, 3) := by decide +kernel
theorem dX4_take_74 : decode cX4_take 74 = .ok (.athrow, 1) := by decide +kernel
theorem dX4_take_75 : decode cX4_take 75 = .ok (.aload 4, 2) := by decide +kernel
theorem dX4_take_77 : decode cX4_take 77 = .ok (.getfield 175, 3) := by decide +kernel
theorem dX4_take_80 : decode cX4_take 80 = .ok (.ifnonnull 11, 3) := by decide +kernel
theorem dX4_take_83 : decode cX4_take 83 = .ok (.aload 4, 2) := by decide +kernel
theorem dX4_take_85 : decode cX4_take 85 = .ok (.aload_n 3, 1) := by decide +kernel
theorem dX4_take_86 : decode cX4_take 86 = .ok (.putfield 175, 3) := by decide +kernel
theorem dX4_take_89 : decode cX4_take 89 = .ok (.iconst 1, 1) := by decide +kernel
theorem dX4_take_90 : decode cX4_take 90 = .ok (.ireturn, 1) := by decide +kernel
theorem dX4_take_91 : decode cX4_take 91 = .ok (.aload 4, 2) := by decide +kernel
theorem dX4_take_93 : decode cX4_take 93 = .ok (.getfield 175, 3) := by decide +kernel
theorem dX4_take_96 : decode cX4_take 96 = .ok (.aload_n 3, 1) := by decide +kernel
theorem dX4_take_97 : decode cX4_take 97 = .ok (.invokestatic 236, 3) := by decide +kernel
theorem dX4_take_100 : decode cX4_take 100 = .ok (.ifCond .eq 13, 3) := by decide +kernel
theorem dX4_take_103 : decode cX4_take 103 = .ok (.new 132, 3) := by decide +kernel
theorem dX4_take_106 : decode cX4_take 106 = .ok (.dup, 1) := by decide +kernel
theorem dX4_take_107 : decode cX4_take 107 = .ok (.ldc 240, 2) := by decide +kernel
theorem dX4_take_109 : decode cX4_take 109 = .ok (.invokespecial 136, 3) := by decide +kernel
theorem dX4_take_112 : decode cX4_take 112 = .ok (.athrow, 1) := by decide +kernel
theorem dX4_take_113 : decode cX4_take 113 = .ok (.aload_n 3, 1) := by decide +kernel
theorem dX4_take_114 : decode cX4_take 114 = .ok (.aload 4, 2) := by decide +kernel
theorem dX4_take_116 : decode cX4_take 116 = .ok (.putfield 183, 3) := by decide +kernel
theorem dX4_take_119 : decode cX4_take 119 = .ok (.aload 4, 2) := by decide +kernel
theorem dX4_take_121 : decode cX4_take 121 = .ok (.getfield 242, 3) := by decide +kernel
theorem dX4_take_124 : decode cX4_take 124 = .ok (.aload_n 3, 1) := by decide +kernel
theorem dX4_take_125 : decode cX4_take 125 = .ok (.invokevirtual 55, 3) := by decide +kernel
theorem dX4_take_128 : decode cX4_take 128 = .ok (.pop, 1) := by decide +kernel
theorem dX4_take_129 : decode cX4_take 129 = .ok (.iconst 0, 1) := by decide +kernel
theorem dX4_take_130 : decode cX4_take 130 = .ok (.ireturn, 1) := by decide +kernel
theorem dX4_release_0 : decode cX4_release 0 = .ok (.aload_n 0, 1) := by decide +kernel
theorem dX4_release_1 : decode cX4_release 1 = .ok (.iload_n 1, 1) := by decide +kernel
theorem dX4_release_2 : decode cX4_release 2 = .ok (.invokevirtual 228, 3) := by decide +kernel
theorem dX4_release_5 : decode cX4_release 5 = .ok (.astore_n 2, 1) := by decide +kernel
theorem dX4_release_6 : decode cX4_release 6 = .ok (.aload_n 2, 1) := by decide +kernel
theorem dX4_release_7 : decode cX4_release 7 = .ok (.ifnonnull 13, 3) := by decide +kernel
theorem dX4_release_10 : decode cX4_release 10 = .ok (.new 91, 3) := by decide +kernel
theorem dX4_release_13 : decode cX4_release 13 = .ok (.dup, 1) := by decide +kernel
theorem dX4_release_14 : decode cX4_release 14 = .ok (.ldc 232, 2) := by decide +kernel
theorem dX4_release_16 : decode cX4_release 16 = .ok (.invokespecial 95, 3) := by decide +kernel
theorem dX4_release_19 : decode cX4_release 19 = .ok (.athrow, 1) := by decide +kernel
theorem dX4_release_20 : decode cX4_release 20 = .ok (.aload_n 2, 1) := by decide +kernel
theorem dX4_release_21 : decode cX4_release 21 = .ok (.getfield 175, 3) := by decide +kernel
theorem dX4_release_24 : decode cX4_release 24 = .ok (.ifnonnull 13, 3) := by decide +kernel
theorem dX4_release_27 : decode cX4_release 27 = .ok (.new 73, 3) := by decide +kernel
theorem dX4_release_30 : decode cX4_release 30 = .ok (.dup, 1) := by decide +kernel
theorem dX4_release_31 : decode cX4_release 31 = .ok (.ldc 245, 2) := by decide +kernel
theorem dX4_release_33 : decode cX4_release 33 = .ok (.invokespecial 77, 3) := by decide +kernel
theorem dX4_release_36 : decode cX4_release 36 = .ok (.athrow, 1) := by decide +kernel
theorem dX4_release_37 : decode cX4_release 37 = .ok (.aload_n 2, 1) := by decide +kernel
theorem dX4_release_38 : decode cX4_release 38 = .ok (.invokestatic 179, 3) := by decide +kernel
theorem dX4_release_41 : decode cX4_release 41 = .ok (.aload_n 2, 1) := by decide +kernel
theorem dX4_release_42 : decode cX4_release 42 = .ok (.getfield 175, 3) := by decide +kernel
theorem dX4_release_45 : decode cX4_release 45 = .ok (.invokestatic 247, 3) := by decide +kernel
theorem dX4_release_48 : decode cX4_release 48 = .ok (.ireturn, 1) := by decide +kernel
theorem dX4_holderOf_0 : decode cX4_holderOf 0 = .ok (.aload_n 0, 1) := by decide +kernel
theorem dX4_holderOf_1 : decode cX4_holderOf 1 = .ok (.iload_n 1, 1) := by decide +kernel
theorem dX4_holderOf_2 : decode cX4_holderOf 2 = .ok (.invokevirtual 228, 3) := by decide +kernel
theorem dX4_holderOf_5 : decode cX4_holderOf 5 = .ok (.astore_n 2, 1) := by decide +kernel
theorem dX4_holderOf_6 : decode cX4_holderOf 6 = .ok (.aload_n 2, 1) := by decide +kernel
theorem dX4_holderOf_7 : decode cX4_holderOf 7 = .ok (.ifnonnull 13, 3) := by decide +kernel
theorem dX4_holderOf_10 : decode cX4_holderOf 10 = .ok (.new 91, 3) := by decide +kernel
theorem dX4_holderOf_13 : decode cX4_holderOf 13 = .ok (.dup, 1) := by decide +kernel
theorem dX4_holderOf_14 : decode cX4_holderOf 14 = .ok (.ldc 232, 2) := by decide +kernel
theorem dX4_holderOf_16 : decode cX4_holderOf 16 = .ok (.invokespecial 95, 3) := by decide +kernel
theorem dX4_holderOf_19 : decode cX4_holderOf 19 = .ok (.athrow, 1) := by decide +kernel
theorem dX4_holderOf_20 : decode cX4_holderOf 20 = .ok (.aload_n 2, 1) := by decide +kernel
theorem dX4_holderOf_21 : decode cX4_holderOf 21 = .ok (.getfield 175, 3) := by decide +kernel
theorem dX4_holderOf_24 : decode cX4_holderOf 24 = .ok (.invokestatic 247, 3) := by decide +kernel
theorem dX4_holderOf_27 : decode cX4_holderOf 27 = .ok (.ireturn, 1) := by decide +kernel
theorem dX4_waiterAt_0 : decode cX4_waiterAt 0 = .ok (.aload_n 0, 1) := by decide +kernel
theorem dX4_waiterAt_1 : decode cX4_waiterAt 1 = .ok (.iload_n 1, 1) := by decide +kernel
theorem dX4_waiterAt_2 : decode cX4_waiterAt 2 = .ok (.invokevirtual 228, 3) := by decide +kernel
theorem dX4_waiterAt_5 : decode cX4_waiterAt 5 = .ok (.astore_n 3, 1) := by decide +kernel
theorem dX4_waiterAt_6 : decode cX4_waiterAt 6 = .ok (.aload_n 3, 1) := by decide +kernel
theorem dX4_waiterAt_7 : decode cX4_waiterAt 7 = .ok (.ifnonnull 13, 3) := by decide +kernel
theorem dX4_waiterAt_10 : decode cX4_waiterAt 10 = .ok (.new 91, 3) := by decide +kernel
theorem dX4_waiterAt_13 : decode cX4_waiterAt 13 = .ok (.dup, 1) := by decide +kernel
theorem dX4_waiterAt_14 : decode cX4_waiterAt 14 = .ok (.ldc 232, 2) := by decide +kernel
theorem dX4_waiterAt_16 : decode cX4_waiterAt 16 = .ok (.invokespecial 95, 3) := by decide +kernel
theorem dX4_waiterAt_19 : decode cX4_waiterAt 19 = .ok (.athrow, 1) := by decide +kernel
theorem dX4_waiterAt_20 : decode cX4_waiterAt 20 = .ok (.iload_n 2, 1) := by decide +kernel
theorem dX4_waiterAt_21 : decode cX4_waiterAt 21 = .ok (.ifCond .lt 14, 3) := by decide +kernel
theorem dX4_waiterAt_24 : decode cX4_waiterAt 24 = .ok (.iload_n 2, 1) := by decide +kernel
theorem dX4_waiterAt_25 : decode cX4_waiterAt 25 = .ok (.aload_n 3, 1) := by decide +kernel
theorem dX4_waiterAt_26 : decode cX4_waiterAt 26 = .ok (.getfield 242, 3) := by decide +kernel
theorem dX4_waiterAt_29 : decode cX4_waiterAt 29 = .ok (.invokevirtual 69, 3) := by decide +kernel
theorem dX4_waiterAt_32 : decode cX4_waiterAt 32 = .ok (.if_icmp .lt 13, 3) := by decide +kernel
theorem dX4_waiterAt_35 : decode cX4_waiterAt 35 = .ok (.new 153, 3) := by decide +kernel
theorem dX4_waiterAt_38 : decode cX4_waiterAt 38 = .ok (.dup, 1) := by decide +kernel
theorem dX4_waiterAt_39 : decode cX4_waiterAt 39 = .ok (.ldc 251, 2) := by decide +kernel
theorem dX4_waiterAt_41 : decode cX4_waiterAt 41 = .ok (.invokespecial 157, 3) := by decide +kernel
theorem dX4_waiterAt_44 : decode cX4_waiterAt 44 = .ok (.athrow, 1) := by decide +kernel
theorem dX4_waiterAt_45 : decode cX4_waiterAt 45 = .ok (.aload_n 3, 1) := by decide +kernel
theorem dX4_waiterAt_46 : decode cX4_waiterAt 46 = .ok (.getfield 242, 3) := by decide +kernel
theorem dX4_waiterAt_49 : decode cX4_waiterAt 49 = .ok (.iload_n 2, 1) := by decide +kernel
theorem dX4_waiterAt_50 : decode cX4_waiterAt 50 = .ok (.invokevirtual 171, 3) := by decide +kernel
theorem dX4_waiterAt_53 : decode cX4_waiterAt 53 = .ok (.checkcast 121, 3) := by decide +kernel
theorem dX4_waiterAt_56 : decode cX4_waiterAt 56 = .ok (.invokestatic 247, 3) := by decide +kernel
theorem dX4_waiterAt_59 : decode cX4_waiterAt 59 = .ok (.ireturn, 1) := by decide +kernel
theorem dX4_choice_0 : decode cX4_choice 0 = .ok (.aload_n 0, 1) := by decide +kernel
theorem dX4_choice_1 : decode cX4_choice 1 = .ok (.iload_n 1, 1) := by decide +kernel
theorem dX4_choice_2 : decode cX4_choice 2 = .ok (.invokevirtual 87, 3) := by decide +kernel
theorem dX4_choice_5 : decode cX4_choice 5 = .ok (.astore_n 2, 1) := by decide +kernel
theorem dX4_choice_6 : decode cX4_choice 6 = .ok (.aload_n 2, 1) := by decide +kernel
theorem dX4_choice_7 : decode cX4_choice 7 = .ok (.ifnonnull 13, 3) := by decide +kernel
theorem dX4_choice_10 : decode cX4_choice 10 = .ok (.new 91, 3) := by decide +kernel
theorem dX4_choice_13 : decode cX4_choice 13 = .ok (.dup, 1) := by decide +kernel
theorem dX4_choice_14 : decode cX4_choice 14 = .ok (.ldc 93, 2) := by decide +kernel
theorem dX4_choice_16 : decode cX4_choice 16 = .ok (.invokespecial 95, 3) := by decide +kernel
theorem dX4_choice_19 : decode cX4_choice 19 = .ok (.athrow, 1) := by decide +kernel
theorem dX4_choice_20 : decode cX4_choice 20 = .ok (.aload_n 0, 1) := by decide +kernel
theorem dX4_choice_21 : decode cX4_choice 21 = .ok (.iconst 1, 1) := by decide +kernel
theorem dX4_choice_22 : decode cX4_choice 22 = .ok (.invokevirtual 253, 3) := by decide +kernel
theorem dX4_choice_25 : decode cX4_choice 25 = .ok (.aload_n 2, 1) := by decide +kernel
theorem dX4_choice_26 : decode cX4_choice 26 = .ok (.getfield 257, 3) := by decide +kernel
theorem dX4_choice_29 : decode cX4_choice 29 = .ok (.invokestatic 247, 3) := by decide +kernel
theorem dX4_choice_32 : decode cX4_choice 32 = .ok (.ireturn, 1) := by decide +kernel
theorem dX4_choiceByComparing_0 : decode cX4_choiceByComparing 0 = .ok (.aload_n 0, 1) := by decide +kernel
theorem dX4_choiceByComparing_1 : decode cX4_choiceByComparing 1 = .ok (.iload_n 1, 1) := by decide +kernel
theorem dX4_choiceByComparing_2 : decode cX4_choiceByComparing 2 = .ok (.invokevirtual 87, 3) := by decide +kernel
theorem dX4_choiceByComparing_5 : decode cX4_choiceByComparing 5 = .ok (.astore_n 2, 1) := by decide +kernel
theorem dX4_choiceByComparing_6 : decode cX4_choiceByComparing 6 = .ok (.aload_n 2, 1) := by decide +kernel
theorem dX4_choiceByComparing_7 : decode cX4_choiceByComparing 7 = .ok (.ifnonnull 13, 3) := by decide +kernel
theorem dX4_choiceByComparing_10 : decode cX4_choiceByComparing 10 = .ok (.new 91, 3) := by decide +kernel
theorem dX4_choiceByComparing_13 : decode cX4_choiceByComparing 13 = .ok (.dup, 1) := by decide +kernel
theorem dX4_choiceByComparing_14 : decode cX4_choiceByComparing 14 = .ok (.ldc 93, 2) := by decide +kernel
theorem dX4_choiceByComparing_16 : decode cX4_choiceByComparing 16 = .ok (.invokespecial 95, 3) := by decide +kernel
theorem dX4_choiceByComparing_19 : decode cX4_choiceByComparing 19 = .ok (.athrow, 1) := by decide +kernel
theorem dX4_choiceByComparing_20 : decode cX4_choiceByComparing 20 = .ok (.aload_n 0, 1) := by decide +kernel
theorem dX4_choiceByComparing_21 : decode cX4_choiceByComparing 21 = .ok (.iconst 0, 1) := by decide +kernel
theorem dX4_choiceByComparing_22 : decode cX4_choiceByComparing 22 = .ok (.invokevirtual 253, 3) := by decide +kernel
theorem dX4_choiceByComparing_25 : decode cX4_choiceByComparing 25 = .ok (.aload_n 2, 1) := by decide +kernel
theorem dX4_choiceByComparing_26 : decode cX4_choiceByComparing 26 = .ok (.getfield 257, 3) := by decide +kernel
theorem dX4_choiceByComparing_29 : decode cX4_choiceByComparing 29 = .ok (.invokestatic 247, 3) := by decide +kernel
theorem dX4_choiceByComparing_32 : decode cX4_choiceByComparing 32 = .ok (.ireturn, 1) := by decide +kernel
theorem dX4_pass_0 : decode cX4_pass 0 = .ok (.iload_n 1, 1) := by decide +kernel
theorem dX4_pass_1 : decode cX4_pass 1 = .ok (.iconst 1, 1) := by decide +kernel
theorem dX4_pass_2 : decode cX4_pass 2 = .ok (.if_icmp .lt 9, 3) := by decide +kernel
theorem dX4_pass_5 : decode cX4_pass 5 = .ok (.iload_n 1, 1) := by decide +kernel
theorem dX4_pass_6 : decode cX4_pass 6 = .ok (.bipush 50, 2) := by decide +kernel
theorem dX4_pass_8 : decode cX4_pass 8 = .ok (.if_icmp .le 14, 3) := by decide +kernel
theorem dX4_pass_11 : decode cX4_pass 11 = .ok (.new 62, 3) := by decide +kernel
theorem dX4_pass_14 : decode cX4_pass 14 = .ok (.dup, 1) := by decide +kernel
theorem dX4_pass_15 : decode cX4_pass 15 = .ok (.ldc_w 260, 3) := by decide +kernel
theorem dX4_pass_18 : decode cX4_pass 18 = .ok (.invokespecial 66, 3) := by decide +kernel
theorem dX4_pass_21 : decode cX4_pass 21 = .ok (.athrow, 1) := by decide +kernel
theorem dX4_pass_22 : decode cX4_pass 22 = .ok (.aload_n 0, 1) := by decide +kernel
theorem dX4_pass_23 : decode cX4_pass 23 = .ok (.getfield 43, 3) := by decide +kernel
theorem dX4_pass_26 : decode cX4_pass 26 = .ok (.iload_n 1, 1) := by decide +kernel
theorem dX4_pass_27 : decode cX4_pass 27 = .ok (.iadd, 1) := by decide +kernel
theorem dX4_pass_28 : decode cX4_pass 28 = .ok (.sipush 900, 3) := by decide +kernel
theorem dX4_pass_31 : decode cX4_pass 31 = .ok (.if_icmp .le 14, 3) := by decide +kernel
theorem dX4_pass_34 : decode cX4_pass 34 = .ok (.new 73, 3) := by decide +kernel
theorem dX4_pass_37 : decode cX4_pass 37 = .ok (.dup, 1) := by decide +kernel
theorem dX4_pass_38 : decode cX4_pass 38 = .ok (.ldc_w 262, 3) := by decide +kernel
theorem dX4_pass_41 : decode cX4_pass 41 = .ok (.invokespecial 77, 3) := by decide +kernel
theorem dX4_pass_44 : decode cX4_pass 44 = .ok (.athrow, 1) := by decide +kernel
theorem dX4_pass_45 : decode cX4_pass 45 = .ok (.aload_n 0, 1) := by decide +kernel
theorem dX4_pass_46 : decode cX4_pass 46 = .ok (.getfield 32, 3) := by decide +kernel
theorem dX4_pass_49 : decode cX4_pass 49 = .ok (.getfield 201, 3) := by decide +kernel
theorem dX4_pass_52 : decode cX4_pass 52 = .ok (.istore_n 2, 1) := by decide +kernel
theorem dX4_pass_53 : decode cX4_pass 53 = .ok (.iconst 0, 1) := by decide +kernel
theorem dX4_pass_54 : decode cX4_pass 54 = .ok (.istore_n 3, 1) := by decide +kernel
theorem dX4_pass_55 : decode cX4_pass 55 = .ok (.iload_n 3, 1) := by decide +kernel
theorem dX4_pass_56 : decode cX4_pass 56 = .ok (.iload_n 1, 1) := by decide +kernel
theorem dX4_pass_57 : decode cX4_pass 57 = .ok (.if_icmp .ge 13, 3) := by decide +kernel
theorem dX4_pass_60 : decode cX4_pass 60 = .ok (.aload_n 0, 1) := by decide +kernel
theorem dX4_pass_61 : decode cX4_pass 61 = .ok (.invokevirtual 264, 3) := by decide +kernel
theorem dX4_pass_64 : decode cX4_pass 64 = .ok (.iinc 3 1, 3) := by decide +kernel
theorem dX4_pass_67 : decode cX4_pass 67 = .ok (.goto (-12), 3) := by decide +kernel
theorem dX4_pass_70 : decode cX4_pass 70 = .ok (.aload_n 0, 1) := by decide +kernel
theorem dX4_pass_71 : decode cX4_pass 71 = .ok (.getfield 32, 3) := by decide +kernel
theorem dX4_pass_74 : decode cX4_pass 74 = .ok (.getfield 201, 3) := by decide +kernel
theorem dX4_pass_77 : decode cX4_pass 77 = .ok (.iload_n 2, 1) := by decide +kernel
theorem dX4_pass_78 : decode cX4_pass 78 = .ok (.isub, 1) := by decide +kernel
theorem dX4_pass_79 : decode cX4_pass 79 = .ok (.ireturn, 1) := by decide +kernel
theorem dX4_now_0 : decode cX4_now 0 = .ok (.aload_n 0, 1) := by decide +kernel
theorem dX4_now_1 : decode cX4_now 1 = .ok (.getfield 43, 3) := by decide +kernel
theorem dX4_now_4 : decode cX4_now 4 = .ok (.ireturn, 1) := by decide +kernel
theorem dX4_moves_0 : decode cX4_moves 0 = .ok (.aload_n 0, 1) := by decide +kernel
theorem dX4_moves_1 : decode cX4_moves 1 = .ok (.getfield 46, 3) := by decide +kernel
theorem dX4_moves_4 : decode cX4_moves 4 = .ok (.ireturn, 1) := by decide +kernel
theorem dX4_usedShare_0 : decode cX4_usedShare 0 = .ok (.aload_n 0, 1) := by decide +kernel
theorem dX4_usedShare_1 : decode cX4_usedShare 1 = .ok (.getfield 52, 3) := by decide +kernel
theorem dX4_usedShare_4 : decode cX4_usedShare 4 = .ok (.ifCond .ne 14, 3) := by decide +kernel
theorem dX4_usedShare_7 : decode cX4_usedShare 7 = .ok (.new 267, 3) := by decide +kernel
theorem dX4_usedShare_10 : decode cX4_usedShare 10 = .ok (.dup, 1) := by decide +kernel
theorem dX4_usedShare_11 : decode cX4_usedShare 11 = .ok (.ldc_w 269, 3) := by decide +kernel
theorem dX4_usedShare_14 : decode cX4_usedShare 14 = .ok (.invokespecial 271, 3) := by decide +kernel
theorem dX4_usedShare_17 : decode cX4_usedShare 17 = .ok (.athrow, 1) := by decide +kernel
theorem dX4_usedShare_18 : decode cX4_usedShare 18 = .ok (.aload_n 0, 1) := by decide +kernel
theorem dX4_usedShare_19 : decode cX4_usedShare 19 = .ok (.getfield 49, 3) := by decide +kernel
theorem dX4_usedShare_22 : decode cX4_usedShare 22 = .ok (.i2f, 1) := by decide +kernel
theorem dX4_usedShare_23 : decode cX4_usedShare 23 = .ok (.aload_n 0, 1) := by decide +kernel
theorem dX4_usedShare_24 : decode cX4_usedShare 24 = .ok (.getfield 52, 3) := by decide +kernel
theorem dX4_usedShare_27 : decode cX4_usedShare 27 = .ok (.i2f, 1) := by decide +kernel
theorem dX4_usedShare_28 : decode cX4_usedShare 28 = .ok (.fdiv, 1) := by decide +kernel
theorem dX4_usedShare_29 : decode cX4_usedShare 29 = .ok (.freturn, 1) := by decide +kernel
theorem dX4_meanHeat_0 : decode cX4_meanHeat 0 = .ok (.aload_n 0, 1) := by decide +kernel
theorem dX4_meanHeat_1 : decode cX4_meanHeat 1 = .ok (.getfield 12, 3) := by decide +kernel
theorem dX4_meanHeat_4 : decode cX4_meanHeat 4 = .ok (.invokevirtual 69, 3) := by decide +kernel
theorem dX4_meanHeat_7 : decode cX4_meanHeat 7 = .ok (.istore_n 1, 1) := by decide +kernel
theorem dX4_meanHeat_8 : decode cX4_meanHeat 8 = .ok (.iload_n 1, 1) := by decide +kernel
theorem dX4_meanHeat_9 : decode cX4_meanHeat 9 = .ok (.ifCond .ne 14, 3) := by decide +kernel
theorem dX4_meanHeat_12 : decode cX4_meanHeat 12 = .ok (.new 267, 3) := by decide +kernel
theorem dX4_meanHeat_15 : decode cX4_meanHeat 15 = .ok (.dup, 1) := by decide +kernel
theorem dX4_meanHeat_16 : decode cX4_meanHeat 16 = .ok (.ldc_w 272, 3) := by decide +kernel
theorem dX4_meanHeat_19 : decode cX4_meanHeat 19 = .ok (.invokespecial 271, 3) := by decide +kernel
theorem dX4_meanHeat_22 : decode cX4_meanHeat 22 = .ok (.athrow, 1) := by decide +kernel
theorem dX4_meanHeat_23 : decode cX4_meanHeat 23 = .ok (.iconst 0, 1) := by decide +kernel
theorem dX4_meanHeat_24 : decode cX4_meanHeat 24 = .ok (.istore_n 2, 1) := by decide +kernel
theorem dX4_meanHeat_25 : decode cX4_meanHeat 25 = .ok (.iconst 0, 1) := by decide +kernel
theorem dX4_meanHeat_26 : decode cX4_meanHeat 26 = .ok (.istore_n 3, 1) := by decide +kernel
theorem dX4_meanHeat_27 : decode cX4_meanHeat 27 = .ok (.iload_n 3, 1) := by decide +kernel
theorem dX4_meanHeat_28 : decode cX4_meanHeat 28 = .ok (.iload_n 1, 1) := by decide +kernel
theorem dX4_meanHeat_29 : decode cX4_meanHeat 29 = .ok (.if_icmp .ge 26, 3) := by decide +kernel
theorem dX4_meanHeat_32 : decode cX4_meanHeat 32 = .ok (.iload_n 2, 1) := by decide +kernel
theorem dX4_meanHeat_33 : decode cX4_meanHeat 33 = .ok (.aload_n 0, 1) := by decide +kernel
theorem dX4_meanHeat_34 : decode cX4_meanHeat 34 = .ok (.getfield 12, 3) := by decide +kernel
theorem dX4_meanHeat_37 : decode cX4_meanHeat 37 = .ok (.iload_n 3, 1) := by decide +kernel
theorem dX4_meanHeat_38 : decode cX4_meanHeat 38 = .ok (.invokevirtual 171, 3) := by decide +kernel
theorem dX4_meanHeat_41 : decode cX4_meanHeat 41 = .ok (.checkcast 78, 3) := by decide +kernel
theorem dX4_meanHeat_44 : decode cX4_meanHeat 44 = .ok (.getfield 96, 3) := by decide +kernel
theorem dX4_meanHeat_47 : decode cX4_meanHeat 47 = .ok (.iadd, 1) := by decide +kernel
theorem dX4_meanHeat_48 : decode cX4_meanHeat 48 = .ok (.istore_n 2, 1) := by decide +kernel
theorem dX4_meanHeat_49 : decode cX4_meanHeat 49 = .ok (.iinc 3 1, 3) := by decide +kernel
theorem dX4_meanHeat_52 : decode cX4_meanHeat 52 = .ok (.goto (-25), 3) := by decide +kernel
theorem dX4_meanHeat_55 : decode cX4_meanHeat 55 = .ok (.iload_n 2, 1) := by decide +kernel
theorem dX4_meanHeat_56 : decode cX4_meanHeat 56 = .ok (.i2d, 1) := by decide +kernel
theorem dX4_meanHeat_57 : decode cX4_meanHeat 57 = .ok (.iload_n 1, 1) := by decide +kernel
theorem dX4_meanHeat_58 : decode cX4_meanHeat 58 = .ok (.i2d, 1) := by decide +kernel
theorem dX4_meanHeat_59 : decode cX4_meanHeat 59 = .ok (.ddiv, 1) := by decide +kernel
theorem dX4_meanHeat_60 : decode cX4_meanHeat 60 = .ok (.dreturn, 1) := by decide +kernel
theorem dX4_isSound_0 : decode cX4_isSound 0 = .ok (.aload_n 0, 1) := by decide +kernel
theorem dX4_isSound_1 : decode cX4_isSound 1 = .ok (.invokevirtual 274, 3) := by decide +kernel
theorem dX4_isSound_4 : decode cX4_isSound 4 = .ok (.ifCond .eq 21, 3) := by decide +kernel
theorem dX4_isSound_7 : decode cX4_isSound 7 = .ok (.aload_n 0, 1) := by decide +kernel
theorem dX4_isSound_8 : decode cX4_isSound 8 = .ok (.invokevirtual 277, 3) := by decide +kernel
theorem dX4_isSound_11 : decode cX4_isSound 11 = .ok (.ifCond .eq 14, 3) := by decide +kernel
theorem dX4_isSound_14 : decode cX4_isSound 14 = .ok (.aload_n 0, 1) := by decide +kernel
theorem dX4_isSound_15 : decode cX4_isSound 15 = .ok (.invokevirtual 280, 3) := by decide +kernel
theorem dX4_isSound_18 : decode cX4_isSound 18 = .ok (.ifCond .eq 7, 3) := by decide +kernel
theorem dX4_isSound_21 : decode cX4_isSound 21 = .ok (.iconst 1, 1) := by decide +kernel
theorem dX4_isSound_22 : decode cX4_isSound 22 = .ok (.goto 4, 3) := by decide +kernel
theorem dX4_isSound_25 : decode cX4_isSound 25 = .ok (.iconst 0, 1) := by decide +kernel
theorem dX4_isSound_26 : decode cX4_isSound 26 = .ok (.ireturn, 1) := by decide +kernel
theorem dX4_coreAt_0 : decode cX4_coreAt 0 = .ok (.iload_n 1, 1) := by decide +kernel
theorem dX4_coreAt_1 : decode cX4_coreAt 1 = .ok (.ifCond .lt 14, 3) := by decide +kernel
theorem dX4_coreAt_4 : decode cX4_coreAt 4 = .ok (.iload_n 1, 1) := by decide +kernel
theorem dX4_coreAt_5 : decode cX4_coreAt 5 = .ok (.aload_n 0, 1) := by decide +kernel
theorem dX4_coreAt_6 : decode cX4_coreAt 6 = .ok (.getfield 12, 3) := by decide +kernel
theorem dX4_coreAt_9 : decode cX4_coreAt 9 = .ok (.invokevirtual 69, 3) := by decide +kernel
theorem dX4_coreAt_12 : decode cX4_coreAt 12 = .ok (.if_icmp .lt 7, 3) := by decide +kernel
theorem dX4_coreAt_15 : decode cX4_coreAt 15 = .ok (.aconst_null, 1) := by decide +kernel
theorem dX4_coreAt_16 : decode cX4_coreAt 16 = .ok (.goto 14, 3) := by decide +kernel
theorem dX4_coreAt_19 : decode cX4_coreAt 19 = .ok (.aload_n 0, 1) := by decide +kernel
theorem dX4_coreAt_20 : decode cX4_coreAt 20 = .ok (.getfield 12, 3) := by decide +kernel
theorem dX4_coreAt_23 : decode cX4_coreAt 23 = .ok (.iload_n 1, 1) := by decide +kernel
theorem dX4_coreAt_24 : decode cX4_coreAt 24 = .ok (.invokevirtual 171, 3) := by decide +kernel
theorem dX4_coreAt_27 : decode cX4_coreAt 27 = .ok (.checkcast 78, 3) := by decide +kernel
theorem dX4_coreAt_30 : decode cX4_coreAt 30 = .ok (.areturn, 1) := by decide +kernel
theorem dX4_groupAt_0 : decode cX4_groupAt 0 = .ok (.iload_n 1, 1) := by decide +kernel
theorem dX4_groupAt_1 : decode cX4_groupAt 1 = .ok (.ifCond .lt 14, 3) := by decide +kernel
theorem dX4_groupAt_4 : decode cX4_groupAt 4 = .ok (.iload_n 1, 1) := by decide +kernel
theorem dX4_groupAt_5 : decode cX4_groupAt 5 = .ok (.aload_n 0, 1) := by decide +kernel
theorem dX4_groupAt_6 : decode cX4_groupAt 6 = .ok (.getfield 18, 3) := by decide +kernel
theorem dX4_groupAt_9 : decode cX4_groupAt 9 = .ok (.invokevirtual 69, 3) := by decide +kernel
theorem dX4_groupAt_12 : decode cX4_groupAt 12 = .ok (.if_icmp .lt 7, 3) := by decide +kernel
theorem dX4_groupAt_15 : decode cX4_groupAt 15 = .ok (.aconst_null, 1) := by decide +kernel
theorem dX4_groupAt_16 : decode cX4_groupAt 16 = .ok (.goto 14, 3) := by decide +kernel
theorem dX4_groupAt_19 : decode cX4_groupAt 19 = .ok (.aload_n 0, 1) := by decide +kernel
theorem dX4_groupAt_20 : decode cX4_groupAt 20 = .ok (.getfield 18, 3) := by decide +kernel
theorem dX4_groupAt_23 : decode cX4_groupAt 23 = .ok (.iload_n 1, 1) := by decide +kernel
theorem dX4_groupAt_24 : decode cX4_groupAt 24 = .ok (.invokevirtual 171, 3) := by decide +kernel
theorem dX4_groupAt_27 : decode cX4_groupAt 27 = .ok (.checkcast 27, 3) := by decide +kernel
theorem dX4_groupAt_30 : decode cX4_groupAt 30 = .ok (.areturn, 1) := by decide +kernel
theorem dX4_taskAt_0 : decode cX4_taskAt 0 = .ok (.iload_n 1, 1) := by decide +kernel
theorem dX4_taskAt_1 : decode cX4_taskAt 1 = .ok (.ifCond .lt 14, 3) := by decide +kernel
theorem dX4_taskAt_4 : decode cX4_taskAt 4 = .ok (.iload_n 1, 1) := by decide +kernel
theorem dX4_taskAt_5 : decode cX4_taskAt 5 = .ok (.aload_n 0, 1) := by decide +kernel
theorem dX4_taskAt_6 : decode cX4_taskAt 6 = .ok (.getfield 21, 3) := by decide +kernel
theorem dX4_taskAt_9 : decode cX4_taskAt 9 = .ok (.invokevirtual 69, 3) := by decide +kernel
theorem dX4_taskAt_12 : decode cX4_taskAt 12 = .ok (.if_icmp .lt 7, 3) := by decide +kernel
theorem dX4_taskAt_15 : decode cX4_taskAt 15 = .ok (.aconst_null, 1) := by decide +kernel
theorem dX4_taskAt_16 : decode cX4_taskAt 16 = .ok (.goto 14, 3) := by decide +kernel
theorem dX4_taskAt_19 : decode cX4_taskAt 19 = .ok (.aload_n 0, 1) := by decide +kernel
theorem dX4_taskAt_20 : decode cX4_taskAt 20 = .ok (.getfield 21, 3) := by decide +kernel
theorem dX4_taskAt_23 : decode cX4_taskAt 23 = .ok (.iload_n 1, 1) := by decide +kernel
theorem dX4_taskAt_24 : decode cX4_taskAt 24 = .ok (.invokevirtual 171, 3) := by decide +kernel
theorem dX4_taskAt_27 : decode cX4_taskAt 27 = .ok (.checkcast 121, 3) := by decide +kernel
theorem dX4_taskAt_30 : decode cX4_taskAt 30 = .ok (.areturn, 1) := by decide +kernel
theorem dX4_lockAt_0 : decode cX4_lockAt 0 = .ok (.iload_n 1, 1) := by decide +kernel
theorem dX4_lockAt_1 : decode cX4_lockAt 1 = .ok (.ifCond .lt 14, 3) := by decide +kernel
theorem dX4_lockAt_4 : decode cX4_lockAt 4 = .ok (.iload_n 1, 1) := by decide +kernel
theorem dX4_lockAt_5 : decode cX4_lockAt 5 = .ok (.aload_n 0, 1) := by decide +kernel
theorem dX4_lockAt_6 : decode cX4_lockAt 6 = .ok (.getfield 24, 3) := by decide +kernel
theorem dX4_lockAt_9 : decode cX4_lockAt 9 = .ok (.invokevirtual 69, 3) := by decide +kernel
theorem dX4_lockAt_12 : decode cX4_lockAt 12 = .ok (.if_icmp .lt 7, 3) := by decide +kernel
theorem dX4_lockAt_15 : decode cX4_lockAt 15 = .ok (.aconst_null, 1) := by decide +kernel
theorem dX4_lockAt_16 : decode cX4_lockAt 16 = .ok (.goto 14, 3) := by decide +kernel
theorem dX4_lockAt_19 : decode cX4_lockAt 19 = .ok (.aload_n 0, 1) := by decide +kernel
theorem dX4_lockAt_20 : decode cX4_lockAt 20 = .ok (.getfield 24, 3) := by decide +kernel
theorem dX4_lockAt_23 : decode cX4_lockAt 23 = .ok (.iload_n 1, 1) := by decide +kernel
theorem dX4_lockAt_24 : decode cX4_lockAt 24 = .ok (.invokevirtual 171, 3) := by decide +kernel
theorem dX4_lockAt_27 : decode cX4_lockAt 27 = .ok (.checkcast 59, 3) := by decide +kernel
theorem dX4_lockAt_30 : decode cX4_lockAt 30 = .ok (.areturn, 1) := by decide +kernel
theorem dX4_numberOf_0 : decode cX4_numberOf 0 = .ok (.aload_n 0, 1) := by decide +kernel
theorem dX4_numberOf_1 : decode cX4_numberOf 1 = .ok (.ifnonnull 7, 3) := by decide +kernel
theorem dX4_numberOf_4 : decode cX4_numberOf 4 = .ok (.iconst (-1), 1) := by decide +kernel
theorem dX4_numberOf_5 : decode cX4_numberOf 5 = .ok (.goto 7, 3) := by decide +kernel
theorem dX4_numberOf_8 : decode cX4_numberOf 8 = .ok (.aload_n 0, 1) := by decide +kernel
theorem dX4_numberOf_9 : decode cX4_numberOf 9 = .ok (.getfield 283, 3) := by decide +kernel
theorem dX4_numberOf_12 : decode cX4_numberOf 12 = .ok (.ireturn, 1) := by decide +kernel
theorem dX4_leastTimeIn_0 : decode cX4_leastTimeIn 0 = .ok (.ldc2_w 288, 3) := by decide +kernel
theorem dX4_leastTimeIn_3 : decode cX4_leastTimeIn 3 = .ok (.lstore_n 2, 1) := by decide +kernel
theorem dX4_leastTimeIn_4 : decode cX4_leastTimeIn 4 = .ok (.iconst 0, 1) := by decide +kernel
theorem dX4_leastTimeIn_5 : decode cX4_leastTimeIn 5 = .ok (.istore 4, 2) := by decide +kernel
theorem dX4_leastTimeIn_7 : decode cX4_leastTimeIn 7 = .ok (.iload 4, 2) := by decide +kernel
theorem dX4_leastTimeIn_9 : decode cX4_leastTimeIn 9 = .ok (.aload_n 0, 1) := by decide +kernel
theorem dX4_leastTimeIn_10 : decode cX4_leastTimeIn 10 = .ok (.getfield 18, 3) := by decide +kernel
theorem dX4_leastTimeIn_13 : decode cX4_leastTimeIn 13 = .ok (.invokevirtual 69, 3) := by decide +kernel
theorem dX4_leastTimeIn_16 : decode cX4_leastTimeIn 16 = .ok (.if_icmp .ge 42, 3) := by decide +kernel
theorem dX4_leastTimeIn_19 : decode cX4_leastTimeIn 19 = .ok (.aload_n 0, 1) := by decide +kernel
theorem dX4_leastTimeIn_20 : decode cX4_leastTimeIn 20 = .ok (.getfield 18, 3) := by decide +kernel
theorem dX4_leastTimeIn_23 : decode cX4_leastTimeIn 23 = .ok (.iload 4, 2) := by decide +kernel
theorem dX4_leastTimeIn_25 : decode cX4_leastTimeIn 25 = .ok (.invokevirtual 171, 3) := by decide +kernel
theorem dX4_leastTimeIn_28 : decode cX4_leastTimeIn 28 = .ok (.checkcast 27, 3) := by decide +kernel
theorem dX4_leastTimeIn_31 : decode cX4_leastTimeIn 31 = .ok (.astore 5, 2) := by decide +kernel
theorem dX4_leastTimeIn_33 : decode cX4_leastTimeIn 33 = .ok (.aload 5, 2) := by decide +kernel
theorem dX4_leastTimeIn_35 : decode cX4_leastTimeIn 35 = .ok (.getfield 290, 3) := by decide +kernel
theorem dX4_leastTimeIn_38 : decode cX4_leastTimeIn 38 = .ok (.aload_n 1, 1) := by decide +kernel
theorem dX4_leastTimeIn_39 : decode cX4_leastTimeIn 39 = .ok (.if_acmp .ne 13, 3) := by decide +kernel
theorem dX4_leastTimeIn_42 : decode cX4_leastTimeIn 42 = .ok (.lload_n 2, 1) := by decide +kernel
theorem dX4_leastTimeIn_43 : decode cX4_leastTimeIn 43 = .ok (.aload 5, 2) := by decide +kernel
theorem dX4_leastTimeIn_45 : decode cX4_leastTimeIn 45 = .ok (.getfield 197, 3) := by decide +kernel
theorem dX4_leastTimeIn_48 : decode cX4_leastTimeIn 48 = .ok (.invokestatic 293, 3) := by decide +kernel
theorem dX4_leastTimeIn_51 : decode cX4_leastTimeIn 51 = .ok (.lstore_n 2, 1) := by decide +kernel
theorem dX4_leastTimeIn_52 : decode cX4_leastTimeIn 52 = .ok (.iinc 4 1, 3) := by decide +kernel
theorem dX4_leastTimeIn_55 : decode cX4_leastTimeIn 55 = .ok (.goto (-48), 3) := by decide +kernel
theorem dX4_leastTimeIn_58 : decode cX4_leastTimeIn 58 = .ok (.iconst 0, 1) := by decide +kernel
theorem dX4_leastTimeIn_59 : decode cX4_leastTimeIn 59 = .ok (.istore 4, 2) := by decide +kernel
theorem dX4_leastTimeIn_61 : decode cX4_leastTimeIn 61 = .ok (.iload 4, 2) := by decide +kernel
theorem dX4_leastTimeIn_63 : decode cX4_leastTimeIn 63 = .ok (.aload_n 0, 1) := by decide +kernel
theorem dX4_leastTimeIn_64 : decode cX4_leastTimeIn 64 = .ok (.getfield 21, 3) := by decide +kernel
theorem dX4_leastTimeIn_67 : decode cX4_leastTimeIn 67 = .ok (.invokevirtual 69, 3) := by decide +kernel
theorem dX4_leastTimeIn_70 : decode cX4_leastTimeIn 70 = .ok (.if_icmp .ge 42, 3) := by decide +kernel
theorem dX4_leastTimeIn_73 : decode cX4_leastTimeIn 73 = .ok (.aload_n 0, 1) := by decide +kernel
theorem dX4_leastTimeIn_74 : decode cX4_leastTimeIn 74 = .ok (.getfield 21, 3) := by decide +kernel
theorem dX4_leastTimeIn_77 : decode cX4_leastTimeIn 77 = .ok (.iload 4, 2) := by decide +kernel
theorem dX4_leastTimeIn_79 : decode cX4_leastTimeIn 79 = .ok (.invokevirtual 171, 3) := by decide +kernel
theorem dX4_leastTimeIn_82 : decode cX4_leastTimeIn 82 = .ok (.checkcast 121, 3) := by decide +kernel
theorem dX4_leastTimeIn_85 : decode cX4_leastTimeIn 85 = .ok (.astore 5, 2) := by decide +kernel
theorem dX4_leastTimeIn_87 : decode cX4_leastTimeIn 87 = .ok (.aload 5, 2) := by decide +kernel
theorem dX4_leastTimeIn_89 : decode cX4_leastTimeIn 89 = .ok (.getfield 296, 3) := by decide +kernel
theorem dX4_leastTimeIn_92 : decode cX4_leastTimeIn 92 = .ok (.aload_n 1, 1) := by decide +kernel
theorem dX4_leastTimeIn_93 : decode cX4_leastTimeIn 93 = .ok (.if_acmp .ne 13, 3) := by decide +kernel
theorem dX4_leastTimeIn_96 : decode cX4_leastTimeIn 96 = .ok (.lload_n 2, 1) := by decide +kernel
theorem dX4_leastTimeIn_97 : decode cX4_leastTimeIn 97 = .ok (.aload 5, 2) := by decide +kernel
theorem dX4_leastTimeIn_99 : decode cX4_leastTimeIn 99 = .ok (.getfield 191, 3) := by decide +kernel
theorem dX4_leastTimeIn_102 : decode cX4_leastTimeIn 102 = .ok (.invokestatic 293, 3) := by decide +kernel
theorem dX4_leastTimeIn_105 : decode cX4_leastTimeIn 105 = .ok (.lstore_n 2, 1) := by decide +kernel
theorem dX4_leastTimeIn_106 : decode cX4_leastTimeIn 106 = .ok (.iinc 4 1, 3) := by decide +kernel
theorem dX4_leastTimeIn_109 : decode cX4_leastTimeIn 109 = .ok (.goto (-48), 3) := by decide +kernel
theorem dX4_leastTimeIn_112 : decode cX4_leastTimeIn 112 = .ok (.lload_n 2, 1) := by decide +kernel
theorem dX4_leastTimeIn_113 : decode cX4_leastTimeIn 113 = .ok (.ldc2_w 288, 3) := by decide +kernel
theorem dX4_leastTimeIn_116 : decode cX4_leastTimeIn 116 = .ok (.lcmp, 1) := by decide +kernel
theorem dX4_leastTimeIn_117 : decode cX4_leastTimeIn 117 = .ok (.ifCond .ne 7, 3) := by decide +kernel
theorem dX4_leastTimeIn_120 : decode cX4_leastTimeIn 120 = .ok (.lconst 0, 1) := by decide +kernel
theorem dX4_leastTimeIn_121 : decode cX4_leastTimeIn 121 = .ok (.goto 4, 3) := by decide +kernel
theorem dX4_leastTimeIn_124 : decode cX4_leastTimeIn 124 = .ok (.lload_n 2, 1) := by decide +kernel
theorem dX4_leastTimeIn_125 : decode cX4_leastTimeIn 125 = .ok (.lreturn, 1) := by decide +kernel
theorem dX4_stopWaiting_0 : decode cX4_stopWaiting 0 = .ok (.aload_n 0, 1) := by decide +kernel
theorem dX4_stopWaiting_1 : decode cX4_stopWaiting 1 = .ok (.getfield 183, 3) := by decide +kernel
theorem dX4_stopWaiting_4 : decode cX4_stopWaiting 4 = .ok (.astore_n 1, 1) := by decide +kernel
theorem dX4_stopWaiting_5 : decode cX4_stopWaiting 5 = .ok (.aload_n 1, 1) := by decide +kernel
theorem dX4_stopWaiting_6 : decode cX4_stopWaiting 6 = .ok (.ifnonnull 4, 3) := by decide +kernel
theorem dX4_stopWaiting_9 : decode cX4_stopWaiting 9 = .ok (.return_, 1) := by decide +kernel
theorem dX4_stopWaiting_10 : decode cX4_stopWaiting 10 = .ok (.aload_n 0, 1) := by decide +kernel
theorem dX4_stopWaiting_11 : decode cX4_stopWaiting 11 = .ok (.aconst_null, 1) := by decide +kernel
theorem dX4_stopWaiting_12 : decode cX4_stopWaiting 12 = .ok (.putfield 183, 3) := by decide +kernel
theorem dX4_stopWaiting_15 : decode cX4_stopWaiting 15 = .ok (.aload_n 1, 1) := by decide +kernel
theorem dX4_stopWaiting_16 : decode cX4_stopWaiting 16 = .ok (.getfield 242, 3) := by decide +kernel
theorem dX4_stopWaiting_19 : decode cX4_stopWaiting 19 = .ok (.invokevirtual 69, 3) := by decide +kernel
theorem dX4_stopWaiting_22 : decode cX4_stopWaiting 22 = .ok (.iconst 1, 1) := by decide +kernel
theorem dX4_stopWaiting_23 : decode cX4_stopWaiting 23 = .ok (.isub, 1) := by decide +kernel
theorem dX4_stopWaiting_24 : decode cX4_stopWaiting 24 = .ok (.istore_n 2, 1) := by decide +kernel
theorem dX4_stopWaiting_25 : decode cX4_stopWaiting 25 = .ok (.iload_n 2, 1) := by decide +kernel
theorem dX4_stopWaiting_26 : decode cX4_stopWaiting 26 = .ok (.ifCond .lt 30, 3) := by decide +kernel
theorem dX4_stopWaiting_29 : decode cX4_stopWaiting 29 = .ok (.aload_n 1, 1) := by decide +kernel
theorem dX4_stopWaiting_30 : decode cX4_stopWaiting 30 = .ok (.getfield 242, 3) := by decide +kernel
theorem dX4_stopWaiting_33 : decode cX4_stopWaiting 33 = .ok (.iload_n 2, 1) := by decide +kernel
theorem dX4_stopWaiting_34 : decode cX4_stopWaiting 34 = .ok (.invokevirtual 171, 3) := by decide +kernel
theorem dX4_stopWaiting_37 : decode cX4_stopWaiting 37 = .ok (.aload_n 0, 1) := by decide +kernel
theorem dX4_stopWaiting_38 : decode cX4_stopWaiting 38 = .ok (.if_acmp .ne 12, 3) := by decide +kernel
theorem dX4_stopWaiting_41 : decode cX4_stopWaiting 41 = .ok (.aload_n 1, 1) := by decide +kernel
theorem dX4_stopWaiting_42 : decode cX4_stopWaiting 42 = .ok (.getfield 242, 3) := by decide +kernel
theorem dX4_stopWaiting_45 : decode cX4_stopWaiting 45 = .ok (.iload_n 2, 1) := by decide +kernel
theorem dX4_stopWaiting_46 : decode cX4_stopWaiting 46 = .ok (.invokevirtual 299, 3) := by decide +kernel
theorem dX4_stopWaiting_49 : decode cX4_stopWaiting 49 = .ok (.pop, 1) := by decide +kernel
theorem dX4_stopWaiting_50 : decode cX4_stopWaiting 50 = .ok (.iinc 2 (-1), 3) := by decide +kernel
theorem dX4_stopWaiting_53 : decode cX4_stopWaiting 53 = .ok (.goto (-28), 3) := by decide +kernel
theorem dX4_stopWaiting_56 : decode cX4_stopWaiting 56 = .ok (.return_, 1) := by decide +kernel
theorem dX4_passOn_0 : decode cX4_passOn 0 = .ok (.aload_n 0, 1) := by decide +kernel
theorem dX4_passOn_1 : decode cX4_passOn 1 = .ok (.getfield 242, 3) := by decide +kernel
theorem dX4_passOn_4 : decode cX4_passOn 4 = .ok (.invokevirtual 302, 3) := by decide +kernel
theorem dX4_passOn_7 : decode cX4_passOn 7 = .ok (.ifCond .eq 9, 3) := by decide +kernel
theorem dX4_passOn_10 : decode cX4_passOn 10 = .ok (.aload_n 0, 1) := by decide +kernel
theorem dX4_passOn_11 : decode cX4_passOn 11 = .ok (.aconst_null, 1) := by decide +kernel
theorem dX4_passOn_12 : decode cX4_passOn 12 = .ok (.putfield 175, 3) := by decide +kernel
theorem dX4_passOn_15 : decode cX4_passOn 15 = .ok (.return_, 1) := by decide +kernel
theorem dX4_passOn_16 : decode cX4_passOn 16 = .ok (.aload_n 0, 1) := by decide +kernel
theorem dX4_passOn_17 : decode cX4_passOn 17 = .ok (.getfield 242, 3) := by decide +kernel
theorem dX4_passOn_20 : decode cX4_passOn 20 = .ok (.iconst 0, 1) := by decide +kernel
theorem dX4_passOn_21 : decode cX4_passOn 21 = .ok (.invokevirtual 299, 3) := by decide +kernel
theorem dX4_passOn_24 : decode cX4_passOn 24 = .ok (.checkcast 121, 3) := by decide +kernel
theorem dX4_passOn_27 : decode cX4_passOn 27 = .ok (.astore_n 1, 1) := by decide +kernel
theorem dX4_passOn_28 : decode cX4_passOn 28 = .ok (.aload_n 1, 1) := by decide +kernel
theorem dX4_passOn_29 : decode cX4_passOn 29 = .ok (.aconst_null, 1) := by decide +kernel
theorem dX4_passOn_30 : decode cX4_passOn 30 = .ok (.putfield 183, 3) := by decide +kernel
theorem dX4_passOn_33 : decode cX4_passOn 33 = .ok (.aload_n 0, 1) := by decide +kernel
theorem dX4_passOn_34 : decode cX4_passOn 34 = .ok (.aload_n 1, 1) := by decide +kernel
theorem dX4_passOn_35 : decode cX4_passOn 35 = .ok (.putfield 175, 3) := by decide +kernel
theorem dX4_passOn_38 : decode cX4_passOn 38 = .ok (.return_, 1) := by decide +kernel
theorem dX4_holderBefore_0 : decode cX4_holderBefore 0 = .ok (.aload_n 0, 1) := by decide +kernel
theorem dX4_holderBefore_1 : decode cX4_holderBefore 1 = .ok (.getfield 183, 3) := by decide +kernel
theorem dX4_holderBefore_4 : decode cX4_holderBefore 4 = .ok (.ifnonnull 7, 3) := by decide +kernel
theorem dX4_holderBefore_7 : decode cX4_holderBefore 7 = .ok (.aconst_null, 1) := by decide +kernel
theorem dX4_holderBefore_8 : decode cX4_holderBefore 8 = .ok (.goto 10, 3) := by decide +kernel
theorem dX4_holderBefore_11 : decode cX4_holderBefore 11 = .ok (.aload_n 0, 1) := by decide +kernel
theorem dX4_holderBefore_12 : decode cX4_holderBefore 12 = .ok (.getfield 183, 3) := by decide +kernel
theorem dX4_holderBefore_15 : decode cX4_holderBefore 15 = .ok (.getfield 175, 3) := by decide +kernel
theorem dX4_holderBefore_18 : decode cX4_holderBefore 18 = .ok (.areturn, 1) := by decide +kernel
theorem dX4_waitsInTheEndFor_0 : decode cX4_waitsInTheEndFor 0 = .ok (.aload_n 0, 1) := by decide +kernel
theorem dX4_waitsInTheEndFor_1 : decode cX4_waitsInTheEndFor 1 = .ok (.invokestatic 305, 3) := by decide +kernel
theorem dX4_waitsInTheEndFor_4 : decode cX4_waitsInTheEndFor 4 = .ok (.astore_n 2, 1) := by decide +kernel
theorem dX4_waitsInTheEndFor_5 : decode cX4_waitsInTheEndFor 5 = .ok (.iconst 0, 1) := by decide +kernel
theorem dX4_waitsInTheEndFor_6 : decode cX4_waitsInTheEndFor 6 = .ok (.istore_n 3, 1) := by decide +kernel
theorem dX4_waitsInTheEndFor_7 : decode cX4_waitsInTheEndFor 7 = .ok (.iload_n 3, 1) := by decide +kernel
theorem dX4_waitsInTheEndFor_8 : decode cX4_waitsInTheEndFor 8 = .ok (.bipush 12, 2) := by decide +kernel
theorem dX4_waitsInTheEndFor_10 : decode cX4_waitsInTheEndFor 10 = .ok (.if_icmp .ge 25, 3) := by decide +kernel
theorem dX4_waitsInTheEndFor_13 : decode cX4_waitsInTheEndFor 13 = .ok (.aload_n 2, 1) := by decide +kernel
theorem dX4_waitsInTheEndFor_14 : decode cX4_waitsInTheEndFor 14 = .ok (.ifnull 21, 3) := by decide +kernel
theorem dX4_waitsInTheEndFor_17 : decode cX4_waitsInTheEndFor 17 = .ok (.aload_n 2, 1) := by decide +kernel
theorem dX4_waitsInTheEndFor_18 : decode cX4_waitsInTheEndFor 18 = .ok (.aload_n 1, 1) := by decide +kernel
theorem dX4_waitsInTheEndFor_19 : decode cX4_waitsInTheEndFor 19 = .ok (.if_acmp .ne 5, 3) := by decide +kernel
theorem dX4_waitsInTheEndFor_22 : decode cX4_waitsInTheEndFor 22 = .ok (.iconst 1, 1) := by decide +kernel
theorem dX4_waitsInTheEndFor_23 : decode cX4_waitsInTheEndFor 23 = .ok (.ireturn, 1) := by decide +kernel
theorem dX4_waitsInTheEndFor_24 : decode cX4_waitsInTheEndFor 24 = .ok (.aload_n 2, 1) := by decide +kernel
theorem dX4_waitsInTheEndFor_25 : decode cX4_waitsInTheEndFor 25 = .ok (.invokestatic 305, 3) := by decide +kernel
theorem dX4_waitsInTheEndFor_28 : decode cX4_waitsInTheEndFor 28 = .ok (.astore_n 2, 1) := by decide +kernel
theorem dX4_waitsInTheEndFor_29 : decode cX4_waitsInTheEndFor 29 = .ok (.iinc 3 1, 3) := by decide +kernel
theorem dX4_waitsInTheEndFor_32 : decode cX4_waitsInTheEndFor 32 = .ok (.goto (-25), 3) := by decide +kernel
theorem dX4_waitsInTheEndFor_35 : decode cX4_waitsInTheEndFor 35 = .ok (.iconst 0, 1) := by decide +kernel
theorem dX4_waitsInTheEndFor_36 : decode cX4_waitsInTheEndFor 36 = .ok (.ireturn, 1) := by decide +kernel
theorem dX4_lendUrgencies_0 : decode cX4_lendUrgencies 0 = .ok (.iconst 0, 1) := by decide +kernel
theorem dX4_lendUrgencies_1 : decode cX4_lendUrgencies 1 = .ok (.istore_n 1, 1) := by decide +kernel
theorem dX4_lendUrgencies_2 : decode cX4_lendUrgencies 2 = .ok (.iload_n 1, 1) := by decide +kernel
theorem dX4_lendUrgencies_3 : decode cX4_lendUrgencies 3 = .ok (.aload_n 0, 1) := by decide +kernel
theorem dX4_lendUrgencies_4 : decode cX4_lendUrgencies 4 = .ok (.getfield 21, 3) := by decide +kernel
theorem dX4_lendUrgencies_7 : decode cX4_lendUrgencies 7 = .ok (.invokevirtual 69, 3) := by decide +kernel
theorem dX4_lendUrgencies_10 : decode cX4_lendUrgencies 10 = .ok (.if_icmp .ge 29, 3) := by decide +kernel
theorem dX4_lendUrgencies_13 : decode cX4_lendUrgencies 13 = .ok (.aload_n 0, 1) := by decide +kernel
theorem dX4_lendUrgencies_14 : decode cX4_lendUrgencies 14 = .ok (.getfield 21, 3) := by decide +kernel
theorem dX4_lendUrgencies_17 : decode cX4_lendUrgencies 17 = .ok (.iload_n 1, 1) := by decide +kernel
theorem dX4_lendUrgencies_18 : decode cX4_lendUrgencies 18 = .ok (.invokevirtual 171, 3) := by decide +kernel
theorem dX4_lendUrgencies_21 : decode cX4_lendUrgencies 21 = .ok (.checkcast 121, 3) := by decide +kernel
theorem dX4_lendUrgencies_24 : decode cX4_lendUrgencies 24 = .ok (.astore_n 2, 1) := by decide +kernel
theorem dX4_lendUrgencies_25 : decode cX4_lendUrgencies 25 = .ok (.aload_n 2, 1) := by decide +kernel
theorem dX4_lendUrgencies_26 : decode cX4_lendUrgencies 26 = .ok (.aload_n 2, 1) := by decide +kernel
theorem dX4_lendUrgencies_27 : decode cX4_lendUrgencies 27 = .ok (.invokevirtual 309, 3) := by decide +kernel
theorem dX4_lendUrgencies_30 : decode cX4_lendUrgencies 30 = .ok (.putfield 219, 3) := by decide +kernel
theorem dX4_lendUrgencies_33 : decode cX4_lendUrgencies 33 = .ok (.iinc 1 1, 3) := by decide +kernel
theorem dX4_lendUrgencies_36 : decode cX4_lendUrgencies 36 = .ok (.goto (-34), 3) := by decide +kernel
theorem dX4_lendUrgencies_39 : decode cX4_lendUrgencies 39 = .ok (.iconst 0, 1) := by decide +kernel
theorem dX4_lendUrgencies_40 : decode cX4_lendUrgencies 40 = .ok (.istore_n 1, 1) := by decide +kernel
theorem dX4_lendUrgencies_41 : decode cX4_lendUrgencies 41 = .ok (.iload_n 1, 1) := by decide +kernel
theorem dX4_lendUrgencies_42 : decode cX4_lendUrgencies 42 = .ok (.aload_n 0, 1) := by decide +kernel
theorem dX4_lendUrgencies_43 : decode cX4_lendUrgencies 43 = .ok (.getfield 21, 3) := by decide +kernel
theorem dX4_lendUrgencies_46 : decode cX4_lendUrgencies 46 = .ok (.invokevirtual 69, 3) := by decide +kernel
theorem dX4_lendUrgencies_49 : decode cX4_lendUrgencies 49 = .ok (.if_icmp .ge 29, 3) := by decide +kernel
theorem dX4_lendUrgencies_52 : decode cX4_lendUrgencies 52 = .ok (.aload_n 0, 1) := by decide +kernel
theorem dX4_lendUrgencies_53 : decode cX4_lendUrgencies 53 = .ok (.getfield 21, 3) := by decide +kernel
theorem dX4_lendUrgencies_56 : decode cX4_lendUrgencies 56 = .ok (.iload_n 1, 1) := by decide +kernel
theorem dX4_lendUrgencies_57 : decode cX4_lendUrgencies 57 = .ok (.invokevirtual 171, 3) := by decide +kernel
theorem dX4_lendUrgencies_60 : decode cX4_lendUrgencies 60 = .ok (.checkcast 121, 3) := by decide +kernel
theorem dX4_lendUrgencies_63 : decode cX4_lendUrgencies 63 = .ok (.astore_n 2, 1) := by decide +kernel
theorem dX4_lendUrgencies_64 : decode cX4_lendUrgencies 64 = .ok (.aload_n 2, 1) := by decide +kernel
theorem dX4_lendUrgencies_65 : decode cX4_lendUrgencies 65 = .ok (.aload_n 2, 1) := by decide +kernel
theorem dX4_lendUrgencies_66 : decode cX4_lendUrgencies 66 = .ok (.invokevirtual 309, 3) := by decide +kernel
theorem dX4_lendUrgencies_69 : decode cX4_lendUrgencies 69 = .ok (.invokestatic 312, 3) := by decide +kernel
theorem dX4_lendUrgencies_72 : decode cX4_lendUrgencies 72 = .ok (.iinc 1 1, 3) := by decide +kernel
theorem dX4_lendUrgencies_75 : decode cX4_lendUrgencies 75 = .ok (.goto (-34), 3) := by decide +kernel
theorem dX4_lendUrgencies_78 : decode cX4_lendUrgencies 78 = .ok (.return_, 1) := by decide +kernel
theorem dX4_lendAlong_0 : decode cX4_lendAlong 0 = .ok (.aload_n 0, 1) := by decide +kernel
theorem dX4_lendAlong_1 : decode cX4_lendAlong 1 = .ok (.invokestatic 305, 3) := by decide +kernel
theorem dX4_lendAlong_4 : decode cX4_lendAlong 4 = .ok (.astore_n 2, 1) := by decide +kernel
theorem dX4_lendAlong_5 : decode cX4_lendAlong 5 = .ok (.iconst 0, 1) := by decide +kernel
theorem dX4_lendAlong_6 : decode cX4_lendAlong 6 = .ok (.istore_n 3, 1) := by decide +kernel
theorem dX4_lendAlong_7 : decode cX4_lendAlong 7 = .ok (.iload_n 3, 1) := by decide +kernel
theorem dX4_lendAlong_8 : decode cX4_lendAlong 8 = .ok (.bipush 12, 2) := by decide +kernel
theorem dX4_lendAlong_10 : decode cX4_lendAlong 10 = .ok (.if_icmp .ge 30, 3) := by decide +kernel
theorem dX4_lendAlong_13 : decode cX4_lendAlong 13 = .ok (.aload_n 2, 1) := by decide +kernel
theorem dX4_lendAlong_14 : decode cX4_lendAlong 14 = .ok (.ifnull 26, 3) := by decide +kernel
theorem dX4_lendAlong_17 : decode cX4_lendAlong 17 = .ok (.aload_n 2, 1) := by decide +kernel
theorem dX4_lendAlong_18 : decode cX4_lendAlong 18 = .ok (.aload_n 2, 1) := by decide +kernel
theorem dX4_lendAlong_19 : decode cX4_lendAlong 19 = .ok (.getfield 219, 3) := by decide +kernel
theorem dX4_lendAlong_22 : decode cX4_lendAlong 22 = .ok (.iload_n 1, 1) := by decide +kernel
theorem dX4_lendAlong_23 : decode cX4_lendAlong 23 = .ok (.invokestatic 205, 3) := by decide +kernel
theorem dX4_lendAlong_26 : decode cX4_lendAlong 26 = .ok (.putfield 219, 3) := by decide +kernel
theorem dX4_lendAlong_29 : decode cX4_lendAlong 29 = .ok (.aload_n 2, 1) := by decide +kernel
theorem dX4_lendAlong_30 : decode cX4_lendAlong 30 = .ok (.invokestatic 305, 3) := by decide +kernel
theorem dX4_lendAlong_33 : decode cX4_lendAlong 33 = .ok (.astore_n 2, 1) := by decide +kernel
theorem dX4_lendAlong_34 : decode cX4_lendAlong 34 = .ok (.iinc 3 1, 3) := by decide +kernel
theorem dX4_lendAlong_37 : decode cX4_lendAlong 37 = .ok (.goto (-30), 3) := by decide +kernel
theorem dX4_lendAlong_40 : decode cX4_lendAlong 40 = .ok (.return_, 1) := by decide +kernel
theorem dX4_chooseForAllCores_0 : decode cX4_chooseForAllCores 0 = .ok (.aload_n 0, 1) := by decide +kernel
theorem dX4_chooseForAllCores_1 : decode cX4_chooseForAllCores 1 = .ok (.invokevirtual 216, 3) := by decide +kernel
theorem dX4_chooseForAllCores_4 : decode cX4_chooseForAllCores 4 = .ok (.iconst 0, 1) := by decide +kernel
theorem dX4_chooseForAllCores_5 : decode cX4_chooseForAllCores 5 = .ok (.istore_n 2, 1) := by decide +kernel
theorem dX4_chooseForAllCores_6 : decode cX4_chooseForAllCores 6 = .ok (.iload_n 2, 1) := by decide +kernel
theorem dX4_chooseForAllCores_7 : decode cX4_chooseForAllCores 7 = .ok (.aload_n 0, 1) := by decide +kernel
theorem dX4_chooseForAllCores_8 : decode cX4_chooseForAllCores 8 = .ok (.getfield 21, 3) := by decide +kernel
theorem dX4_chooseForAllCores_11 : decode cX4_chooseForAllCores 11 = .ok (.invokevirtual 69, 3) := by decide +kernel
theorem dX4_chooseForAllCores_14 : decode cX4_chooseForAllCores 14 = .ok (.if_icmp .ge 29, 3) := by decide +kernel
theorem dX4_chooseForAllCores_17 : decode cX4_chooseForAllCores 17 = .ok (.aload_n 0, 1) := by decide +kernel
theorem dX4_chooseForAllCores_18 : decode cX4_chooseForAllCores 18 = .ok (.getfield 21, 3) := by decide +kernel
theorem dX4_chooseForAllCores_21 : decode cX4_chooseForAllCores 21 = .ok (.iload_n 2, 1) := by decide +kernel
theorem dX4_chooseForAllCores_22 : decode cX4_chooseForAllCores 22 = .ok (.invokevirtual 171, 3) := by decide +kernel
theorem dX4_chooseForAllCores_25 : decode cX4_chooseForAllCores 25 = .ok (.checkcast 121, 3) := by decide +kernel
theorem dX4_chooseForAllCores_28 : decode cX4_chooseForAllCores 28 = .ok (.astore_n 3, 1) := by decide +kernel
theorem dX4_chooseForAllCores_29 : decode cX4_chooseForAllCores 29 = .ok (.aload_n 3, 1) := by decide +kernel
theorem dX4_chooseForAllCores_30 : decode cX4_chooseForAllCores 30 = .ok (.aload_n 3, 1) := by decide +kernel
theorem dX4_chooseForAllCores_31 : decode cX4_chooseForAllCores 31 = .ok (.invokevirtual 187, 3) := by decide +kernel
theorem dX4_chooseForAllCores_34 : decode cX4_chooseForAllCores 34 = .ok (.putfield 316, 3) := by decide +kernel
theorem dX4_chooseForAllCores_37 : decode cX4_chooseForAllCores 37 = .ok (.iinc 2 1, 3) := by decide +kernel
theorem dX4_chooseForAllCores_40 : decode cX4_chooseForAllCores 40 = .ok (.goto (-34), 3) := by decide +kernel
theorem dX4_chooseForAllCores_43 : decode cX4_chooseForAllCores 43 = .ok (.iconst 0, 1) := by decide +kernel
theorem dX4_chooseForAllCores_44 : decode cX4_chooseForAllCores 44 = .ok (.istore_n 2, 1) := by decide +kernel
theorem dX4_chooseForAllCores_45 : decode cX4_chooseForAllCores 45 = .ok (.iconst 0, 1) := by decide +kernel
theorem dX4_chooseForAllCores_46 : decode cX4_chooseForAllCores 46 = .ok (.istore_n 3, 1) := by decide +kernel
theorem dX4_chooseForAllCores_47 : decode cX4_chooseForAllCores 47 = .ok (.iload_n 3, 1) := by decide +kernel
theorem dX4_chooseForAllCores_48 : decode cX4_chooseForAllCores 48 = .ok (.aload_n 0, 1) := by decide +kernel
theorem dX4_chooseForAllCores_49 : decode cX4_chooseForAllCores 49 = .ok (.getfield 12, 3) := by decide +kernel
theorem dX4_chooseForAllCores_52 : decode cX4_chooseForAllCores 52 = .ok (.invokevirtual 69, 3) := by decide +kernel
theorem dX4_chooseForAllCores_55 : decode cX4_chooseForAllCores 55 = .ok (.if_icmp .ge 87, 3) := by decide +kernel
theorem dX4_chooseForAllCores_58 : decode cX4_chooseForAllCores 58 = .ok (.aload_n 0, 1) := by decide +kernel
theorem dX4_chooseForAllCores_59 : decode cX4_chooseForAllCores 59 = .ok (.getfield 12, 3) := by decide +kernel
theorem dX4_chooseForAllCores_62 : decode cX4_chooseForAllCores 62 = .ok (.iload_n 3, 1) := by decide +kernel
theorem dX4_chooseForAllCores_63 : decode cX4_chooseForAllCores 63 = .ok (.invokevirtual 171, 3) := by decide +kernel
theorem dX4_chooseForAllCores_66 : decode cX4_chooseForAllCores 66 = .ok (.checkcast 78, 3) := by decide +kernel
theorem dX4_chooseForAllCores_69 : decode cX4_chooseForAllCores 69 = .ok (.astore 4, 2) := by decide +kernel
theorem dX4_chooseForAllCores_71 : decode cX4_chooseForAllCores 71 = .ok (.aload 4, 2) := by decide +kernel
theorem dX4_chooseForAllCores_73 : decode cX4_chooseForAllCores 73 = .ok (.aload_n 0, 1) := by decide +kernel
theorem dX4_chooseForAllCores_74 : decode cX4_chooseForAllCores 74 = .ok (.getfield 36, 3) := by decide +kernel
theorem dX4_chooseForAllCores_77 : decode cX4_chooseForAllCores 77 = .ok (.invokevirtual 99, 3) := by decide +kernel
theorem dX4_chooseForAllCores_80 : decode cX4_chooseForAllCores 80 = .ok (.istore 5, 2) := by decide +kernel
theorem dX4_chooseForAllCores_82 : decode cX4_chooseForAllCores 82 = .ok (.aconst_null, 1) := by decide +kernel
theorem dX4_chooseForAllCores_83 : decode cX4_chooseForAllCores 83 = .ok (.astore 6, 2) := by decide +kernel
theorem dX4_chooseForAllCores_85 : decode cX4_chooseForAllCores 85 = .ok (.iload_n 2, 1) := by decide +kernel
theorem dX4_chooseForAllCores_86 : decode cX4_chooseForAllCores 86 = .ok (.iload 5, 2) := by decide +kernel
theorem dX4_chooseForAllCores_88 : decode cX4_chooseForAllCores 88 = .ok (.iadd, 1) := by decide +kernel
theorem dX4_chooseForAllCores_89 : decode cX4_chooseForAllCores 89 = .ok (.aload_n 0, 1) := by decide +kernel
theorem dX4_chooseForAllCores_90 : decode cX4_chooseForAllCores 90 = .ok (.getfield 40, 3) := by decide +kernel
theorem dX4_chooseForAllCores_93 : decode cX4_chooseForAllCores 93 = .ok (.if_icmp .gt 20, 3) := by decide +kernel
theorem dX4_chooseForAllCores_96 : decode cX4_chooseForAllCores 96 = .ok (.iload_n 1, 1) := by decide +kernel
theorem dX4_chooseForAllCores_97 : decode cX4_chooseForAllCores 97 = .ok (.ifCond .eq 10, 3) := by decide +kernel
theorem dX4_chooseForAllCores_100 : decode cX4_chooseForAllCores 100 = .ok (.aload_n 0, 1) := by decide +kernel
theorem dX4_chooseForAllCores_101 : decode cX4_chooseForAllCores 101 = .ok (.invokevirtual 319, 3) := by decide +kernel
theorem dX4_chooseForAllCores_104 : decode cX4_chooseForAllCores 104 = .ok (.goto 7, 3) := by decide +kernel
theorem dX4_chooseForAllCores_107 : decode cX4_chooseForAllCores 107 = .ok (.aload_n 0, 1) := by decide +kernel
theorem dX4_chooseForAllCores_108 : decode cX4_chooseForAllCores 108 = .ok (.invokevirtual 323, 3) := by decide +kernel
theorem dX4_chooseForAllCores_111 : decode cX4_chooseForAllCores 111 = .ok (.astore 6, 2) := by decide +kernel
theorem dX4_chooseForAllCores_113 : decode cX4_chooseForAllCores 113 = .ok (.aload 4, 2) := by decide +kernel
theorem dX4_chooseForAllCores_115 : decode cX4_chooseForAllCores 115 = .ok (.aload 6, 2) := by decide +kernel
theorem dX4_chooseForAllCores_117 : decode cX4_chooseForAllCores 117 = .ok (.putfield 257, 3) := by decide +kernel
theorem dX4_chooseForAllCores_120 : decode cX4_chooseForAllCores 120 = .ok (.aload 6, 2) := by decide +kernel
theorem dX4_chooseForAllCores_122 : decode cX4_chooseForAllCores 122 = .ok (.ifnull 14, 3) := by decide +kernel
theorem dX4_chooseForAllCores_125 : decode cX4_chooseForAllCores 125 = .ok (.aload 6, 2) := by decide +kernel
theorem dX4_chooseForAllCores_127 : decode cX4_chooseForAllCores 127 = .ok (.iconst 0, 1) := by decide +kernel
theorem dX4_chooseForAllCores_128 : decode cX4_chooseForAllCores 128 = .ok (.putfield 316, 3) := by decide +kernel
theorem dX4_chooseForAllCores_131 : decode cX4_chooseForAllCores 131 = .ok (.iload_n 2, 1) := by decide +kernel
theorem dX4_chooseForAllCores_132 : decode cX4_chooseForAllCores 132 = .ok (.iload 5, 2) := by decide +kernel
theorem dX4_chooseForAllCores_134 : decode cX4_chooseForAllCores 134 = .ok (.iadd, 1) := by decide +kernel
theorem dX4_chooseForAllCores_135 : decode cX4_chooseForAllCores 135 = .ok (.istore_n 2, 1) := by decide +kernel
theorem dX4_chooseForAllCores_136 : decode cX4_chooseForAllCores 136 = .ok (.iinc 3 1, 3) := by decide +kernel
theorem dX4_chooseForAllCores_139 : decode cX4_chooseForAllCores 139 = .ok (.goto (-92), 3) := by decide +kernel
theorem dX4_chooseForAllCores_142 : decode cX4_chooseForAllCores 142 = .ok (.return_, 1) := by decide +kernel
theorem dX4_pickDownTheTree_0 : decode cX4_pickDownTheTree 0 = .ok (.aload_n 0, 1) := by decide +kernel
theorem dX4_pickDownTheTree_1 : decode cX4_pickDownTheTree 1 = .ok (.invokevirtual 326, 3) := by decide +kernel
theorem dX4_pickDownTheTree_4 : decode cX4_pickDownTheTree 4 = .ok (.astore_n 1, 1) := by decide +kernel
theorem dX4_pickDownTheTree_5 : decode cX4_pickDownTheTree 5 = .ok (.aload_n 1, 1) := by decide +kernel
theorem dX4_pickDownTheTree_6 : decode cX4_pickDownTheTree 6 = .ok (.ifnull 5, 3) := by decide +kernel
theorem dX4_pickDownTheTree_9 : decode cX4_pickDownTheTree 9 = .ok (.aload_n 1, 1) := by decide +kernel
theorem dX4_pickDownTheTree_10 : decode cX4_pickDownTheTree 10 = .ok (.areturn, 1) := by decide +kernel
theorem dX4_pickDownTheTree_11 : decode cX4_pickDownTheTree 11 = .ok (.aload_n 0, 1) := by decide +kernel
theorem dX4_pickDownTheTree_12 : decode cX4_pickDownTheTree 12 = .ok (.invokevirtual 329, 3) := by decide +kernel
theorem dX4_pickDownTheTree_15 : decode cX4_pickDownTheTree 15 = .ok (.aload_n 0, 1) := by decide +kernel
theorem dX4_pickDownTheTree_16 : decode cX4_pickDownTheTree 16 = .ok (.getfield 32, 3) := by decide +kernel
theorem dX4_pickDownTheTree_19 : decode cX4_pickDownTheTree 19 = .ok (.astore_n 2, 1) := by decide +kernel
theorem dX4_pickDownTheTree_20 : decode cX4_pickDownTheTree 20 = .ok (.iconst 0, 1) := by decide +kernel
theorem dX4_pickDownTheTree_21 : decode cX4_pickDownTheTree 21 = .ok (.istore_n 3, 1) := by decide +kernel
theorem dX4_pickDownTheTree_22 : decode cX4_pickDownTheTree 22 = .ok (.iload_n 3, 1) := by decide +kernel
theorem dX4_pickDownTheTree_23 : decode cX4_pickDownTheTree 23 = .ok (.bipush 6, 2) := by decide +kernel
theorem dX4_pickDownTheTree_25 : decode cX4_pickDownTheTree 25 = .ok (.if_icmp .ge 53, 3) := by decide +kernel
theorem dX4_pickDownTheTree_28 : decode cX4_pickDownTheTree 28 = .ok (.aload_n 0, 1) := by decide +kernel
theorem dX4_pickDownTheTree_29 : decode cX4_pickDownTheTree 29 = .ok (.aload_n 2, 1) := by decide +kernel
theorem dX4_pickDownTheTree_30 : decode cX4_pickDownTheTree 30 = .ok (.invokevirtual 332, 3) := by decide +kernel
theorem dX4_pickDownTheTree_33 : decode cX4_pickDownTheTree 33 = .ok (.astore 4, 2) := by decide +kernel
theorem dX4_pickDownTheTree_35 : decode cX4_pickDownTheTree 35 = .ok (.aload_n 0, 1) := by decide +kernel
theorem dX4_pickDownTheTree_36 : decode cX4_pickDownTheTree 36 = .ok (.aload_n 2, 1) := by decide +kernel
theorem dX4_pickDownTheTree_37 : decode cX4_pickDownTheTree 37 = .ok (.invokevirtual 336, 3) := by decide +kernel
theorem dX4_pickDownTheTree_40 : decode cX4_pickDownTheTree 40 = .ok (.astore 5, 2) := by decide +kernel
theorem dX4_pickDownTheTree_42 : decode cX4_pickDownTheTree 42 = .ok (.aload 4, 2) := by decide +kernel
theorem dX4_pickDownTheTree_44 : decode cX4_pickDownTheTree 44 = .ok (.ifnull 22, 3) := by decide +kernel
theorem dX4_pickDownTheTree_47 : decode cX4_pickDownTheTree 47 = .ok (.aload 5, 2) := by decide +kernel
theorem dX4_pickDownTheTree_49 : decode cX4_pickDownTheTree 49 = .ok (.ifnull 20, 3) := by decide +kernel
theorem dX4_pickDownTheTree_52 : decode cX4_pickDownTheTree 52 = .ok (.aload 5, 2) := by decide +kernel
theorem dX4_pickDownTheTree_54 : decode cX4_pickDownTheTree 54 = .ok (.getfield 191, 3) := by decide +kernel
theorem dX4_pickDownTheTree_57 : decode cX4_pickDownTheTree 57 = .ok (.aload 4, 2) := by decide +kernel
theorem dX4_pickDownTheTree_59 : decode cX4_pickDownTheTree 59 = .ok (.getfield 197, 3) := by decide +kernel
theorem dX4_pickDownTheTree_62 : decode cX4_pickDownTheTree 62 = .ok (.lcmp, 1) := by decide +kernel
theorem dX4_pickDownTheTree_63 : decode cX4_pickDownTheTree 63 = .ok (.ifCond .ge 6, 3) := by decide +kernel
theorem dX4_pickDownTheTree_66 : decode cX4_pickDownTheTree 66 = .ok (.aload 5, 2) := by decide +kernel
theorem dX4_pickDownTheTree_68 : decode cX4_pickDownTheTree 68 = .ok (.areturn, 1) := by decide +kernel
theorem dX4_pickDownTheTree_69 : decode cX4_pickDownTheTree 69 = .ok (.aload 4, 2) := by decide +kernel
theorem dX4_pickDownTheTree_71 : decode cX4_pickDownTheTree 71 = .ok (.astore_n 2, 1) := by decide +kernel
theorem dX4_pickDownTheTree_72 : decode cX4_pickDownTheTree 72 = .ok (.iinc 3 1, 3) := by decide +kernel
theorem dX4_pickDownTheTree_75 : decode cX4_pickDownTheTree 75 = .ok (.goto (-53), 3) := by decide +kernel
theorem dX4_pickDownTheTree_78 : decode cX4_pickDownTheTree 78 = .ok (.aconst_null, 1) := by decide +kernel
theorem dX4_pickDownTheTree_79 : decode cX4_pickDownTheTree 79 = .ok (.areturn, 1) := by decide +kernel
theorem dX4_mostUrgent_0 : decode cX4_mostUrgent 0 = .ok (.aconst_null, 1) := by decide +kernel
theorem dX4_mostUrgent_1 : decode cX4_mostUrgent 1 = .ok (.astore_n 1, 1) := by decide +kernel
theorem dX4_mostUrgent_2 : decode cX4_mostUrgent 2 = .ok (.ldc 222, 2) := by decide +kernel
theorem dX4_mostUrgent_4 : decode cX4_mostUrgent 4 = .ok (.istore_n 2, 1) := by decide +kernel
theorem dX4_mostUrgent_5 : decode cX4_mostUrgent 5 = .ok (.iconst 0, 1) := by decide +kernel
theorem dX4_mostUrgent_6 : decode cX4_mostUrgent 6 = .ok (.istore_n 3, 1) := by decide +kernel
theorem dX4_mostUrgent_7 : decode cX4_mostUrgent 7 = .ok (.iload_n 3, 1) := by decide +kernel
theorem dX4_mostUrgent_8 : decode cX4_mostUrgent 8 = .ok (.aload_n 0, 1) := by decide +kernel
theorem dX4_mostUrgent_9 : decode cX4_mostUrgent 9 = .ok (.getfield 21, 3) := by decide +kernel
theorem dX4_mostUrgent_12 : decode cX4_mostUrgent 12 = .ok (.invokevirtual 69, 3) := by decide +kernel
theorem dX4_mostUrgent_15 : decode cX4_mostUrgent 15 = .ok (.if_icmp .ge 48, 3) := by decide +kernel
theorem dX4_mostUrgent_18 : decode cX4_mostUrgent 18 = .ok (.aload_n 0, 1) := by decide +kernel
theorem dX4_mostUrgent_19 : decode cX4_mostUrgent 19 = .ok (.getfield 21, 3) := by decide +kernel
theorem dX4_mostUrgent_22 : decode cX4_mostUrgent 22 = .ok (.iload_n 3, 1) := by decide +kernel
theorem dX4_mostUrgent_23 : decode cX4_mostUrgent 23 = .ok (.invokevirtual 171, 3) := by decide +kernel
theorem dX4_mostUrgent_26 : decode cX4_mostUrgent 26 = .ok (.checkcast 121, 3) := by decide +kernel
theorem dX4_mostUrgent_29 : decode cX4_mostUrgent 29 = .ok (.astore 4, 2) := by decide +kernel
theorem dX4_mostUrgent_31 : decode cX4_mostUrgent 31 = .ok (.aload 4, 2) := by decide +kernel
theorem dX4_mostUrgent_33 : decode cX4_mostUrgent 33 = .ok (.getfield 316, 3) := by decide +kernel
theorem dX4_mostUrgent_36 : decode cX4_mostUrgent 36 = .ok (.ifCond .eq 21, 3) := by decide +kernel
theorem dX4_mostUrgent_39 : decode cX4_mostUrgent 39 = .ok (.aload 4, 2) := by decide +kernel
theorem dX4_mostUrgent_41 : decode cX4_mostUrgent 41 = .ok (.getfield 219, 3) := by decide +kernel
theorem dX4_mostUrgent_44 : decode cX4_mostUrgent 44 = .ok (.iload_n 2, 1) := by decide +kernel
theorem dX4_mostUrgent_45 : decode cX4_mostUrgent 45 = .ok (.if_icmp .ge 12, 3) := by decide +kernel
theorem dX4_mostUrgent_48 : decode cX4_mostUrgent 48 = .ok (.aload 4, 2) := by decide +kernel
theorem dX4_mostUrgent_50 : decode cX4_mostUrgent 50 = .ok (.astore_n 1, 1) := by decide +kernel
theorem dX4_mostUrgent_51 : decode cX4_mostUrgent 51 = .ok (.aload 4, 2) := by decide +kernel
theorem dX4_mostUrgent_53 : decode cX4_mostUrgent 53 = .ok (.getfield 219, 3) := by decide +kernel
theorem dX4_mostUrgent_56 : decode cX4_mostUrgent 56 = .ok (.istore_n 2, 1) := by decide +kernel
theorem dX4_mostUrgent_57 : decode cX4_mostUrgent 57 = .ok (.iinc 3 1, 3) := by decide +kernel
theorem dX4_mostUrgent_60 : decode cX4_mostUrgent 60 = .ok (.goto (-53), 3) := by decide +kernel
theorem dX4_mostUrgent_63 : decode cX4_mostUrgent 63 = .ok (.aload_n 1, 1) := by decide +kernel
theorem dX4_mostUrgent_64 : decode cX4_mostUrgent 64 = .ok (.areturn, 1) := by decide +kernel
theorem dX4_markLiveGroups_0 : decode cX4_markLiveGroups 0 = .ok (.iconst 0, 1) := by decide +kernel
theorem dX4_markLiveGroups_1 : decode cX4_markLiveGroups 1 = .ok (.istore_n 1, 1) := by decide +kernel
theorem dX4_markLiveGroups_2 : decode cX4_markLiveGroups 2 = .ok (.iload_n 1, 1) := by decide +kernel
theorem dX4_markLiveGroups_3 : decode cX4_markLiveGroups 3 = .ok (.aload_n 0, 1) := by decide +kernel
theorem dX4_markLiveGroups_4 : decode cX4_markLiveGroups 4 = .ok (.getfield 18, 3) := by decide +kernel
theorem dX4_markLiveGroups_7 : decode cX4_markLiveGroups 7 = .ok (.invokevirtual 69, 3) := by decide +kernel
theorem dX4_markLiveGroups_10 : decode cX4_markLiveGroups 10 = .ok (.if_icmp .ge 24, 3) := by decide +kernel
theorem dX4_markLiveGroups_13 : decode cX4_markLiveGroups 13 = .ok (.aload_n 0, 1) := by decide +kernel
theorem dX4_markLiveGroups_14 : decode cX4_markLiveGroups 14 = .ok (.getfield 18, 3) := by decide +kernel
theorem dX4_markLiveGroups_17 : decode cX4_markLiveGroups 17 = .ok (.iload_n 1, 1) := by decide +kernel
theorem dX4_markLiveGroups_18 : decode cX4_markLiveGroups 18 = .ok (.invokevirtual 171, 3) := by decide +kernel
theorem dX4_markLiveGroups_21 : decode cX4_markLiveGroups 21 = .ok (.checkcast 27, 3) := by decide +kernel
theorem dX4_markLiveGroups_24 : decode cX4_markLiveGroups 24 = .ok (.iconst 0, 1) := by decide +kernel
theorem dX4_markLiveGroups_25 : decode cX4_markLiveGroups 25 = .ok (.putfield 340, 3) := by decide +kernel
theorem dX4_markLiveGroups_28 : decode cX4_markLiveGroups 28 = .ok (.iinc 1 1, 3) := by decide +kernel
theorem dX4_markLiveGroups_31 : decode cX4_markLiveGroups 31 = .ok (.goto (-29), 3) := by decide +kernel
theorem dX4_markLiveGroups_34 : decode cX4_markLiveGroups 34 = .ok (.iconst 0, 1) := by decide +kernel
theorem dX4_markLiveGroups_35 : decode cX4_markLiveGroups 35 = .ok (.istore_n 1, 1) := by decide +kernel
theorem dX4_markLiveGroups_36 : decode cX4_markLiveGroups 36 = .ok (.iload_n 1, 1) := by decide +kernel
theorem dX4_markLiveGroups_37 : decode cX4_markLiveGroups 37 = .ok (.aload_n 0, 1) := by decide +kernel
theorem dX4_markLiveGroups_38 : decode cX4_markLiveGroups 38 = .ok (.getfield 21, 3) := by decide +kernel
theorem dX4_markLiveGroups_41 : decode cX4_markLiveGroups 41 = .ok (.invokevirtual 69, 3) := by decide +kernel
theorem dX4_markLiveGroups_44 : decode cX4_markLiveGroups 44 = .ok (.if_icmp .ge 50, 3) := by decide +kernel
theorem dX4_markLiveGroups_47 : decode cX4_markLiveGroups 47 = .ok (.aload_n 0, 1) := by decide +kernel
theorem dX4_markLiveGroups_48 : decode cX4_markLiveGroups 48 = .ok (.getfield 21, 3) := by decide +kernel
theorem dX4_markLiveGroups_51 : decode cX4_markLiveGroups 51 = .ok (.iload_n 1, 1) := by decide +kernel
theorem dX4_markLiveGroups_52 : decode cX4_markLiveGroups 52 = .ok (.invokevirtual 171, 3) := by decide +kernel
theorem dX4_markLiveGroups_55 : decode cX4_markLiveGroups 55 = .ok (.checkcast 121, 3) := by decide +kernel
theorem dX4_markLiveGroups_58 : decode cX4_markLiveGroups 58 = .ok (.astore_n 2, 1) := by decide +kernel
theorem dX4_markLiveGroups_59 : decode cX4_markLiveGroups 59 = .ok (.aload_n 2, 1) := by decide +kernel
theorem dX4_markLiveGroups_60 : decode cX4_markLiveGroups 60 = .ok (.getfield 316, 3) := by decide +kernel
theorem dX4_markLiveGroups_63 : decode cX4_markLiveGroups 63 = .ok (.ifCond .eq 25, 3) := by decide +kernel
theorem dX4_markLiveGroups_66 : decode cX4_markLiveGroups 66 = .ok (.aload_n 2, 1) := by decide +kernel
theorem dX4_markLiveGroups_67 : decode cX4_markLiveGroups 67 = .ok (.getfield 296, 3) := by decide +kernel
theorem dX4_markLiveGroups_70 : decode cX4_markLiveGroups 70 = .ok (.astore_n 3, 1) := by decide +kernel
theorem dX4_markLiveGroups_71 : decode cX4_markLiveGroups 71 = .ok (.aload_n 3, 1) := by decide +kernel
theorem dX4_markLiveGroups_72 : decode cX4_markLiveGroups 72 = .ok (.ifnull 16, 3) := by decide +kernel
theorem dX4_markLiveGroups_75 : decode cX4_markLiveGroups 75 = .ok (.aload_n 3, 1) := by decide +kernel
theorem dX4_markLiveGroups_76 : decode cX4_markLiveGroups 76 = .ok (.iconst 1, 1) := by decide +kernel
theorem dX4_markLiveGroups_77 : decode cX4_markLiveGroups 77 = .ok (.putfield 340, 3) := by decide +kernel
theorem dX4_markLiveGroups_80 : decode cX4_markLiveGroups 80 = .ok (.aload_n 3, 1) := by decide +kernel
theorem dX4_markLiveGroups_81 : decode cX4_markLiveGroups 81 = .ok (.getfield 290, 3) := by decide +kernel
theorem dX4_markLiveGroups_84 : decode cX4_markLiveGroups 84 = .ok (.astore_n 3, 1) := by decide +kernel
theorem dX4_markLiveGroups_85 : decode cX4_markLiveGroups 85 = .ok (.goto (-14), 3) := by decide +kernel
theorem dX4_markLiveGroups_88 : decode cX4_markLiveGroups 88 = .ok (.iinc 1 1, 3) := by decide +kernel
theorem dX4_markLiveGroups_91 : decode cX4_markLiveGroups 91 = .ok (.goto (-55), 3) := by decide +kernel
theorem dX4_markLiveGroups_94 : decode cX4_markLiveGroups 94 = .ok (.return_, 1) := by decide +kernel
theorem dX4_leastLiveGroupIn_0 : decode cX4_leastLiveGroupIn 0 = .ok (.aconst_null, 1) := by decide +kernel
theorem dX4_leastLiveGroupIn_1 : decode cX4_leastLiveGroupIn 1 = .ok (.astore_n 2, 1) := by decide +kernel
theorem dX4_leastLiveGroupIn_2 : decode cX4_leastLiveGroupIn 2 = .ok (.iconst 0, 1) := by decide +kernel
theorem dX4_leastLiveGroupIn_3 : decode cX4_leastLiveGroupIn 3 = .ok (.istore_n 3, 1) := by decide +kernel
theorem dX4_leastLiveGroupIn_4 : decode cX4_leastLiveGroupIn 4 = .ok (.iload_n 3, 1) := by decide +kernel
theorem dX4_leastLiveGroupIn_5 : decode cX4_leastLiveGroupIn 5 = .ok (.aload_n 0, 1) := by decide +kernel
theorem dX4_leastLiveGroupIn_6 : decode cX4_leastLiveGroupIn 6 = .ok (.getfield 18, 3) := by decide +kernel
theorem dX4_leastLiveGroupIn_9 : decode cX4_leastLiveGroupIn 9 = .ok (.invokevirtual 69, 3) := by decide +kernel
theorem dX4_leastLiveGroupIn_12 : decode cX4_leastLiveGroupIn 12 = .ok (.if_icmp .ge 59, 3) := by decide +kernel
theorem dX4_leastLiveGroupIn_15 : decode cX4_leastLiveGroupIn 15 = .ok (.aload_n 0, 1) := by decide +kernel
theorem dX4_leastLiveGroupIn_16 : decode cX4_leastLiveGroupIn 16 = .ok (.getfield 18, 3) := by decide +kernel
theorem dX4_leastLiveGroupIn_19 : decode cX4_leastLiveGroupIn 19 = .ok (.iload_n 3, 1) := by decide +kernel
theorem dX4_leastLiveGroupIn_20 : decode cX4_leastLiveGroupIn 20 = .ok (.invokevirtual 171, 3) := by decide +kernel
theorem dX4_leastLiveGroupIn_23 : decode cX4_leastLiveGroupIn 23 = .ok (.checkcast 27, 3) := by decide +kernel
theorem dX4_leastLiveGroupIn_26 : decode cX4_leastLiveGroupIn 26 = .ok (.astore 4, 2) := by decide +kernel
theorem dX4_leastLiveGroupIn_28 : decode cX4_leastLiveGroupIn 28 = .ok (.aload 4, 2) := by decide +kernel
theorem dX4_leastLiveGroupIn_30 : decode cX4_leastLiveGroupIn 30 = .ok (.getfield 340, 3) := by decide +kernel
theorem dX4_leastLiveGroupIn_33 : decode cX4_leastLiveGroupIn 33 = .ok (.ifCond .eq 32, 3) := by decide +kernel
theorem dX4_leastLiveGroupIn_36 : decode cX4_leastLiveGroupIn 36 = .ok (.aload 4, 2) := by decide +kernel
theorem dX4_leastLiveGroupIn_38 : decode cX4_leastLiveGroupIn 38 = .ok (.getfield 290, 3) := by decide +kernel
theorem dX4_leastLiveGroupIn_41 : decode cX4_leastLiveGroupIn 41 = .ok (.aload_n 1, 1) := by decide +kernel
theorem dX4_leastLiveGroupIn_42 : decode cX4_leastLiveGroupIn 42 = .ok (.if_acmp .ne 23, 3) := by decide +kernel
theorem dX4_leastLiveGroupIn_45 : decode cX4_leastLiveGroupIn 45 = .ok (.aload_n 2, 1) := by decide +kernel
theorem dX4_leastLiveGroupIn_46 : decode cX4_leastLiveGroupIn 46 = .ok (.ifnull 16, 3) := by decide +kernel
theorem dX4_leastLiveGroupIn_49 : decode cX4_leastLiveGroupIn 49 = .ok (.aload 4, 2) := by decide +kernel
theorem dX4_leastLiveGroupIn_51 : decode cX4_leastLiveGroupIn 51 = .ok (.getfield 197, 3) := by decide +kernel
theorem dX4_leastLiveGroupIn_54 : decode cX4_leastLiveGroupIn 54 = .ok (.aload_n 2, 1) := by decide +kernel
theorem dX4_leastLiveGroupIn_55 : decode cX4_leastLiveGroupIn 55 = .ok (.getfield 197, 3) := by decide +kernel
theorem dX4_leastLiveGroupIn_58 : decode cX4_leastLiveGroupIn 58 = .ok (.lcmp, 1) := by decide +kernel
theorem dX4_leastLiveGroupIn_59 : decode cX4_leastLiveGroupIn 59 = .ok (.ifCond .ge 6, 3) := by decide +kernel
theorem dX4_leastLiveGroupIn_62 : decode cX4_leastLiveGroupIn 62 = .ok (.aload 4, 2) := by decide +kernel
theorem dX4_leastLiveGroupIn_64 : decode cX4_leastLiveGroupIn 64 = .ok (.astore_n 2, 1) := by decide +kernel
theorem dX4_leastLiveGroupIn_65 : decode cX4_leastLiveGroupIn 65 = .ok (.iinc 3 1, 3) := by decide +kernel
theorem dX4_leastLiveGroupIn_68 : decode cX4_leastLiveGroupIn 68 = .ok (.goto (-64), 3) := by decide +kernel
theorem dX4_leastLiveGroupIn_71 : decode cX4_leastLiveGroupIn 71 = .ok (.aload_n 2, 1) := by decide +kernel
theorem dX4_leastLiveGroupIn_72 : decode cX4_leastLiveGroupIn 72 = .ok (.areturn, 1) := by decide +kernel
theorem dX4_leastTaskIn_0 : decode cX4_leastTaskIn 0 = .ok (.aconst_null, 1) := by decide +kernel
theorem dX4_leastTaskIn_1 : decode cX4_leastTaskIn 1 = .ok (.astore_n 2, 1) := by decide +kernel
theorem dX4_leastTaskIn_2 : decode cX4_leastTaskIn 2 = .ok (.iconst 0, 1) := by decide +kernel
theorem dX4_leastTaskIn_3 : decode cX4_leastTaskIn 3 = .ok (.istore_n 3, 1) := by decide +kernel
theorem dX4_leastTaskIn_4 : decode cX4_leastTaskIn 4 = .ok (.iload_n 3, 1) := by decide +kernel
theorem dX4_leastTaskIn_5 : decode cX4_leastTaskIn 5 = .ok (.aload_n 0, 1) := by decide +kernel
theorem dX4_leastTaskIn_6 : decode cX4_leastTaskIn 6 = .ok (.getfield 21, 3) := by decide +kernel
theorem dX4_leastTaskIn_9 : decode cX4_leastTaskIn 9 = .ok (.invokevirtual 69, 3) := by decide +kernel
theorem dX4_leastTaskIn_12 : decode cX4_leastTaskIn 12 = .ok (.if_icmp .ge 59, 3) := by decide +kernel
theorem dX4_leastTaskIn_15 : decode cX4_leastTaskIn 15 = .ok (.aload_n 0, 1) := by decide +kernel
theorem dX4_leastTaskIn_16 : decode cX4_leastTaskIn 16 = .ok (.getfield 21, 3) := by decide +kernel
theorem dX4_leastTaskIn_19 : decode cX4_leastTaskIn 19 = .ok (.iload_n 3, 1) := by decide +kernel
theorem dX4_leastTaskIn_20 : decode cX4_leastTaskIn 20 = .ok (.invokevirtual 171, 3) := by decide +kernel
theorem dX4_leastTaskIn_23 : decode cX4_leastTaskIn 23 = .ok (.checkcast 121, 3) := by decide +kernel
theorem dX4_leastTaskIn_26 : decode cX4_leastTaskIn 26 = .ok (.astore 4, 2) := by decide +kernel
theorem dX4_leastTaskIn_28 : decode cX4_leastTaskIn 28 = .ok (.aload 4, 2) := by decide +kernel
theorem dX4_leastTaskIn_30 : decode cX4_leastTaskIn 30 = .ok (.getfield 296, 3) := by decide +kernel
theorem dX4_leastTaskIn_33 : decode cX4_leastTaskIn 33 = .ok (.aload_n 1, 1) := by decide +kernel
theorem dX4_leastTaskIn_34 : decode cX4_leastTaskIn 34 = .ok (.if_acmp .ne 31, 3) := by decide +kernel
theorem dX4_leastTaskIn_37 : decode cX4_leastTaskIn 37 = .ok (.aload 4, 2) := by decide +kernel
theorem dX4_leastTaskIn_39 : decode cX4_leastTaskIn 39 = .ok (.getfield 316, 3) := by decide +kernel
theorem dX4_leastTaskIn_42 : decode cX4_leastTaskIn 42 = .ok (.ifCond .eq 23, 3) := by decide +kernel
theorem dX4_leastTaskIn_45 : decode cX4_leastTaskIn 45 = .ok (.aload_n 2, 1) := by decide +kernel
theorem dX4_leastTaskIn_46 : decode cX4_leastTaskIn 46 = .ok (.ifnull 16, 3) := by decide +kernel
theorem dX4_leastTaskIn_49 : decode cX4_leastTaskIn 49 = .ok (.aload 4, 2) := by decide +kernel
theorem dX4_leastTaskIn_51 : decode cX4_leastTaskIn 51 = .ok (.getfield 191, 3) := by decide +kernel
theorem dX4_leastTaskIn_54 : decode cX4_leastTaskIn 54 = .ok (.aload_n 2, 1) := by decide +kernel
theorem dX4_leastTaskIn_55 : decode cX4_leastTaskIn 55 = .ok (.getfield 191, 3) := by decide +kernel
theorem dX4_leastTaskIn_58 : decode cX4_leastTaskIn 58 = .ok (.lcmp, 1) := by decide +kernel
theorem dX4_leastTaskIn_59 : decode cX4_leastTaskIn 59 = .ok (.ifCond .ge 6, 3) := by decide +kernel
theorem dX4_leastTaskIn_62 : decode cX4_leastTaskIn 62 = .ok (.aload 4, 2) := by decide +kernel
theorem dX4_leastTaskIn_64 : decode cX4_leastTaskIn 64 = .ok (.astore_n 2, 1) := by decide +kernel
theorem dX4_leastTaskIn_65 : decode cX4_leastTaskIn 65 = .ok (.iinc 3 1, 3) := by decide +kernel
theorem dX4_leastTaskIn_68 : decode cX4_leastTaskIn 68 = .ok (.goto (-64), 3) := by decide +kernel
theorem dX4_leastTaskIn_71 : decode cX4_leastTaskIn 71 = .ok (.aload_n 2, 1) := by decide +kernel
theorem dX4_leastTaskIn_72 : decode cX4_leastTaskIn 72 = .ok (.areturn, 1) := by decide +kernel
theorem dX4_pickByComparing_0 : decode cX4_pickByComparing 0 = .ok (.aconst_null, 1) := by decide +kernel
theorem dX4_pickByComparing_1 : decode cX4_pickByComparing 1 = .ok (.astore_n 1, 1) := by decide +kernel
theorem dX4_pickByComparing_2 : decode cX4_pickByComparing 2 = .ok (.iconst 0, 1) := by decide +kernel
theorem dX4_pickByComparing_3 : decode cX4_pickByComparing 3 = .ok (.istore_n 2, 1) := by decide +kernel
theorem dX4_pickByComparing_4 : decode cX4_pickByComparing 4 = .ok (.iload_n 2, 1) := by decide +kernel
theorem dX4_pickByComparing_5 : decode cX4_pickByComparing 5 = .ok (.aload_n 0, 1) := by decide +kernel
theorem dX4_pickByComparing_6 : decode cX4_pickByComparing 6 = .ok (.getfield 21, 3) := by decide +kernel
theorem dX4_pickByComparing_9 : decode cX4_pickByComparing 9 = .ok (.invokevirtual 69, 3) := by decide +kernel
theorem dX4_pickByComparing_12 : decode cX4_pickByComparing 12 = .ok (.if_icmp .ge 42, 3) := by decide +kernel
theorem dX4_pickByComparing_15 : decode cX4_pickByComparing 15 = .ok (.aload_n 0, 1) := by decide +kernel
theorem dX4_pickByComparing_16 : decode cX4_pickByComparing 16 = .ok (.getfield 21, 3) := by decide +kernel
theorem dX4_pickByComparing_19 : decode cX4_pickByComparing 19 = .ok (.iload_n 2, 1) := by decide +kernel
theorem dX4_pickByComparing_20 : decode cX4_pickByComparing 20 = .ok (.invokevirtual 171, 3) := by decide +kernel
theorem dX4_pickByComparing_23 : decode cX4_pickByComparing 23 = .ok (.checkcast 121, 3) := by decide +kernel
theorem dX4_pickByComparing_26 : decode cX4_pickByComparing 26 = .ok (.astore_n 3, 1) := by decide +kernel
theorem dX4_pickByComparing_27 : decode cX4_pickByComparing 27 = .ok (.aload_n 3, 1) := by decide +kernel
theorem dX4_pickByComparing_28 : decode cX4_pickByComparing 28 = .ok (.getfield 316, 3) := by decide +kernel
theorem dX4_pickByComparing_31 : decode cX4_pickByComparing 31 = .ok (.ifCond .eq 17, 3) := by decide +kernel
theorem dX4_pickByComparing_34 : decode cX4_pickByComparing 34 = .ok (.aload_n 1, 1) := by decide +kernel
theorem dX4_pickByComparing_35 : decode cX4_pickByComparing 35 = .ok (.ifnull 11, 3) := by decide +kernel
theorem dX4_pickByComparing_38 : decode cX4_pickByComparing 38 = .ok (.aload_n 3, 1) := by decide +kernel
theorem dX4_pickByComparing_39 : decode cX4_pickByComparing 39 = .ok (.aload_n 1, 1) := by decide +kernel
theorem dX4_pickByComparing_40 : decode cX4_pickByComparing 40 = .ok (.invokestatic 343, 3) := by decide +kernel
theorem dX4_pickByComparing_43 : decode cX4_pickByComparing 43 = .ok (.ifCond .eq 5, 3) := by decide +kernel
theorem dX4_pickByComparing_46 : decode cX4_pickByComparing 46 = .ok (.aload_n 3, 1) := by decide +kernel
theorem dX4_pickByComparing_47 : decode cX4_pickByComparing 47 = .ok (.astore_n 1, 1) := by decide +kernel
theorem dX4_pickByComparing_48 : decode cX4_pickByComparing 48 = .ok (.iinc 2 1, 3) := by decide +kernel
theorem dX4_pickByComparing_51 : decode cX4_pickByComparing 51 = .ok (.goto (-47), 3) := by decide +kernel
theorem dX4_pickByComparing_54 : decode cX4_pickByComparing 54 = .ok (.aload_n 1, 1) := by decide +kernel
theorem dX4_pickByComparing_55 : decode cX4_pickByComparing 55 = .ok (.areturn, 1) := by decide +kernel
theorem dX4_goesBefore_0 : decode cX4_goesBefore 0 = .ok (.aload_n 0, 1) := by decide +kernel
theorem dX4_goesBefore_1 : decode cX4_goesBefore 1 = .ok (.getfield 219, 3) := by decide +kernel
theorem dX4_goesBefore_4 : decode cX4_goesBefore 4 = .ok (.aload_n 1, 1) := by decide +kernel
theorem dX4_goesBefore_5 : decode cX4_goesBefore 5 = .ok (.getfield 219, 3) := by decide +kernel
theorem dX4_goesBefore_8 : decode cX4_goesBefore 8 = .ok (.if_icmp .eq 20, 3) := by decide +kernel
theorem dX4_goesBefore_11 : decode cX4_goesBefore 11 = .ok (.aload_n 0, 1) := by decide +kernel
theorem dX4_goesBefore_12 : decode cX4_goesBefore 12 = .ok (.getfield 219, 3) := by decide +kernel
theorem dX4_goesBefore_15 : decode cX4_goesBefore 15 = .ok (.aload_n 1, 1) := by decide +kernel
theorem dX4_goesBefore_16 : decode cX4_goesBefore 16 = .ok (.getfield 219, 3) := by decide +kernel
theorem dX4_goesBefore_19 : decode cX4_goesBefore 19 = .ok (.if_icmp .ge 7, 3) := by decide +kernel
theorem dX4_goesBefore_22 : decode cX4_goesBefore 22 = .ok (.iconst 1, 1) := by decide +kernel
theorem dX4_goesBefore_23 : decode cX4_goesBefore 23 = .ok (.goto 4, 3) := by decide +kernel
theorem dX4_goesBefore_26 : decode cX4_goesBefore 26 = .ok (.iconst 0, 1) := by decide +kernel
theorem dX4_goesBefore_27 : decode cX4_goesBefore 27 = .ok (.ireturn, 1) := by decide +kernel
theorem dX4_goesBefore_28 : decode cX4_goesBefore 28 = .ok (.aload_n 0, 1) := by decide +kernel
theorem dX4_goesBefore_29 : decode cX4_goesBefore 29 = .ok (.getfield 219, 3) := by decide +kernel
theorem dX4_goesBefore_32 : decode cX4_goesBefore 32 = .ok (.ldc 222, 2) := by decide +kernel
theorem dX4_goesBefore_34 : decode cX4_goesBefore 34 = .ok (.if_icmp .eq 20, 3) := by decide +kernel
theorem dX4_goesBefore_37 : decode cX4_goesBefore 37 = .ok (.aload_n 0, 1) := by decide +kernel
theorem dX4_goesBefore_38 : decode cX4_goesBefore 38 = .ok (.getfield 283, 3) := by decide +kernel
theorem dX4_goesBefore_41 : decode cX4_goesBefore 41 = .ok (.aload_n 1, 1) := by decide +kernel
theorem dX4_goesBefore_42 : decode cX4_goesBefore 42 = .ok (.getfield 283, 3) := by decide +kernel
theorem dX4_goesBefore_45 : decode cX4_goesBefore 45 = .ok (.if_icmp .ge 7, 3) := by decide +kernel
theorem dX4_goesBefore_48 : decode cX4_goesBefore 48 = .ok (.iconst 1, 1) := by decide +kernel
theorem dX4_goesBefore_49 : decode cX4_goesBefore 49 = .ok (.goto 4, 3) := by decide +kernel
theorem dX4_goesBefore_52 : decode cX4_goesBefore 52 = .ok (.iconst 0, 1) := by decide +kernel
theorem dX4_goesBefore_53 : decode cX4_goesBefore 53 = .ok (.ireturn, 1) := by decide +kernel
theorem dX4_goesBefore_54 : decode cX4_goesBefore 54 = .ok (.aload_n 0, 1) := by decide +kernel
theorem dX4_goesBefore_55 : decode cX4_goesBefore 55 = .ok (.aload_n 1, 1) := by decide +kernel
theorem dX4_goesBefore_56 : decode cX4_goesBefore 56 = .ok (.invokestatic 346, 3) := by decide +kernel
theorem dX4_goesBefore_59 : decode cX4_goesBefore 59 = .ok (.ireturn, 1) := by decide +kernel
theorem dX4_goesBeforeInTheTree_0 : decode cX4_goesBeforeInTheTree 0 = .ok (.aload_n 0, 1) := by decide +kernel
theorem dX4_goesBeforeInTheTree_1 : decode cX4_goesBeforeInTheTree 1 = .ok (.getfield 296, 3) := by decide +kernel
theorem dX4_goesBeforeInTheTree_4 : decode cX4_goesBeforeInTheTree 4 = .ok (.astore_n 2, 1) := by decide +kernel
theorem dX4_goesBeforeInTheTree_5 : decode cX4_goesBeforeInTheTree 5 = .ok (.aload_n 1, 1) := by decide +kernel
theorem dX4_goesBeforeInTheTree_6 : decode cX4_goesBeforeInTheTree 6 = .ok (.getfield 296, 3) := by decide +kernel
theorem dX4_goesBeforeInTheTree_9 : decode cX4_goesBeforeInTheTree 9 = .ok (.astore_n 3, 1) := by decide +kernel
theorem dX4_goesBeforeInTheTree_10 : decode cX4_goesBeforeInTheTree 10 = .ok (.aconst_null, 1) := by decide +kernel
theorem dX4_goesBeforeInTheTree_11 : decode cX4_goesBeforeInTheTree 11 = .ok (.astore 4, 2) := by decide +kernel
theorem dX4_goesBeforeInTheTree_13 : decode cX4_goesBeforeInTheTree 13 = .ok (.aconst_null, 1) := by decide +kernel
theorem dX4_goesBeforeInTheTree_14 : decode cX4_goesBeforeInTheTree 14 = .ok (.astore 5, 2) := by decide +kernel
theorem dX4_goesBeforeInTheTree_16 : decode cX4_goesBeforeInTheTree 16 = .ok (.iconst 0, 1) := by decide +kernel
theorem dX4_goesBeforeInTheTree_17 : decode cX4_goesBeforeInTheTree 17 = .ok (.istore 6, 2) := by decide +kernel
theorem dX4_goesBeforeInTheTree_19 : decode cX4_goesBeforeInTheTree 19 = .ok (.iload 6, 2) := by decide +kernel
theorem dX4_goesBeforeInTheTree_21 : decode cX4_goesBeforeInTheTree 21 = .ok (.bipush 12, 2) := by decide +kernel
theorem dX4_goesBeforeInTheTree_23 : decode cX4_goesBeforeInTheTree 23 = .ok (.if_icmp .ge 52, 3) := by decide +kernel
theorem dX4_goesBeforeInTheTree_26 : decode cX4_goesBeforeInTheTree 26 = .ok (.aload_n 2, 1) := by decide +kernel
theorem dX4_goesBeforeInTheTree_27 : decode cX4_goesBeforeInTheTree 27 = .ok (.ifnull 48, 3) := by decide +kernel
theorem dX4_goesBeforeInTheTree_30 : decode cX4_goesBeforeInTheTree 30 = .ok (.aload_n 3, 1) := by decide +kernel
theorem dX4_goesBeforeInTheTree_31 : decode cX4_goesBeforeInTheTree 31 = .ok (.ifnull 44, 3) := by decide +kernel
theorem dX4_goesBeforeInTheTree_34 : decode cX4_goesBeforeInTheTree 34 = .ok (.aload_n 2, 1) := by decide +kernel
theorem dX4_goesBeforeInTheTree_35 : decode cX4_goesBeforeInTheTree 35 = .ok (.aload_n 3, 1) := by decide +kernel
theorem dX4_goesBeforeInTheTree_36 : decode cX4_goesBeforeInTheTree 36 = .ok (.if_acmp .eq 39, 3) := by decide +kernel
theorem dX4_goesBeforeInTheTree_39 : decode cX4_goesBeforeInTheTree 39 = .ok (.aload_n 2, 1) := by decide +kernel
theorem dX4_goesBeforeInTheTree_40 : decode cX4_goesBeforeInTheTree 40 = .ok (.getfield 349, 3) := by decide +kernel
theorem dX4_goesBeforeInTheTree_43 : decode cX4_goesBeforeInTheTree 43 = .ok (.aload_n 3, 1) := by decide +kernel
theorem dX4_goesBeforeInTheTree_44 : decode cX4_goesBeforeInTheTree 44 = .ok (.getfield 349, 3) := by decide +kernel
theorem dX4_goesBeforeInTheTree_47 : decode cX4_goesBeforeInTheTree 47 = .ok (.if_icmp .le 14, 3) := by decide +kernel
theorem dX4_goesBeforeInTheTree_50 : decode cX4_goesBeforeInTheTree 50 = .ok (.aload_n 2, 1) := by decide +kernel
theorem dX4_goesBeforeInTheTree_51 : decode cX4_goesBeforeInTheTree 51 = .ok (.astore 4, 2) := by decide +kernel
theorem dX4_goesBeforeInTheTree_53 : decode cX4_goesBeforeInTheTree 53 = .ok (.aload_n 2, 1) := by decide +kernel
theorem dX4_goesBeforeInTheTree_54 : decode cX4_goesBeforeInTheTree 54 = .ok (.getfield 290, 3) := by decide +kernel
theorem dX4_goesBeforeInTheTree_57 : decode cX4_goesBeforeInTheTree 57 = .ok (.astore_n 2, 1) := by decide +kernel
theorem dX4_goesBeforeInTheTree_58 : decode cX4_goesBeforeInTheTree 58 = .ok (.goto 11, 3) := by decide +kernel
theorem dX4_goesBeforeInTheTree_61 : decode cX4_goesBeforeInTheTree 61 = .ok (.aload_n 3, 1) := by decide +kernel
theorem dX4_goesBeforeInTheTree_62 : decode cX4_goesBeforeInTheTree 62 = .ok (.astore 5, 2) := by decide +kernel
theorem dX4_goesBeforeInTheTree_64 : decode cX4_goesBeforeInTheTree 64 = .ok (.aload_n 3, 1) := by decide +kernel
theorem dX4_goesBeforeInTheTree_65 : decode cX4_goesBeforeInTheTree 65 = .ok (.getfield 290, 3) := by decide +kernel
theorem dX4_goesBeforeInTheTree_68 : decode cX4_goesBeforeInTheTree 68 = .ok (.astore_n 3, 1) := by decide +kernel
theorem dX4_goesBeforeInTheTree_69 : decode cX4_goesBeforeInTheTree 69 = .ok (.iinc 6 1, 3) := by decide +kernel
theorem dX4_goesBeforeInTheTree_72 : decode cX4_goesBeforeInTheTree 72 = .ok (.goto (-53), 3) := by decide +kernel
theorem dX4_goesBeforeInTheTree_75 : decode cX4_goesBeforeInTheTree 75 = .ok (.aload 4, 2) := by decide +kernel
theorem dX4_goesBeforeInTheTree_77 : decode cX4_goesBeforeInTheTree 77 = .ok (.ifnonnull 10, 3) := by decide +kernel
theorem dX4_goesBeforeInTheTree_80 : decode cX4_goesBeforeInTheTree 80 = .ok (.aload_n 0, 1) := by decide +kernel
theorem dX4_goesBeforeInTheTree_81 : decode cX4_goesBeforeInTheTree 81 = .ok (.getfield 191, 3) := by decide +kernel
theorem dX4_goesBeforeInTheTree_84 : decode cX4_goesBeforeInTheTree 84 = .ok (.goto 8, 3) := by decide +kernel
theorem dX4_goesBeforeInTheTree_87 : decode cX4_goesBeforeInTheTree 87 = .ok (.aload 4, 2) := by decide +kernel
theorem dX4_goesBeforeInTheTree_89 : decode cX4_goesBeforeInTheTree 89 = .ok (.getfield 197, 3) := by decide +kernel
theorem dX4_goesBeforeInTheTree_92 : decode cX4_goesBeforeInTheTree 92 = .ok (.lstore 6, 2) := by decide +kernel
theorem dX4_goesBeforeInTheTree_94 : decode cX4_goesBeforeInTheTree 94 = .ok (.aload 5, 2) := by decide +kernel
theorem dX4_goesBeforeInTheTree_96 : decode cX4_goesBeforeInTheTree 96 = .ok (.ifnonnull 10, 3) := by decide +kernel
theorem dX4_goesBeforeInTheTree_99 : decode cX4_goesBeforeInTheTree 99 = .ok (.aload_n 1, 1) := by decide +kernel
theorem dX4_goesBeforeInTheTree_100 : decode cX4_goesBeforeInTheTree 100 = .ok (.getfield 191, 3) := by decide +kernel
theorem dX4_goesBeforeInTheTree_103 : decode cX4_goesBeforeInTheTree 103 = .ok (.goto 8, 3) := by decide +kernel
theorem dX4_goesBeforeInTheTree_106 : decode cX4_goesBeforeInTheTree 106 = .ok (.aload 5, 2) := by decide +kernel
theorem dX4_goesBeforeInTheTree_108 : decode cX4_goesBeforeInTheTree 108 = .ok (.getfield 197, 3) := by decide +kernel
theorem dX4_goesBeforeInTheTree_111 : decode cX4_goesBeforeInTheTree 111 = .ok (.lstore 8, 2) := by decide +kernel
theorem dX4_goesBeforeInTheTree_113 : decode cX4_goesBeforeInTheTree 113 = .ok (.lload 6, 2) := by decide +kernel
theorem dX4_goesBeforeInTheTree_115 : decode cX4_goesBeforeInTheTree 115 = .ok (.lload 8, 2) := by decide +kernel
theorem dX4_goesBeforeInTheTree_117 : decode cX4_goesBeforeInTheTree 117 = .ok (.lcmp, 1) := by decide +kernel
theorem dX4_goesBeforeInTheTree_118 : decode cX4_goesBeforeInTheTree 118 = .ok (.ifCond .eq 17, 3) := by decide +kernel
theorem dX4_goesBeforeInTheTree_121 : decode cX4_goesBeforeInTheTree 121 = .ok (.lload 6, 2) := by decide +kernel
theorem dX4_goesBeforeInTheTree_123 : decode cX4_goesBeforeInTheTree 123 = .ok (.lload 8, 2) := by decide +kernel
theorem dX4_goesBeforeInTheTree_125 : decode cX4_goesBeforeInTheTree 125 = .ok (.lcmp, 1) := by decide +kernel
theorem dX4_goesBeforeInTheTree_126 : decode cX4_goesBeforeInTheTree 126 = .ok (.ifCond .ge 7, 3) := by decide +kernel
theorem dX4_goesBeforeInTheTree_129 : decode cX4_goesBeforeInTheTree 129 = .ok (.iconst 1, 1) := by decide +kernel
theorem dX4_goesBeforeInTheTree_130 : decode cX4_goesBeforeInTheTree 130 = .ok (.goto 4, 3) := by decide +kernel
theorem dX4_goesBeforeInTheTree_133 : decode cX4_goesBeforeInTheTree 133 = .ok (.iconst 0, 1) := by decide +kernel
theorem dX4_goesBeforeInTheTree_134 : decode cX4_goesBeforeInTheTree 134 = .ok (.ireturn, 1) := by decide +kernel
theorem dX4_goesBeforeInTheTree_135 : decode cX4_goesBeforeInTheTree 135 = .ok (.aload 4, 2) := by decide +kernel
theorem dX4_goesBeforeInTheTree_137 : decode cX4_goesBeforeInTheTree 137 = .ok (.ifnull 27, 3) := by decide +kernel
theorem dX4_goesBeforeInTheTree_140 : decode cX4_goesBeforeInTheTree 140 = .ok (.aload 5, 2) := by decide +kernel
theorem dX4_goesBeforeInTheTree_142 : decode cX4_goesBeforeInTheTree 142 = .ok (.ifnull 22, 3) := by decide +kernel
theorem dX4_goesBeforeInTheTree_145 : decode cX4_goesBeforeInTheTree 145 = .ok (.aload 4, 2) := by decide +kernel
theorem dX4_goesBeforeInTheTree_147 : decode cX4_goesBeforeInTheTree 147 = .ok (.getfield 349, 3) := by decide +kernel
theorem dX4_goesBeforeInTheTree_150 : decode cX4_goesBeforeInTheTree 150 = .ok (.aload 5, 2) := by decide +kernel
theorem dX4_goesBeforeInTheTree_152 : decode cX4_goesBeforeInTheTree 152 = .ok (.getfield 349, 3) := by decide +kernel
theorem dX4_goesBeforeInTheTree_155 : decode cX4_goesBeforeInTheTree 155 = .ok (.if_icmp .ge 7, 3) := by decide +kernel
theorem dX4_goesBeforeInTheTree_158 : decode cX4_goesBeforeInTheTree 158 = .ok (.iconst 1, 1) := by decide +kernel
theorem dX4_goesBeforeInTheTree_159 : decode cX4_goesBeforeInTheTree 159 = .ok (.goto 4, 3) := by decide +kernel
theorem dX4_goesBeforeInTheTree_162 : decode cX4_goesBeforeInTheTree 162 = .ok (.iconst 0, 1) := by decide +kernel
theorem dX4_goesBeforeInTheTree_163 : decode cX4_goesBeforeInTheTree 163 = .ok (.ireturn, 1) := by decide +kernel
theorem dX4_goesBeforeInTheTree_164 : decode cX4_goesBeforeInTheTree 164 = .ok (.aload 4, 2) := by decide +kernel
theorem dX4_goesBeforeInTheTree_166 : decode cX4_goesBeforeInTheTree 166 = .ok (.ifnonnull 25, 3) := by decide +kernel
theorem dX4_goesBeforeInTheTree_169 : decode cX4_goesBeforeInTheTree 169 = .ok (.aload 5, 2) := by decide +kernel
theorem dX4_goesBeforeInTheTree_171 : decode cX4_goesBeforeInTheTree 171 = .ok (.ifnonnull 20, 3) := by decide +kernel
theorem dX4_goesBeforeInTheTree_174 : decode cX4_goesBeforeInTheTree 174 = .ok (.aload_n 0, 1) := by decide +kernel
theorem dX4_goesBeforeInTheTree_175 : decode cX4_goesBeforeInTheTree 175 = .ok (.getfield 283, 3) := by decide +kernel
theorem dX4_goesBeforeInTheTree_178 : decode cX4_goesBeforeInTheTree 178 = .ok (.aload_n 1, 1) := by decide +kernel
theorem dX4_goesBeforeInTheTree_179 : decode cX4_goesBeforeInTheTree 179 = .ok (.getfield 283, 3) := by decide +kernel
theorem dX4_goesBeforeInTheTree_182 : decode cX4_goesBeforeInTheTree 182 = .ok (.if_icmp .ge 7, 3) := by decide +kernel
theorem dX4_goesBeforeInTheTree_185 : decode cX4_goesBeforeInTheTree 185 = .ok (.iconst 1, 1) := by decide +kernel
theorem dX4_goesBeforeInTheTree_186 : decode cX4_goesBeforeInTheTree 186 = .ok (.goto 4, 3) := by decide +kernel
theorem dX4_goesBeforeInTheTree_189 : decode cX4_goesBeforeInTheTree 189 = .ok (.iconst 0, 1) := by decide +kernel
theorem dX4_goesBeforeInTheTree_190 : decode cX4_goesBeforeInTheTree 190 = .ok (.ireturn, 1) := by decide +kernel
theorem dX4_goesBeforeInTheTree_191 : decode cX4_goesBeforeInTheTree 191 = .ok (.aload 4, 2) := by decide +kernel
theorem dX4_goesBeforeInTheTree_193 : decode cX4_goesBeforeInTheTree 193 = .ok (.ifnull 7, 3) := by decide +kernel
theorem dX4_goesBeforeInTheTree_196 : decode cX4_goesBeforeInTheTree 196 = .ok (.iconst 1, 1) := by decide +kernel
theorem dX4_goesBeforeInTheTree_197 : decode cX4_goesBeforeInTheTree 197 = .ok (.goto 4, 3) := by decide +kernel
theorem dX4_goesBeforeInTheTree_200 : decode cX4_goesBeforeInTheTree 200 = .ok (.iconst 0, 1) := by decide +kernel
theorem dX4_goesBeforeInTheTree_201 : decode cX4_goesBeforeInTheTree 201 = .ok (.ireturn, 1) := by decide +kernel
theorem dX4_passOneTick_0 : decode cX4_passOneTick 0 = .ok (.aload_n 0, 1) := by decide +kernel
theorem dX4_passOneTick_1 : decode cX4_passOneTick 1 = .ok (.invokevirtual 350, 3) := by decide +kernel
theorem dX4_passOneTick_4 : decode cX4_passOneTick 4 = .ok (.aload_n 0, 1) := by decide +kernel
theorem dX4_passOneTick_5 : decode cX4_passOneTick 5 = .ok (.iconst 1, 1) := by decide +kernel
theorem dX4_passOneTick_6 : decode cX4_passOneTick 6 = .ok (.invokevirtual 253, 3) := by decide +kernel
theorem dX4_passOneTick_9 : decode cX4_passOneTick 9 = .ok (.iconst 0, 1) := by decide +kernel
theorem dX4_passOneTick_10 : decode cX4_passOneTick 10 = .ok (.istore_n 1, 1) := by decide +kernel
theorem dX4_passOneTick_11 : decode cX4_passOneTick 11 = .ok (.iload_n 1, 1) := by decide +kernel
theorem dX4_passOneTick_12 : decode cX4_passOneTick 12 = .ok (.aload_n 0, 1) := by decide +kernel
theorem dX4_passOneTick_13 : decode cX4_passOneTick 13 = .ok (.getfield 12, 3) := by decide +kernel
theorem dX4_passOneTick_16 : decode cX4_passOneTick 16 = .ok (.invokevirtual 69, 3) := by decide +kernel
theorem dX4_passOneTick_19 : decode cX4_passOneTick 19 = .ok (.if_icmp .ge 37, 3) := by decide +kernel
theorem dX4_passOneTick_22 : decode cX4_passOneTick 22 = .ok (.aload_n 0, 1) := by decide +kernel
theorem dX4_passOneTick_23 : decode cX4_passOneTick 23 = .ok (.getfield 12, 3) := by decide +kernel
theorem dX4_passOneTick_26 : decode cX4_passOneTick 26 = .ok (.iload_n 1, 1) := by decide +kernel
theorem dX4_passOneTick_27 : decode cX4_passOneTick 27 = .ok (.invokevirtual 171, 3) := by decide +kernel
theorem dX4_passOneTick_30 : decode cX4_passOneTick 30 = .ok (.checkcast 78, 3) := by decide +kernel
theorem dX4_passOneTick_33 : decode cX4_passOneTick 33 = .ok (.astore_n 2, 1) := by decide +kernel
theorem dX4_passOneTick_34 : decode cX4_passOneTick 34 = .ok (.aload_n 2, 1) := by decide +kernel
theorem dX4_passOneTick_35 : decode cX4_passOneTick 35 = .ok (.getfield 257, 3) := by decide +kernel
theorem dX4_passOneTick_38 : decode cX4_passOneTick 38 = .ok (.ifnull 12, 3) := by decide +kernel
theorem dX4_passOneTick_41 : decode cX4_passOneTick 41 = .ok (.aload_n 0, 1) := by decide +kernel
theorem dX4_passOneTick_42 : decode cX4_passOneTick 42 = .ok (.aload_n 2, 1) := by decide +kernel
theorem dX4_passOneTick_43 : decode cX4_passOneTick 43 = .ok (.aload_n 2, 1) := by decide +kernel
theorem dX4_passOneTick_44 : decode cX4_passOneTick 44 = .ok (.getfield 257, 3) := by decide +kernel
theorem dX4_passOneTick_47 : decode cX4_passOneTick 47 = .ok (.invokevirtual 353, 3) := by decide +kernel
theorem dX4_passOneTick_50 : decode cX4_passOneTick 50 = .ok (.iinc 1 1, 3) := by decide +kernel
theorem dX4_passOneTick_53 : decode cX4_passOneTick 53 = .ok (.goto (-42), 3) := by decide +kernel
theorem dX4_passOneTick_56 : decode cX4_passOneTick 56 = .ok (.iconst 0, 1) := by decide +kernel
theorem dX4_passOneTick_57 : decode cX4_passOneTick 57 = .ok (.istore_n 1, 1) := by decide +kernel
theorem dX4_passOneTick_58 : decode cX4_passOneTick 58 = .ok (.iload_n 1, 1) := by decide +kernel
theorem dX4_passOneTick_59 : decode cX4_passOneTick 59 = .ok (.aload_n 0, 1) := by decide +kernel
theorem dX4_passOneTick_60 : decode cX4_passOneTick 60 = .ok (.getfield 12, 3) := by decide +kernel
theorem dX4_passOneTick_63 : decode cX4_passOneTick 63 = .ok (.invokevirtual 69, 3) := by decide +kernel
theorem dX4_passOneTick_66 : decode cX4_passOneTick 66 = .ok (.if_icmp .ge 24, 3) := by decide +kernel
theorem dX4_passOneTick_69 : decode cX4_passOneTick 69 = .ok (.aload_n 0, 1) := by decide +kernel
theorem dX4_passOneTick_70 : decode cX4_passOneTick 70 = .ok (.aload_n 0, 1) := by decide +kernel
theorem dX4_passOneTick_71 : decode cX4_passOneTick 71 = .ok (.getfield 12, 3) := by decide +kernel
theorem dX4_passOneTick_74 : decode cX4_passOneTick 74 = .ok (.iload_n 1, 1) := by decide +kernel
theorem dX4_passOneTick_75 : decode cX4_passOneTick 75 = .ok (.invokevirtual 171, 3) := by decide +kernel
theorem dX4_passOneTick_78 : decode cX4_passOneTick 78 = .ok (.checkcast 78, 3) := by decide +kernel
theorem dX4_passOneTick_81 : decode cX4_passOneTick 81 = .ok (.invokevirtual 357, 3) := by decide +kernel
theorem dX4_passOneTick_84 : decode cX4_passOneTick 84 = .ok (.iinc 1 1, 3) := by decide +kernel
theorem dX4_passOneTick_87 : decode cX4_passOneTick 87 = .ok (.goto (-29), 3) := by decide +kernel
theorem dX4_passOneTick_90 : decode cX4_passOneTick 90 = .ok (.aload_n 0, 1) := by decide +kernel
theorem dX4_passOneTick_91 : decode cX4_passOneTick 91 = .ok (.dup, 1) := by decide +kernel
theorem dX4_passOneTick_92 : decode cX4_passOneTick 92 = .ok (.getfield 52, 3) := by decide +kernel
theorem dX4_passOneTick_95 : decode cX4_passOneTick 95 = .ok (.aload_n 0, 1) := by decide +kernel
theorem dX4_passOneTick_96 : decode cX4_passOneTick 96 = .ok (.getfield 12, 3) := by decide +kernel
theorem dX4_passOneTick_99 : decode cX4_passOneTick 99 = .ok (.invokevirtual 69, 3) := by decide +kernel
theorem dX4_passOneTick_102 : decode cX4_passOneTick 102 = .ok (.iadd, 1) := by decide +kernel
theorem dX4_passOneTick_103 : decode cX4_passOneTick 103 = .ok (.putfield 52, 3) := by decide +kernel
theorem dX4_passOneTick_106 : decode cX4_passOneTick 106 = .ok (.aload_n 0, 1) := by decide +kernel
theorem dX4_passOneTick_107 : decode cX4_passOneTick 107 = .ok (.dup, 1) := by decide +kernel
theorem dX4_passOneTick_108 : decode cX4_passOneTick 108 = .ok (.getfield 43, 3) := by decide +kernel
theorem dX4_passOneTick_111 : decode cX4_passOneTick 111 = .ok (.iconst 1, 1) := by decide +kernel
theorem dX4_passOneTick_112 : decode cX4_passOneTick 112 = .ok (.iadd, 1) := by decide +kernel
theorem dX4_passOneTick_113 : decode cX4_passOneTick 113 = .ok (.putfield 43, 3) := by decide +kernel
theorem dX4_passOneTick_116 : decode cX4_passOneTick 116 = .ok (.return_, 1) := by decide +kernel
theorem dX4_releaseTimedTasks_0 : decode cX4_releaseTimedTasks 0 = .ok (.iconst 0, 1) := by decide +kernel
theorem dX4_releaseTimedTasks_1 : decode cX4_releaseTimedTasks 1 = .ok (.istore_n 1, 1) := by decide +kernel
theorem dX4_releaseTimedTasks_2 : decode cX4_releaseTimedTasks 2 = .ok (.iload_n 1, 1) := by decide +kernel
theorem dX4_releaseTimedTasks_3 : decode cX4_releaseTimedTasks 3 = .ok (.aload_n 0, 1) := by decide +kernel
theorem dX4_releaseTimedTasks_4 : decode cX4_releaseTimedTasks 4 = .ok (.getfield 21, 3) := by decide +kernel
theorem dX4_releaseTimedTasks_7 : decode cX4_releaseTimedTasks 7 = .ok (.invokevirtual 69, 3) := by decide +kernel
theorem dX4_releaseTimedTasks_10 : decode cX4_releaseTimedTasks 10 = .ok (.if_icmp .ge 84, 3) := by decide +kernel
theorem dX4_releaseTimedTasks_13 : decode cX4_releaseTimedTasks 13 = .ok (.aload_n 0, 1) := by decide +kernel
theorem dX4_releaseTimedTasks_14 : decode cX4_releaseTimedTasks 14 = .ok (.getfield 21, 3) := by decide +kernel
theorem dX4_releaseTimedTasks_17 : decode cX4_releaseTimedTasks 17 = .ok (.iload_n 1, 1) := by decide +kernel
theorem dX4_releaseTimedTasks_18 : decode cX4_releaseTimedTasks 18 = .ok (.invokevirtual 171, 3) := by decide +kernel
theorem dX4_releaseTimedTasks_21 : decode cX4_releaseTimedTasks 21 = .ok (.checkcast 121, 3) := by decide +kernel
theorem dX4_releaseTimedTasks_24 : decode cX4_releaseTimedTasks 24 = .ok (.astore_n 2, 1) := by decide +kernel
theorem dX4_releaseTimedTasks_25 : decode cX4_releaseTimedTasks 25 = .ok (.aload_n 2, 1) := by decide +kernel
theorem dX4_releaseTimedTasks_26 : decode cX4_releaseTimedTasks 26 = .ok (.invokevirtual 211, 3) := by decide +kernel
theorem dX4_releaseTimedTasks_29 : decode cX4_releaseTimedTasks 29 = .ok (.ifCond .eq 59, 3) := by decide +kernel
theorem dX4_releaseTimedTasks_32 : decode cX4_releaseTimedTasks 32 = .ok (.aload_n 2, 1) := by decide +kernel
theorem dX4_releaseTimedTasks_33 : decode cX4_releaseTimedTasks 33 = .ok (.getfield 158, 3) := by decide +kernel
theorem dX4_releaseTimedTasks_36 : decode cX4_releaseTimedTasks 36 = .ok (.ifCond .ne 52, 3) := by decide +kernel
theorem dX4_releaseTimedTasks_39 : decode cX4_releaseTimedTasks 39 = .ok (.aload_n 2, 1) := by decide +kernel
theorem dX4_releaseTimedTasks_40 : decode cX4_releaseTimedTasks 40 = .ok (.getfield 146, 3) := by decide +kernel
theorem dX4_releaseTimedTasks_43 : decode cX4_releaseTimedTasks 43 = .ok (.aload_n 0, 1) := by decide +kernel
theorem dX4_releaseTimedTasks_44 : decode cX4_releaseTimedTasks 44 = .ok (.getfield 43, 3) := by decide +kernel
theorem dX4_releaseTimedTasks_47 : decode cX4_releaseTimedTasks 47 = .ok (.if_icmp .ne 41, 3) := by decide +kernel
theorem dX4_releaseTimedTasks_50 : decode cX4_releaseTimedTasks 50 = .ok (.aload_n 2, 1) := by decide +kernel
theorem dX4_releaseTimedTasks_51 : decode cX4_releaseTimedTasks 51 = .ok (.getfield 164, 3) := by decide +kernel
theorem dX4_releaseTimedTasks_54 : decode cX4_releaseTimedTasks 54 = .ok (.ifCond .le 13, 3) := by decide +kernel
theorem dX4_releaseTimedTasks_57 : decode cX4_releaseTimedTasks 57 = .ok (.aload_n 2, 1) := by decide +kernel
theorem dX4_releaseTimedTasks_58 : decode cX4_releaseTimedTasks 58 = .ok (.dup, 1) := by decide +kernel
theorem dX4_releaseTimedTasks_59 : decode cX4_releaseTimedTasks 59 = .ok (.getfield 225, 3) := by decide +kernel
theorem dX4_releaseTimedTasks_62 : decode cX4_releaseTimedTasks 62 = .ok (.iconst 1, 1) := by decide +kernel
theorem dX4_releaseTimedTasks_63 : decode cX4_releaseTimedTasks 63 = .ok (.iadd, 1) := by decide +kernel
theorem dX4_releaseTimedTasks_64 : decode cX4_releaseTimedTasks 64 = .ok (.putfield 225, 3) := by decide +kernel
theorem dX4_releaseTimedTasks_67 : decode cX4_releaseTimedTasks 67 = .ok (.aload_n 2, 1) := by decide +kernel
theorem dX4_releaseTimedTasks_68 : decode cX4_releaseTimedTasks 68 = .ok (.aload_n 2, 1) := by decide +kernel
theorem dX4_releaseTimedTasks_69 : decode cX4_releaseTimedTasks 69 = .ok (.getfield 140, 3) := by decide +kernel
theorem dX4_releaseTimedTasks_72 : decode cX4_releaseTimedTasks 72 = .ok (.putfield 164, 3) := by decide +kernel
theorem dX4_releaseTimedTasks_75 : decode cX4_releaseTimedTasks 75 = .ok (.aload_n 2, 1) := by decide +kernel
theorem dX4_releaseTimedTasks_76 : decode cX4_releaseTimedTasks 76 = .ok (.aload_n 0, 1) := by decide +kernel
theorem dX4_releaseTimedTasks_77 : decode cX4_releaseTimedTasks 77 = .ok (.getfield 43, 3) := by decide +kernel
theorem dX4_releaseTimedTasks_80 : decode cX4_releaseTimedTasks 80 = .ok (.aload_n 2, 1) := by decide +kernel
theorem dX4_releaseTimedTasks_81 : decode cX4_releaseTimedTasks 81 = .ok (.getfield 137, 3) := by decide +kernel
theorem dX4_releaseTimedTasks_84 : decode cX4_releaseTimedTasks 84 = .ok (.iadd, 1) := by decide +kernel
theorem dX4_releaseTimedTasks_85 : decode cX4_releaseTimedTasks 85 = .ok (.putfield 146, 3) := by decide +kernel
theorem dX4_releaseTimedTasks_88 : decode cX4_releaseTimedTasks 88 = .ok (.iinc 1 1, 3) := by decide +kernel
theorem dX4_releaseTimedTasks_91 : decode cX4_releaseTimedTasks 91 = .ok (.goto (-89), 3) := by decide +kernel
theorem dX4_releaseTimedTasks_94 : decode cX4_releaseTimedTasks 94 = .ok (.return_, 1) := by decide +kernel
theorem dX4_work_0 : decode cX4_work 0 = .ok (.aload_n 1, 1) := by decide +kernel
theorem dX4_work_1 : decode cX4_work 1 = .ok (.aload_n 0, 1) := by decide +kernel
theorem dX4_work_2 : decode cX4_work 2 = .ok (.getfield 36, 3) := by decide +kernel
theorem dX4_work_5 : decode cX4_work 5 = .ok (.invokevirtual 99, 3) := by decide +kernel
theorem dX4_work_8 : decode cX4_work 8 = .ok (.istore_n 3, 1) := by decide +kernel
theorem dX4_work_9 : decode cX4_work 9 = .ok (.aload_n 2, 1) := by decide +kernel
theorem dX4_work_10 : decode cX4_work 10 = .ok (.getfield 361, 3) := by decide +kernel
theorem dX4_work_13 : decode cX4_work 13 = .ok (.ifnull 24, 3) := by decide +kernel
theorem dX4_work_16 : decode cX4_work 16 = .ok (.aload_n 2, 1) := by decide +kernel
theorem dX4_work_17 : decode cX4_work 17 = .ok (.getfield 361, 3) := by decide +kernel
theorem dX4_work_20 : decode cX4_work 20 = .ok (.aload_n 1, 1) := by decide +kernel
theorem dX4_work_21 : decode cX4_work 21 = .ok (.if_acmp .eq 16, 3) := by decide +kernel
theorem dX4_work_24 : decode cX4_work 24 = .ok (.iinc 3 (-1), 3) := by decide +kernel
theorem dX4_work_27 : decode cX4_work 27 = .ok (.aload_n 0, 1) := by decide +kernel
theorem dX4_work_28 : decode cX4_work 28 = .ok (.dup, 1) := by decide +kernel
theorem dX4_work_29 : decode cX4_work 29 = .ok (.getfield 46, 3) := by decide +kernel
theorem dX4_work_32 : decode cX4_work 32 = .ok (.iconst 1, 1) := by decide +kernel
theorem dX4_work_33 : decode cX4_work 33 = .ok (.iadd, 1) := by decide +kernel
theorem dX4_work_34 : decode cX4_work 34 = .ok (.putfield 46, 3) := by decide +kernel
theorem dX4_work_37 : decode cX4_work 37 = .ok (.aload_n 2, 1) := by decide +kernel
theorem dX4_work_38 : decode cX4_work 38 = .ok (.aload_n 1, 1) := by decide +kernel
theorem dX4_work_39 : decode cX4_work 39 = .ok (.putfield 361, 3) := by decide +kernel
theorem dX4_work_42 : decode cX4_work 42 = .ok (.aload_n 0, 1) := by decide +kernel
theorem dX4_work_43 : decode cX4_work 43 = .ok (.dup, 1) := by decide +kernel
theorem dX4_work_44 : decode cX4_work 44 = .ok (.getfield 49, 3) := by decide +kernel
theorem dX4_work_47 : decode cX4_work 47 = .ok (.iconst 1, 1) := by decide +kernel
theorem dX4_work_48 : decode cX4_work 48 = .ok (.iadd, 1) := by decide +kernel
theorem dX4_work_49 : decode cX4_work 49 = .ok (.putfield 49, 3) := by decide +kernel
theorem dX4_work_52 : decode cX4_work 52 = .ok (.iload_n 3, 1) := by decide +kernel
theorem dX4_work_53 : decode cX4_work 53 = .ok (.aload_n 2, 1) := by decide +kernel
theorem dX4_work_54 : decode cX4_work 54 = .ok (.getfield 164, 3) := by decide +kernel
theorem dX4_work_57 : decode cX4_work 57 = .ok (.invokestatic 205, 3) := by decide +kernel
theorem dX4_work_60 : decode cX4_work 60 = .ok (.istore_n 3, 1) := by decide +kernel
theorem dX4_work_61 : decode cX4_work 61 = .ok (.aload_n 2, 1) := by decide +kernel
theorem dX4_work_62 : decode cX4_work 62 = .ok (.dup, 1) := by decide +kernel
theorem dX4_work_63 : decode cX4_work 63 = .ok (.getfield 164, 3) := by decide +kernel
theorem dX4_work_66 : decode cX4_work 66 = .ok (.iload_n 3, 1) := by decide +kernel
theorem dX4_work_67 : decode cX4_work 67 = .ok (.isub, 1) := by decide +kernel
theorem dX4_work_68 : decode cX4_work 68 = .ok (.putfield 164, 3) := by decide +kernel
theorem dX4_work_71 : decode cX4_work 71 = .ok (.aload_n 2, 1) := by decide +kernel
theorem dX4_work_72 : decode cX4_work 72 = .ok (.dup, 1) := by decide +kernel
theorem dX4_work_73 : decode cX4_work 73 = .ok (.getfield 198, 3) := by decide +kernel
theorem dX4_work_76 : decode cX4_work 76 = .ok (.iload_n 3, 1) := by decide +kernel
theorem dX4_work_77 : decode cX4_work 77 = .ok (.iadd, 1) := by decide +kernel
theorem dX4_work_78 : decode cX4_work 78 = .ok (.putfield 198, 3) := by decide +kernel
theorem dX4_work_81 : decode cX4_work 81 = .ok (.aload_n 2, 1) := by decide +kernel
theorem dX4_work_82 : decode cX4_work 82 = .ok (.dup, 1) := by decide +kernel
theorem dX4_work_83 : decode cX4_work 83 = .ok (.getfield 191, 3) := by decide +kernel
theorem dX4_work_86 : decode cX4_work 86 = .ok (.iload_n 3, 1) := by decide +kernel
theorem dX4_work_87 : decode cX4_work 87 = .ok (.i2l, 1) := by decide +kernel
theorem dX4_work_88 : decode cX4_work 88 = .ok (.aload_n 2, 1) := by decide +kernel
theorem dX4_work_89 : decode cX4_work 89 = .ok (.getfield 365, 3) := by decide +kernel
theorem dX4_work_92 : decode cX4_work 92 = .ok (.i2l, 1) := by decide +kernel
theorem dX4_work_93 : decode cX4_work 93 = .ok (.lmul, 1) := by decide +kernel
theorem dX4_work_94 : decode cX4_work 94 = .ok (.ladd, 1) := by decide +kernel
theorem dX4_work_95 : decode cX4_work 95 = .ok (.putfield 191, 3) := by decide +kernel
theorem dX4_work_98 : decode cX4_work 98 = .ok (.aload_n 2, 1) := by decide +kernel
theorem dX4_work_99 : decode cX4_work 99 = .ok (.getfield 296, 3) := by decide +kernel
theorem dX4_work_102 : decode cX4_work 102 = .ok (.astore 4, 2) := by decide +kernel
theorem dX4_work_104 : decode cX4_work 104 = .ok (.aload 4, 2) := by decide +kernel
theorem dX4_work_106 : decode cX4_work 106 = .ok (.ifnull 43, 3) := by decide +kernel
theorem dX4_work_109 : decode cX4_work 109 = .ok (.aload 4, 2) := by decide +kernel
theorem dX4_work_111 : decode cX4_work 111 = .ok (.dup, 1) := by decide +kernel
theorem dX4_work_112 : decode cX4_work 112 = .ok (.getfield 201, 3) := by decide +kernel
theorem dX4_work_115 : decode cX4_work 115 = .ok (.iload_n 3, 1) := by decide +kernel
theorem dX4_work_116 : decode cX4_work 116 = .ok (.iadd, 1) := by decide +kernel
theorem dX4_work_117 : decode cX4_work 117 = .ok (.putfield 201, 3) := by decide +kernel
theorem dX4_work_120 : decode cX4_work 120 = .ok (.aload 4, 2) := by decide +kernel
theorem dX4_work_122 : decode cX4_work 122 = .ok (.dup, 1) := by decide +kernel
theorem dX4_work_123 : decode cX4_work 123 = .ok (.getfield 197, 3) := by decide +kernel
theorem dX4_work_126 : decode cX4_work 126 = .ok (.iload_n 3, 1) := by decide +kernel
theorem dX4_work_127 : decode cX4_work 127 = .ok (.i2l, 1) := by decide +kernel
theorem dX4_work_128 : decode cX4_work 128 = .ok (.aload 4, 2) := by decide +kernel
theorem dX4_work_130 : decode cX4_work 130 = .ok (.getfield 368, 3) := by decide +kernel
theorem dX4_work_133 : decode cX4_work 133 = .ok (.i2l, 1) := by decide +kernel
theorem dX4_work_134 : decode cX4_work 134 = .ok (.lmul, 1) := by decide +kernel
theorem dX4_work_135 : decode cX4_work 135 = .ok (.ladd, 1) := by decide +kernel
theorem dX4_work_136 : decode cX4_work 136 = .ok (.putfield 197, 3) := by decide +kernel
theorem dX4_work_139 : decode cX4_work 139 = .ok (.aload 4, 2) := by decide +kernel
theorem dX4_work_141 : decode cX4_work 141 = .ok (.getfield 290, 3) := by decide +kernel
theorem dX4_work_144 : decode cX4_work 144 = .ok (.astore 4, 2) := by decide +kernel
theorem dX4_work_146 : decode cX4_work 146 = .ok (.goto (-42), 3) := by decide +kernel
theorem dX4_work_149 : decode cX4_work 149 = .ok (.return_, 1) := by decide +kernel
theorem dX4_changeHeat_0 : decode cX4_changeHeat 0 = .ok (.aload_n 1, 1) := by decide +kernel
theorem dX4_changeHeat_1 : decode cX4_changeHeat 1 = .ok (.getfield 257, 3) := by decide +kernel
theorem dX4_changeHeat_4 : decode cX4_changeHeat 4 = .ok (.ifnull 23, 3) := by decide +kernel
theorem dX4_changeHeat_7 : decode cX4_changeHeat 7 = .ok (.aload_n 1, 1) := by decide +kernel
theorem dX4_changeHeat_8 : decode cX4_changeHeat 8 = .ok (.dup, 1) := by decide +kernel
theorem dX4_changeHeat_9 : decode cX4_changeHeat 9 = .ok (.getfield 96, 3) := by decide +kernel
theorem dX4_changeHeat_12 : decode cX4_changeHeat 12 = .ok (.aload_n 1, 1) := by decide +kernel
theorem dX4_changeHeat_13 : decode cX4_changeHeat 13 = .ok (.aload_n 0, 1) := by decide +kernel
theorem dX4_changeHeat_14 : decode cX4_changeHeat 14 = .ok (.getfield 36, 3) := by decide +kernel
theorem dX4_changeHeat_17 : decode cX4_changeHeat 17 = .ok (.invokevirtual 99, 3) := by decide +kernel
theorem dX4_changeHeat_20 : decode cX4_changeHeat 20 = .ok (.iadd, 1) := by decide +kernel
theorem dX4_changeHeat_21 : decode cX4_changeHeat 21 = .ok (.putfield 96, 3) := by decide +kernel
theorem dX4_changeHeat_24 : decode cX4_changeHeat 24 = .ok (.goto 17, 3) := by decide +kernel
theorem dX4_changeHeat_27 : decode cX4_changeHeat 27 = .ok (.aload_n 1, 1) := by decide +kernel
theorem dX4_changeHeat_28 : decode cX4_changeHeat 28 = .ok (.aload_n 1, 1) := by decide +kernel
theorem dX4_changeHeat_29 : decode cX4_changeHeat 29 = .ok (.getfield 96, 3) := by decide +kernel
theorem dX4_changeHeat_32 : decode cX4_changeHeat 32 = .ok (.iconst 3, 1) := by decide +kernel
theorem dX4_changeHeat_33 : decode cX4_changeHeat 33 = .ok (.isub, 1) := by decide +kernel
theorem dX4_changeHeat_34 : decode cX4_changeHeat 34 = .ok (.iconst 0, 1) := by decide +kernel
theorem dX4_changeHeat_35 : decode cX4_changeHeat 35 = .ok (.invokestatic 369, 3) := by decide +kernel
theorem dX4_changeHeat_38 : decode cX4_changeHeat 38 = .ok (.putfield 96, 3) := by decide +kernel
theorem dX4_changeHeat_41 : decode cX4_changeHeat 41 = .ok (.return_, 1) := by decide +kernel
theorem dX4_bothWaysChooseAlike_0 : decode cX4_bothWaysChooseAlike 0 = .ok (.iconst 0, 1) := by decide +kernel
theorem dX4_bothWaysChooseAlike_1 : decode cX4_bothWaysChooseAlike 1 = .ok (.istore_n 1, 1) := by decide +kernel
theorem dX4_bothWaysChooseAlike_2 : decode cX4_bothWaysChooseAlike 2 = .ok (.iload_n 1, 1) := by decide +kernel
theorem dX4_bothWaysChooseAlike_3 : decode cX4_bothWaysChooseAlike 3 = .ok (.aload_n 0, 1) := by decide +kernel
theorem dX4_bothWaysChooseAlike_4 : decode cX4_bothWaysChooseAlike 4 = .ok (.getfield 12, 3) := by decide +kernel
theorem dX4_bothWaysChooseAlike_7 : decode cX4_bothWaysChooseAlike 7 = .ok (.invokevirtual 69, 3) := by decide +kernel
theorem dX4_bothWaysChooseAlike_10 : decode cX4_bothWaysChooseAlike 10 = .ok (.if_icmp .ge 24, 3) := by decide +kernel
theorem dX4_bothWaysChooseAlike_13 : decode cX4_bothWaysChooseAlike 13 = .ok (.aload_n 0, 1) := by decide +kernel
theorem dX4_bothWaysChooseAlike_14 : decode cX4_bothWaysChooseAlike 14 = .ok (.iload_n 1, 1) := by decide +kernel
theorem dX4_bothWaysChooseAlike_15 : decode cX4_bothWaysChooseAlike 15 = .ok (.invokevirtual 372, 3) := by decide +kernel
theorem dX4_bothWaysChooseAlike_18 : decode cX4_bothWaysChooseAlike 18 = .ok (.aload_n 0, 1) := by decide +kernel
theorem dX4_bothWaysChooseAlike_19 : decode cX4_bothWaysChooseAlike 19 = .ok (.iload_n 1, 1) := by decide +kernel
theorem dX4_bothWaysChooseAlike_20 : decode cX4_bothWaysChooseAlike 20 = .ok (.invokevirtual 375, 3) := by decide +kernel
theorem dX4_bothWaysChooseAlike_23 : decode cX4_bothWaysChooseAlike 23 = .ok (.if_icmp .eq 5, 3) := by decide +kernel
theorem dX4_bothWaysChooseAlike_26 : decode cX4_bothWaysChooseAlike 26 = .ok (.iconst 0, 1) := by decide +kernel
theorem dX4_bothWaysChooseAlike_27 : decode cX4_bothWaysChooseAlike 27 = .ok (.ireturn, 1) := by decide +kernel
theorem dX4_bothWaysChooseAlike_28 : decode cX4_bothWaysChooseAlike 28 = .ok (.iinc 1 1, 3) := by decide +kernel
theorem dX4_bothWaysChooseAlike_31 : decode cX4_bothWaysChooseAlike 31 = .ok (.goto (-29), 3) := by decide +kernel
theorem dX4_bothWaysChooseAlike_34 : decode cX4_bothWaysChooseAlike 34 = .ok (.iconst 1, 1) := by decide +kernel
theorem dX4_bothWaysChooseAlike_35 : decode cX4_bothWaysChooseAlike 35 = .ok (.ireturn, 1) := by decide +kernel
theorem dX4_doneAddsUp_0 : decode cX4_doneAddsUp 0 = .ok (.iconst 0, 1) := by decide +kernel
theorem dX4_doneAddsUp_1 : decode cX4_doneAddsUp 1 = .ok (.istore_n 1, 1) := by decide +kernel
theorem dX4_doneAddsUp_2 : decode cX4_doneAddsUp 2 = .ok (.iconst 0, 1) := by decide +kernel
theorem dX4_doneAddsUp_3 : decode cX4_doneAddsUp 3 = .ok (.istore_n 2, 1) := by decide +kernel
theorem dX4_doneAddsUp_4 : decode cX4_doneAddsUp 4 = .ok (.iload_n 2, 1) := by decide +kernel
theorem dX4_doneAddsUp_5 : decode cX4_doneAddsUp 5 = .ok (.aload_n 0, 1) := by decide +kernel
theorem dX4_doneAddsUp_6 : decode cX4_doneAddsUp 6 = .ok (.getfield 21, 3) := by decide +kernel
theorem dX4_doneAddsUp_9 : decode cX4_doneAddsUp 9 = .ok (.invokevirtual 69, 3) := by decide +kernel
theorem dX4_doneAddsUp_12 : decode cX4_doneAddsUp 12 = .ok (.if_icmp .ge 26, 3) := by decide +kernel
theorem dX4_doneAddsUp_15 : decode cX4_doneAddsUp 15 = .ok (.iload_n 1, 1) := by decide +kernel
theorem dX4_doneAddsUp_16 : decode cX4_doneAddsUp 16 = .ok (.aload_n 0, 1) := by decide +kernel
theorem dX4_doneAddsUp_17 : decode cX4_doneAddsUp 17 = .ok (.getfield 21, 3) := by decide +kernel
theorem dX4_doneAddsUp_20 : decode cX4_doneAddsUp 20 = .ok (.iload_n 2, 1) := by decide +kernel
theorem dX4_doneAddsUp_21 : decode cX4_doneAddsUp 21 = .ok (.invokevirtual 171, 3) := by decide +kernel
theorem dX4_doneAddsUp_24 : decode cX4_doneAddsUp 24 = .ok (.checkcast 121, 3) := by decide +kernel
theorem dX4_doneAddsUp_27 : decode cX4_doneAddsUp 27 = .ok (.getfield 198, 3) := by decide +kernel
theorem dX4_doneAddsUp_30 : decode cX4_doneAddsUp 30 = .ok (.iadd, 1) := by decide +kernel
theorem dX4_doneAddsUp_31 : decode cX4_doneAddsUp 31 = .ok (.istore_n 1, 1) := by decide +kernel
theorem dX4_doneAddsUp_32 : decode cX4_doneAddsUp 32 = .ok (.iinc 2 1, 3) := by decide +kernel
theorem dX4_doneAddsUp_35 : decode cX4_doneAddsUp 35 = .ok (.goto (-31), 3) := by decide +kernel
theorem dX4_doneAddsUp_38 : decode cX4_doneAddsUp 38 = .ok (.iload_n 1, 1) := by decide +kernel
theorem dX4_doneAddsUp_39 : decode cX4_doneAddsUp 39 = .ok (.aload_n 0, 1) := by decide +kernel
theorem dX4_doneAddsUp_40 : decode cX4_doneAddsUp 40 = .ok (.getfield 32, 3) := by decide +kernel
theorem dX4_doneAddsUp_43 : decode cX4_doneAddsUp 43 = .ok (.getfield 201, 3) := by decide +kernel
theorem dX4_doneAddsUp_46 : decode cX4_doneAddsUp 46 = .ok (.if_icmp .ne 7, 3) := by decide +kernel
theorem dX4_doneAddsUp_49 : decode cX4_doneAddsUp 49 = .ok (.iconst 1, 1) := by decide +kernel
theorem dX4_doneAddsUp_50 : decode cX4_doneAddsUp 50 = .ok (.goto 4, 3) := by decide +kernel
theorem dX4_doneAddsUp_53 : decode cX4_doneAddsUp 53 = .ok (.iconst 0, 1) := by decide +kernel
theorem dX4_doneAddsUp_54 : decode cX4_doneAddsUp 54 = .ok (.ireturn, 1) := by decide +kernel
theorem dX4_noneWaitsForItself_0 : decode cX4_noneWaitsForItself 0 = .ok (.iconst 0, 1) := by decide +kernel
theorem dX4_noneWaitsForItself_1 : decode cX4_noneWaitsForItself 1 = .ok (.istore_n 1, 1) := by decide +kernel
theorem dX4_noneWaitsForItself_2 : decode cX4_noneWaitsForItself 2 = .ok (.iload_n 1, 1) := by decide +kernel
theorem dX4_noneWaitsForItself_3 : decode cX4_noneWaitsForItself 3 = .ok (.aload_n 0, 1) := by decide +kernel
theorem dX4_noneWaitsForItself_4 : decode cX4_noneWaitsForItself 4 = .ok (.getfield 21, 3) := by decide +kernel
theorem dX4_noneWaitsForItself_7 : decode cX4_noneWaitsForItself 7 = .ok (.invokevirtual 69, 3) := by decide +kernel
theorem dX4_noneWaitsForItself_10 : decode cX4_noneWaitsForItself 10 = .ok (.if_icmp .ge 41, 3) := by decide +kernel
theorem dX4_noneWaitsForItself_13 : decode cX4_noneWaitsForItself 13 = .ok (.aload_n 0, 1) := by decide +kernel
theorem dX4_noneWaitsForItself_14 : decode cX4_noneWaitsForItself 14 = .ok (.getfield 21, 3) := by decide +kernel
theorem dX4_noneWaitsForItself_17 : decode cX4_noneWaitsForItself 17 = .ok (.iload_n 1, 1) := by decide +kernel
theorem dX4_noneWaitsForItself_18 : decode cX4_noneWaitsForItself 18 = .ok (.invokevirtual 171, 3) := by decide +kernel
theorem dX4_noneWaitsForItself_21 : decode cX4_noneWaitsForItself 21 = .ok (.checkcast 121, 3) := by decide +kernel
theorem dX4_noneWaitsForItself_24 : decode cX4_noneWaitsForItself 24 = .ok (.astore_n 2, 1) := by decide +kernel
theorem dX4_noneWaitsForItself_25 : decode cX4_noneWaitsForItself 25 = .ok (.aload_n 2, 1) := by decide +kernel
theorem dX4_noneWaitsForItself_26 : decode cX4_noneWaitsForItself 26 = .ok (.getfield 183, 3) := by decide +kernel
theorem dX4_noneWaitsForItself_29 : decode cX4_noneWaitsForItself 29 = .ok (.ifnull 16, 3) := by decide +kernel
theorem dX4_noneWaitsForItself_32 : decode cX4_noneWaitsForItself 32 = .ok (.aload_n 2, 1) := by decide +kernel
theorem dX4_noneWaitsForItself_33 : decode cX4_noneWaitsForItself 33 = .ok (.getfield 183, 3) := by decide +kernel
theorem dX4_noneWaitsForItself_36 : decode cX4_noneWaitsForItself 36 = .ok (.getfield 175, 3) := by decide +kernel
theorem dX4_noneWaitsForItself_39 : decode cX4_noneWaitsForItself 39 = .ok (.aload_n 2, 1) := by decide +kernel
theorem dX4_noneWaitsForItself_40 : decode cX4_noneWaitsForItself 40 = .ok (.if_acmp .ne 5, 3) := by decide +kernel
theorem dX4_noneWaitsForItself_43 : decode cX4_noneWaitsForItself 43 = .ok (.iconst 0, 1) := by decide +kernel
theorem dX4_noneWaitsForItself_44 : decode cX4_noneWaitsForItself 44 = .ok (.ireturn, 1) := by decide +kernel
theorem dX4_noneWaitsForItself_45 : decode cX4_noneWaitsForItself 45 = .ok (.iinc 1 1, 3) := by decide +kernel
theorem dX4_noneWaitsForItself_48 : decode cX4_noneWaitsForItself 48 = .ok (.goto (-46), 3) := by decide +kernel
theorem dX4_noneWaitsForItself_51 : decode cX4_noneWaitsForItself 51 = .ok (.iconst 1, 1) := by decide +kernel
theorem dX4_noneWaitsForItself_52 : decode cX4_noneWaitsForItself 52 = .ok (.ireturn, 1) := by decide +kernel
theorem dX5_init_0 : decode cX5_init 0 = .ok (.aload_n 0, 1) := by decide +kernel
theorem dX5_init_1 : decode cX5_init 1 = .ok (.invokespecial 1, 3) := by decide +kernel
theorem dX5_init_4 : decode cX5_init 4 = .ok (.aload_n 0, 1) := by decide +kernel
theorem dX5_init_5 : decode cX5_init 5 = .ok (.iconst 3, 1) := by decide +kernel
theorem dX5_init_6 : decode cX5_init 6 = .ok (.newarray .int, 2) := by decide +kernel
theorem dX5_init_8 : decode cX5_init 8 = .ok (.putfield 7, 3) := by decide +kernel
theorem dX5_init_11 : decode cX5_init 11 = .ok (.aload_n 0, 1) := by decide +kernel
theorem dX5_init_12 : decode cX5_init 12 = .ok (.iconst 3, 1) := by decide +kernel
theorem dX5_init_13 : decode cX5_init 13 = .ok (.newarray .int, 2) := by decide +kernel
theorem dX5_init_15 : decode cX5_init 15 = .ok (.putfield 13, 3) := by decide +kernel
theorem dX5_init_18 : decode cX5_init 18 = .ok (.aload_n 0, 1) := by decide +kernel
theorem dX5_init_19 : decode cX5_init 19 = .ok (.bipush 50, 2) := by decide +kernel
theorem dX5_init_21 : decode cX5_init 21 = .ok (.putfield 16, 3) := by decide +kernel
theorem dX5_init_24 : decode cX5_init 24 = .ok (.aload_n 0, 1) := by decide +kernel
theorem dX5_init_25 : decode cX5_init 25 = .ok (.bipush 12, 2) := by decide +kernel
theorem dX5_init_27 : decode cX5_init 27 = .ok (.putfield 20, 3) := by decide +kernel
theorem dX5_init_30 : decode cX5_init 30 = .ok (.aload_n 0, 1) := by decide +kernel
theorem dX5_init_31 : decode cX5_init 31 = .ok (.bipush 6, 2) := by decide +kernel
theorem dX5_init_33 : decode cX5_init 33 = .ok (.newarray .int, 2) := by decide +kernel
theorem dX5_init_35 : decode cX5_init 35 = .ok (.putfield 23, 3) := by decide +kernel
theorem dX5_init_38 : decode cX5_init 38 = .ok (.aload_n 0, 1) := by decide +kernel
theorem dX5_init_39 : decode cX5_init 39 = .ok (.bipush 6, 2) := by decide +kernel
theorem dX5_init_41 : decode cX5_init 41 = .ok (.newarray .int, 2) := by decide +kernel
theorem dX5_init_43 : decode cX5_init 43 = .ok (.putfield 26, 3) := by decide +kernel
theorem dX5_init_46 : decode cX5_init 46 = .ok (.aload_n 0, 1) := by decide +kernel
theorem dX5_init_47 : decode cX5_init 47 = .ok (.bipush 6, 2) := by decide +kernel
theorem dX5_init_49 : decode cX5_init 49 = .ok (.newarray .long, 2) := by decide +kernel
theorem dX5_init_51 : decode cX5_init 51 = .ok (.putfield 29, 3) := by decide +kernel
theorem dX5_init_54 : decode cX5_init 54 = .ok (.aload_n 0, 1) := by decide +kernel
theorem dX5_init_55 : decode cX5_init 55 = .ok (.iconst 1, 1) := by decide +kernel
theorem dX5_init_56 : decode cX5_init 56 = .ok (.putfield 33, 3) := by decide +kernel
theorem dX5_init_59 : decode cX5_init 59 = .ok (.aload_n 0, 1) := by decide +kernel
theorem dX5_init_60 : decode cX5_init 60 = .ok (.bipush 12, 2) := by decide +kernel
theorem dX5_init_62 : decode cX5_init 62 = .ok (.newarray .int, 2) := by decide +kernel
theorem dX5_init_64 : decode cX5_init 64 = .ok (.putfield 36, 3) := by decide +kernel
theorem dX5_init_67 : decode cX5_init 67 = .ok (.aload_n 0, 1) := by decide +kernel
theorem dX5_init_68 : decode cX5_init 68 = .ok (.bipush 12, 2) := by decide +kernel
theorem dX5_init_70 : decode cX5_init 70 = .ok (.newarray .int, 2) := by decide +kernel
theorem dX5_init_72 : decode cX5_init 72 = .ok (.putfield 39, 3) := by decide +kernel
theorem dX5_init_75 : decode cX5_init 75 = .ok (.aload_n 0, 1) := by decide +kernel
theorem dX5_init_76 : decode cX5_init 76 = .ok (.bipush 12, 2) := by decide +kernel
theorem dX5_init_78 : decode cX5_init 78 = .ok (.newarray .long, 2) := by decide +kernel
theorem dX5_init_80 : decode cX5_init 80 = .ok (.putfield 42, 3) := by decide +kernel
theorem dX5_init_83 : decode cX5_init 83 = .ok (.aload_n 0, 1) := by decide +kernel
theorem dX5_init_84 : decode cX5_init 84 = .ok (.bipush 12, 2) := by decide +kernel
theorem dX5_init_86 : decode cX5_init 86 = .ok (.newarray .int, 2) := by decide +kernel
theorem dX5_init_88 : decode cX5_init 88 = .ok (.putfield 45, 3) := by decide +kernel
theorem dX5_init_91 : decode cX5_init 91 = .ok (.aload_n 0, 1) := by decide +kernel
theorem dX5_init_92 : decode cX5_init 92 = .ok (.bipush 12, 2) := by decide +kernel
theorem dX5_init_94 : decode cX5_init 94 = .ok (.newarray .int, 2) := by decide +kernel
theorem dX5_init_96 : decode cX5_init 96 = .ok (.putfield 48, 3) := by decide +kernel
theorem dX5_init_99 : decode cX5_init 99 = .ok (.aload_n 0, 1) := by decide +kernel
theorem dX5_init_100 : decode cX5_init 100 = .ok (.bipush 12, 2) := by decide +kernel
theorem dX5_init_102 : decode cX5_init 102 = .ok (.newarray .int, 2) := by decide +kernel
theorem dX5_init_104 : decode cX5_init 104 = .ok (.putfield 51, 3) := by decide +kernel
theorem dX5_init_107 : decode cX5_init 107 = .ok (.aload_n 0, 1) := by decide +kernel
theorem dX5_init_108 : decode cX5_init 108 = .ok (.bipush 12, 2) := by decide +kernel
theorem dX5_init_110 : decode cX5_init 110 = .ok (.newarray .int, 2) := by decide +kernel
theorem dX5_init_112 : decode cX5_init 112 = .ok (.putfield 54, 3) := by decide +kernel
theorem dX5_init_115 : decode cX5_init 115 = .ok (.aload_n 0, 1) := by decide +kernel
theorem dX5_init_116 : decode cX5_init 116 = .ok (.bipush 12, 2) := by decide +kernel
theorem dX5_init_118 : decode cX5_init 118 = .ok (.newarray .int, 2) := by decide +kernel
theorem dX5_init_120 : decode cX5_init 120 = .ok (.putfield 57, 3) := by decide +kernel
theorem dX5_init_123 : decode cX5_init 123 = .ok (.aload_n 0, 1) := by decide +kernel
theorem dX5_init_124 : decode cX5_init 124 = .ok (.bipush 12, 2) := by decide +kernel
theorem dX5_init_126 : decode cX5_init 126 = .ok (.newarray .int, 2) := by decide +kernel
theorem dX5_init_128 : decode cX5_init 128 = .ok (.putfield 60, 3) := by decide +kernel
theorem dX5_init_131 : decode cX5_init 131 = .ok (.aload_n 0, 1) := by decide +kernel
theorem dX5_init_132 : decode cX5_init 132 = .ok (.bipush 12, 2) := by decide +kernel
theorem dX5_init_134 : decode cX5_init 134 = .ok (.newarray .int, 2) := by decide +kernel
theorem dX5_init_136 : decode cX5_init 136 = .ok (.putfield 63, 3) := by decide +kernel
theorem dX5_init_139 : decode cX5_init 139 = .ok (.aload_n 0, 1) := by decide +kernel
theorem dX5_init_140 : decode cX5_init 140 = .ok (.bipush 12, 2) := by decide +kernel
theorem dX5_init_142 : decode cX5_init 142 = .ok (.newarray .int, 2) := by decide +kernel
theorem dX5_init_144 : decode cX5_init 144 = .ok (.putfield 66, 3) := by decide +kernel
theorem dX5_init_147 : decode cX5_init 147 = .ok (.aload_n 0, 1) := by decide +kernel
theorem dX5_init_148 : decode cX5_init 148 = .ok (.bipush 12, 2) := by decide +kernel
theorem dX5_init_150 : decode cX5_init 150 = .ok (.newarray .boolean, 2) := by decide +kernel
theorem dX5_init_152 : decode cX5_init 152 = .ok (.putfield 69, 3) := by decide +kernel
theorem dX5_init_155 : decode cX5_init 155 = .ok (.aload_n 0, 1) := by decide +kernel
theorem dX5_init_156 : decode cX5_init 156 = .ok (.bipush 12, 2) := by decide +kernel
theorem dX5_init_158 : decode cX5_init 158 = .ok (.newarray .int, 2) := by decide +kernel
theorem dX5_init_160 : decode cX5_init 160 = .ok (.putfield 73, 3) := by decide +kernel
theorem dX5_init_163 : decode cX5_init 163 = .ok (.aload_n 0, 1) := by decide +kernel
theorem dX5_init_164 : decode cX5_init 164 = .ok (.bipush 12, 2) := by decide +kernel
theorem dX5_init_166 : decode cX5_init 166 = .ok (.newarray .int, 2) := by decide +kernel
theorem dX5_init_168 : decode cX5_init 168 = .ok (.putfield 76, 3) := by decide +kernel
theorem dX5_init_171 : decode cX5_init 171 = .ok (.aload_n 0, 1) := by decide +kernel
theorem dX5_init_172 : decode cX5_init 172 = .ok (.iconst 4, 1) := by decide +kernel
theorem dX5_init_173 : decode cX5_init 173 = .ok (.newarray .int, 2) := by decide +kernel
theorem dX5_init_175 : decode cX5_init 175 = .ok (.putfield 79, 3) := by decide +kernel
theorem dX5_init_178 : decode cX5_init 178 = .ok (.aload_n 0, 1) := by decide +kernel
theorem dX5_init_179 : decode cX5_init 179 = .ok (.iconst 3, 1) := by decide +kernel
theorem dX5_init_180 : decode cX5_init 180 = .ok (.newarray .int, 2) := by decide +kernel
theorem dX5_init_182 : decode cX5_init 182 = .ok (.putfield 82, 3) := by decide +kernel
theorem dX5_init_185 : decode cX5_init 185 = .ok (.aload_n 0, 1) := by decide +kernel
theorem dX5_init_186 : decode cX5_init 186 = .ok (.bipush 12, 2) := by decide +kernel
theorem dX5_init_188 : decode cX5_init 188 = .ok (.newarray .int, 2) := by decide +kernel
theorem dX5_init_190 : decode cX5_init 190 = .ok (.putfield 85, 3) := by decide +kernel
theorem dX5_init_193 : decode cX5_init 193 = .ok (.aload_n 0, 1) := by decide +kernel
theorem dX5_init_194 : decode cX5_init 194 = .ok (.bipush 12, 2) := by decide +kernel
theorem dX5_init_196 : decode cX5_init 196 = .ok (.newarray .boolean, 2) := by decide +kernel
theorem dX5_init_198 : decode cX5_init 198 = .ok (.putfield 88, 3) := by decide +kernel
theorem dX5_init_201 : decode cX5_init 201 = .ok (.iconst 0, 1) := by decide +kernel
theorem dX5_init_202 : decode cX5_init 202 = .ok (.istore_n 1, 1) := by decide +kernel
theorem dX5_init_203 : decode cX5_init 203 = .ok (.iload_n 1, 1) := by decide +kernel
theorem dX5_init_204 : decode cX5_init 204 = .ok (.iconst 4, 1) := by decide +kernel
theorem dX5_init_205 : decode cX5_init 205 = .ok (.if_icmp .ge 16, 3) := by decide +kernel
theorem dX5_init_208 : decode cX5_init 208 = .ok (.aload_n 0, 1) := by decide +kernel
theorem dX5_init_209 : decode cX5_init 209 = .ok (.getfield 79, 3) := by decide +kernel
theorem dX5_init_212 : decode cX5_init 212 = .ok (.iload_n 1, 1) := by decide +kernel
theorem dX5_init_213 : decode cX5_init 213 = .ok (.iconst (-1), 1) := by decide +kernel
theorem dX5_init_214 : decode cX5_init 214 = .ok (.iastore, 1) := by decide +kernel
theorem dX5_init_215 : decode cX5_init 215 = .ok (.iinc 1 1, 3) := by decide +kernel
theorem dX5_init_218 : decode cX5_init 218 = .ok (.goto (-15), 3) := by decide +kernel
theorem dX5_init_221 : decode cX5_init 221 = .ok (.return_, 1) := by decide +kernel
theorem dX5_thrown_0 : decode cX5_thrown 0 = .ok (.aload_n 0, 1) := by decide +kernel
theorem dX5_thrown_1 : decode cX5_thrown 1 = .ok (.getfield 91, 3) := by decide +kernel
theorem dX5_thrown_4 : decode cX5_thrown 4 = .ok (.ireturn, 1) := by decide +kernel
theorem dX5_in_0 : decode cX5_in 0 = .ok (.lload_n 0, 1) := by decide +kernel
theorem dX5_in_1 : decode cX5_in 1 = .ok (.lload_n 2, 1) := by decide +kernel
theorem dX5_in_2 : decode cX5_in 2 = .ok (.lcmp, 1) := by decide +kernel
theorem dX5_in_3 : decode cX5_in 3 = .ok (.ifCond .lt 14, 3) := by decide +kernel
theorem dX5_in_6 : decode cX5_in 6 = .ok (.lload_n 0, 1) := by decide +kernel
theorem dX5_in_7 : decode cX5_in 7 = .ok (.lload 4, 2) := by decide +kernel
theorem dX5_in_9 : decode cX5_in 9 = .ok (.lcmp, 1) := by decide +kernel
theorem dX5_in_10 : decode cX5_in 10 = .ok (.ifCond .gt 7, 3) := by decide +kernel
theorem dX5_in_13 : decode cX5_in 13 = .ok (.iconst 1, 1) := by decide +kernel
theorem dX5_in_14 : decode cX5_in 14 = .ok (.goto 4, 3) := by decide +kernel
theorem dX5_in_17 : decode cX5_in 17 = .ok (.iconst 0, 1) := by decide +kernel
theorem dX5_in_18 : decode cX5_in 18 = .ok (.ireturn, 1) := by decide +kernel
theorem dX5_addCore_0 : decode cX5_addCore 0 = .ok (.aload_n 0, 1) := by decide +kernel
theorem dX5_addCore_1 : decode cX5_addCore 1 = .ok (.iload_n 1, 1) := by decide +kernel
theorem dX5_addCore_2 : decode cX5_addCore 2 = .ok (.i2l, 1) := by decide +kernel
theorem dX5_addCore_3 : decode cX5_addCore 3 = .ok (.lconst 1, 1) := by decide +kernel
theorem dX5_addCore_4 : decode cX5_addCore 4 = .ok (.ldc2_w 94, 3) := by decide +kernel
theorem dX5_addCore_7 : decode cX5_addCore 7 = .ok (.invokestatic 96, 3) := by decide +kernel
theorem dX5_addCore_10 : decode cX5_addCore 10 = .ok (.ifCond .ne 7, 3) := by decide +kernel
theorem dX5_addCore_13 : decode cX5_addCore 13 = .ok (.iconst 1, 1) := by decide +kernel
theorem dX5_addCore_14 : decode cX5_addCore 14 = .ok (.goto 16, 3) := by decide +kernel
theorem dX5_addCore_17 : decode cX5_addCore 17 = .ok (.aload_n 0, 1) := by decide +kernel
theorem dX5_addCore_18 : decode cX5_addCore 18 = .ok (.getfield 100, 3) := by decide +kernel
theorem dX5_addCore_21 : decode cX5_addCore 21 = .ok (.iconst 3, 1) := by decide +kernel
theorem dX5_addCore_22 : decode cX5_addCore 22 = .ok (.if_icmp .ne 7, 3) := by decide +kernel
theorem dX5_addCore_25 : decode cX5_addCore 25 = .ok (.iconst 2, 1) := by decide +kernel
theorem dX5_addCore_26 : decode cX5_addCore 26 = .ok (.goto 4, 3) := by decide +kernel
theorem dX5_addCore_29 : decode cX5_addCore 29 = .ok (.iconst 0, 1) := by decide +kernel
theorem dX5_addCore_30 : decode cX5_addCore 30 = .ok (.putfield 91, 3) := by decide +kernel
theorem dX5_addCore_33 : decode cX5_addCore 33 = .ok (.aload_n 0, 1) := by decide +kernel
theorem dX5_addCore_34 : decode cX5_addCore 34 = .ok (.getfield 91, 3) := by decide +kernel
theorem dX5_addCore_37 : decode cX5_addCore 37 = .ok (.ifCond .le 5, 3) := by decide +kernel
theorem dX5_addCore_40 : decode cX5_addCore 40 = .ok (.iconst (-1), 1) := by decide +kernel
theorem dX5_addCore_41 : decode cX5_addCore 41 = .ok (.ireturn, 1) := by decide +kernel
theorem dX5_addCore_42 : decode cX5_addCore 42 = .ok (.aload_n 0, 1) := by decide +kernel
theorem dX5_addCore_43 : decode cX5_addCore 43 = .ok (.getfield 7, 3) := by decide +kernel
theorem dX5_addCore_46 : decode cX5_addCore 46 = .ok (.aload_n 0, 1) := by decide +kernel
theorem dX5_addCore_47 : decode cX5_addCore 47 = .ok (.getfield 100, 3) := by decide +kernel
theorem dX5_addCore_50 : decode cX5_addCore 50 = .ok (.iload_n 1, 1) := by decide +kernel
theorem dX5_addCore_51 : decode cX5_addCore 51 = .ok (.iastore, 1) := by decide +kernel
theorem dX5_addCore_52 : decode cX5_addCore 52 = .ok (.aload_n 0, 1) := by decide +kernel
theorem dX5_addCore_53 : decode cX5_addCore 53 = .ok (.dup, 1) := by decide +kernel
theorem dX5_addCore_54 : decode cX5_addCore 54 = .ok (.getfield 100, 3) := by decide +kernel
theorem dX5_addCore_57 : decode cX5_addCore 57 = .ok (.iconst 1, 1) := by decide +kernel
theorem dX5_addCore_58 : decode cX5_addCore 58 = .ok (.iadd, 1) := by decide +kernel
theorem dX5_addCore_59 : decode cX5_addCore 59 = .ok (.putfield 100, 3) := by decide +kernel
theorem dX5_addCore_62 : decode cX5_addCore 62 = .ok (.aload_n 0, 1) := by decide +kernel
theorem dX5_addCore_63 : decode cX5_addCore 63 = .ok (.getfield 100, 3) := by decide +kernel
theorem dX5_addCore_66 : decode cX5_addCore 66 = .ok (.iconst 1, 1) := by decide +kernel
theorem dX5_addCore_67 : decode cX5_addCore 67 = .ok (.isub, 1) := by decide +kernel
theorem dX5_addCore_68 : decode cX5_addCore 68 = .ok (.ireturn, 1) := by decide +kernel
theorem dX5_setLimit_0 : decode cX5_setLimit 0 = .ok (.aload_n 0, 1) := by decide +kernel
theorem dX5_setLimit_1 : decode cX5_setLimit 1 = .ok (.iload_n 1, 1) := by decide +kernel
theorem dX5_setLimit_2 : decode cX5_setLimit 2 = .ok (.i2l, 1) := by decide +kernel
theorem dX5_setLimit_3 : decode cX5_setLimit 3 = .ok (.lconst 1, 1) := by decide +kernel
theorem dX5_setLimit_4 : decode cX5_setLimit 4 = .ok (.ldc2_w 103, 3) := by decide +kernel
theorem dX5_setLimit_7 : decode cX5_setLimit 7 = .ok (.invokestatic 96, 3) := by decide +kernel
theorem dX5_setLimit_10 : decode cX5_setLimit 10 = .ok (.ifCond .eq 7, 3) := by decide +kernel
theorem dX5_setLimit_13 : decode cX5_setLimit 13 = .ok (.iconst 0, 1) := by decide +kernel
theorem dX5_setLimit_14 : decode cX5_setLimit 14 = .ok (.goto 4, 3) := by decide +kernel
theorem dX5_setLimit_17 : decode cX5_setLimit 17 = .ok (.iconst 1, 1) := by decide +kernel
theorem dX5_setLimit_18 : decode cX5_setLimit 18 = .ok (.putfield 91, 3) := by decide +kernel
theorem dX5_setLimit_21 : decode cX5_setLimit 21 = .ok (.aload_n 0, 1) := by decide +kernel
theorem dX5_setLimit_22 : decode cX5_setLimit 22 = .ok (.getfield 16, 3) := by decide +kernel
theorem dX5_setLimit_25 : decode cX5_setLimit 25 = .ok (.istore_n 2, 1) := by decide +kernel
theorem dX5_setLimit_26 : decode cX5_setLimit 26 = .ok (.aload_n 0, 1) := by decide +kernel
theorem dX5_setLimit_27 : decode cX5_setLimit 27 = .ok (.aload_n 0, 1) := by decide +kernel
theorem dX5_setLimit_28 : decode cX5_setLimit 28 = .ok (.getfield 91, 3) := by decide +kernel
theorem dX5_setLimit_31 : decode cX5_setLimit 31 = .ok (.ifCond .ne 7, 3) := by decide +kernel
theorem dX5_setLimit_34 : decode cX5_setLimit 34 = .ok (.iload_n 1, 1) := by decide +kernel
theorem dX5_setLimit_35 : decode cX5_setLimit 35 = .ok (.goto 4, 3) := by decide +kernel
theorem dX5_setLimit_38 : decode cX5_setLimit 38 = .ok (.iload_n 2, 1) := by decide +kernel
theorem dX5_setLimit_39 : decode cX5_setLimit 39 = .ok (.putfield 16, 3) := by decide +kernel
theorem dX5_setLimit_42 : decode cX5_setLimit 42 = .ok (.aload_n 0, 1) := by decide +kernel
theorem dX5_setLimit_43 : decode cX5_setLimit 43 = .ok (.getfield 91, 3) := by decide +kernel
theorem dX5_setLimit_46 : decode cX5_setLimit 46 = .ok (.ifCond .ne 7, 3) := by decide +kernel
theorem dX5_setLimit_49 : decode cX5_setLimit 49 = .ok (.iload_n 2, 1) := by decide +kernel
theorem dX5_setLimit_50 : decode cX5_setLimit 50 = .ok (.goto 4, 3) := by decide +kernel
theorem dX5_setLimit_53 : decode cX5_setLimit 53 = .ok (.iconst (-1), 1) := by decide +kernel
theorem dX5_setLimit_54 : decode cX5_setLimit 54 = .ok (.ireturn, 1) := by decide +kernel
theorem dX5_setCap_0 : decode cX5_setCap 0 = .ok (.aload_n 0, 1) := by decide +kernel
theorem dX5_setCap_1 : decode cX5_setCap 1 = .ok (.iload_n 1, 1) := by decide +kernel
theorem dX5_setCap_2 : decode cX5_setCap 2 = .ok (.i2l, 1) := by decide +kernel
theorem dX5_setCap_3 : decode cX5_setCap 3 = .ok (.lconst 0, 1) := by decide +kernel
theorem dX5_setCap_4 : decode cX5_setCap 4 = .ok (.ldc2_w 105, 3) := by decide +kernel
theorem dX5_setCap_7 : decode cX5_setCap 7 = .ok (.invokestatic 96, 3) := by decide +kernel
theorem dX5_setCap_10 : decode cX5_setCap 10 = .ok (.ifCond .eq 7, 3) := by decide +kernel
theorem dX5_setCap_13 : decode cX5_setCap 13 = .ok (.iconst 0, 1) := by decide +kernel
theorem dX5_setCap_14 : decode cX5_setCap 14 = .ok (.goto 4, 3) := by decide +kernel
theorem dX5_setCap_17 : decode cX5_setCap 17 = .ok (.iconst 1, 1) := by decide +kernel
theorem dX5_setCap_18 : decode cX5_setCap 18 = .ok (.putfield 91, 3) := by decide +kernel
theorem dX5_setCap_21 : decode cX5_setCap 21 = .ok (.aload_n 0, 1) := by decide +kernel
theorem dX5_setCap_22 : decode cX5_setCap 22 = .ok (.getfield 20, 3) := by decide +kernel
theorem dX5_setCap_25 : decode cX5_setCap 25 = .ok (.istore_n 2, 1) := by decide +kernel
theorem dX5_setCap_26 : decode cX5_setCap 26 = .ok (.aload_n 0, 1) := by decide +kernel
theorem dX5_setCap_27 : decode cX5_setCap 27 = .ok (.aload_n 0, 1) := by decide +kernel
theorem dX5_setCap_28 : decode cX5_setCap 28 = .ok (.getfield 91, 3) := by decide +kernel
theorem dX5_setCap_31 : decode cX5_setCap 31 = .ok (.ifCond .ne 7, 3) := by decide +kernel
theorem dX5_setCap_34 : decode cX5_setCap 34 = .ok (.iload_n 1, 1) := by decide +kernel
theorem dX5_setCap_35 : decode cX5_setCap 35 = .ok (.goto 4, 3) := by decide +kernel
theorem dX5_setCap_38 : decode cX5_setCap 38 = .ok (.iload_n 2, 1) := by decide +kernel
theorem dX5_setCap_39 : decode cX5_setCap 39 = .ok (.putfield 20, 3) := by decide +kernel
theorem dX5_setCap_42 : decode cX5_setCap 42 = .ok (.aload_n 0, 1) := by decide +kernel
theorem dX5_setCap_43 : decode cX5_setCap 43 = .ok (.getfield 91, 3) := by decide +kernel
theorem dX5_setCap_46 : decode cX5_setCap 46 = .ok (.ifCond .ne 7, 3) := by decide +kernel
theorem dX5_setCap_49 : decode cX5_setCap 49 = .ok (.iload_n 2, 1) := by decide +kernel
theorem dX5_setCap_50 : decode cX5_setCap 50 = .ok (.goto 4, 3) := by decide +kernel
theorem dX5_setCap_53 : decode cX5_setCap 53 = .ok (.iconst (-1), 1) := by decide +kernel
theorem dX5_setCap_54 : decode cX5_setCap 54 = .ok (.ireturn, 1) := by decide +kernel
theorem dX5_isCore_0 : decode cX5_isCore 0 = .ok (.aload_n 0, 1) := by decide +kernel
theorem dX5_isCore_1 : decode cX5_isCore 1 = .ok (.iload_n 1, 1) := by decide +kernel
theorem dX5_isCore_2 : decode cX5_isCore 2 = .ok (.i2l, 1) := by decide +kernel
theorem dX5_isCore_3 : decode cX5_isCore 3 = .ok (.lconst 0, 1) := by decide +kernel
theorem dX5_isCore_4 : decode cX5_isCore 4 = .ok (.aload_n 0, 1) := by decide +kernel
theorem dX5_isCore_5 : decode cX5_isCore 5 = .ok (.getfield 100, 3) := by decide +kernel
theorem dX5_isCore_8 : decode cX5_isCore 8 = .ok (.iconst 1, 1) := by decide +kernel
theorem dX5_isCore_9 : decode cX5_isCore 9 = .ok (.isub, 1) := by decide +kernel
theorem dX5_isCore_10 : decode cX5_isCore 10 = .ok (.i2l, 1) := by decide +kernel
theorem dX5_isCore_11 : decode cX5_isCore 11 = .ok (.invokestatic 96, 3) := by decide +kernel
theorem dX5_isCore_14 : decode cX5_isCore 14 = .ok (.ifCond .eq 7, 3) := by decide +kernel
theorem dX5_isCore_17 : decode cX5_isCore 17 = .ok (.iconst 0, 1) := by decide +kernel
theorem dX5_isCore_18 : decode cX5_isCore 18 = .ok (.goto 4, 3) := by decide +kernel
theorem dX5_isCore_21 : decode cX5_isCore 21 = .ok (.iconst 1, 1) := by decide +kernel
theorem dX5_isCore_22 : decode cX5_isCore 22 = .ok (.putfield 91, 3) := by decide +kernel
theorem dX5_isCore_25 : decode cX5_isCore 25 = .ok (.aload_n 0, 1) := by decide +kernel
theorem dX5_isCore_26 : decode cX5_isCore 26 = .ok (.getfield 91, 3) := by decide +kernel
theorem dX5_isCore_29 : decode cX5_isCore 29 = .ok (.ifCond .ne 7, 3) := by decide +kernel
theorem dX5_isCore_32 : decode cX5_isCore 32 = .ok (.iconst 1, 1) := by decide +kernel
theorem dX5_isCore_33 : decode cX5_isCore 33 = .ok (.goto 4, 3) := by decide +kernel
theorem dX5_isCore_36 : decode cX5_isCore 36 = .ok (.iconst 0, 1) := by decide +kernel
theorem dX5_isCore_37 : decode cX5_isCore 37 = .ok (.ireturn, 1) := by decide +kernel
theorem dX5_heat_0 : decode cX5_heat 0 = .ok (.aload_n 0, 1) := by decide +kernel
theorem dX5_heat_1 : decode cX5_heat 1 = .ok (.iload_n 1, 1) := by decide +kernel
theorem dX5_heat_2 : decode cX5_heat 2 = .ok (.invokevirtual 107, 3) := by decide +kernel
theorem dX5_heat_5 : decode cX5_heat 5 = .ok (.ifCond .eq 12, 3) := by decide +kernel
theorem dX5_heat_8 : decode cX5_heat 8 = .ok (.aload_n 0, 1) := by decide +kernel
theorem dX5_heat_9 : decode cX5_heat 9 = .ok (.getfield 13, 3) := by decide +kernel
theorem dX5_heat_12 : decode cX5_heat 12 = .ok (.iload_n 1, 1) := by decide +kernel
theorem dX5_heat_13 : decode cX5_heat 13 = .ok (.iaload, 1) := by decide +kernel
theorem dX5_heat_14 : decode cX5_heat 14 = .ok (.goto 4, 3) := by decide +kernel
theorem dX5_heat_17 : decode cX5_heat 17 = .ok (.iconst (-1), 1) := by decide +kernel
theorem dX5_heat_18 : decode cX5_heat 18 = .ok (.ireturn, 1) := by decide +kernel
theorem dX5_paceOf_0 : decode cX5_paceOf 0 = .ok (.aload_n 0, 1) := by decide +kernel
theorem dX5_paceOf_1 : decode cX5_paceOf 1 = .ok (.getfield 13, 3) := by decide +kernel
theorem dX5_paceOf_4 : decode cX5_paceOf 4 = .ok (.iload_n 1, 1) := by decide +kernel
theorem dX5_paceOf_5 : decode cX5_paceOf 5 = .ok (.iaload, 1) := by decide +kernel
theorem dX5_paceOf_6 : decode cX5_paceOf 6 = .ok (.aload_n 0, 1) := by decide +kernel
theorem dX5_paceOf_7 : decode cX5_paceOf 7 = .ok (.getfield 16, 3) := by decide +kernel
theorem dX5_paceOf_10 : decode cX5_paceOf 10 = .ok (.if_icmp .ge 12, 3) := by decide +kernel
theorem dX5_paceOf_13 : decode cX5_paceOf 13 = .ok (.aload_n 0, 1) := by decide +kernel
theorem dX5_paceOf_14 : decode cX5_paceOf 14 = .ok (.getfield 7, 3) := by decide +kernel
theorem dX5_paceOf_17 : decode cX5_paceOf 17 = .ok (.iload_n 1, 1) := by decide +kernel
theorem dX5_paceOf_18 : decode cX5_paceOf 18 = .ok (.iaload, 1) := by decide +kernel
theorem dX5_paceOf_19 : decode cX5_paceOf 19 = .ok (.goto 13, 3) := by decide +kernel
theorem dX5_paceOf_22 : decode cX5_paceOf 22 = .ok (.aload_n 0, 1) := by decide +kernel
theorem dX5_paceOf_23 : decode cX5_paceOf 23 = .ok (.getfield 7, 3) := by decide +kernel
theorem dX5_paceOf_26 : decode cX5_paceOf 26 = .ok (.iload_n 1, 1) := by decide +kernel
theorem dX5_paceOf_27 : decode cX5_paceOf 27 = .ok (.iaload, 1) := by decide +kernel
theorem dX5_paceOf_28 : decode cX5_paceOf 28 = .ok (.iconst 1, 1) := by decide +kernel
theorem dX5_paceOf_29 : decode cX5_paceOf 29 = .ok (.iadd, 1) := by decide +kernel
theorem dX5_paceOf_30 : decode cX5_paceOf 30 = .ok (.iconst 2, 1) := by decide +kernel
theorem dX5_paceOf_31 : decode cX5_paceOf 31 = .ok (.idiv, 1) := by decide +kernel
theorem dX5_paceOf_32 : decode cX5_paceOf 32 = .ok (.ireturn, 1) := by decide +kernel
theorem dX5_pace_0 : decode cX5_pace 0 = .ok (.aload_n 0, 1) := by decide +kernel
theorem dX5_pace_1 : decode cX5_pace 1 = .ok (.iload_n 1, 1) := by decide +kernel
theorem dX5_pace_2 : decode cX5_pace 2 = .ok (.invokevirtual 107, 3) := by decide +kernel
theorem dX5_pace_5 : decode cX5_pace 5 = .ok (.ifCond .eq 11, 3) := by decide +kernel
theorem dX5_pace_8 : decode cX5_pace 8 = .ok (.aload_n 0, 1) := by decide +kernel
theorem dX5_pace_9 : decode cX5_pace 9 = .ok (.iload_n 1, 1) := by decide +kernel
theorem dX5_pace_10 : decode cX5_pace 10 = .ok (.invokevirtual 111, 3) := by decide +kernel
theorem dX5_pace_13 : decode cX5_pace 13 = .ok (.goto 4, 3) := by decide +kernel
theorem dX5_pace_16 : decode cX5_pace 16 = .ok (.iconst (-1), 1) := by decide +kernel
theorem dX5_pace_17 : decode cX5_pace 17 = .ok (.ireturn, 1) := by decide +kernel
theorem dX5_isGroup_0 : decode cX5_isGroup 0 = .ok (.iload_n 1, 1) := by decide +kernel
theorem dX5_isGroup_1 : decode cX5_isGroup 1 = .ok (.i2l, 1) := by decide +kernel
theorem dX5_isGroup_2 : decode cX5_isGroup 2 = .ok (.lconst 0, 1) := by decide +kernel
theorem dX5_isGroup_3 : decode cX5_isGroup 3 = .ok (.aload_n 0, 1) := by decide +kernel
theorem dX5_isGroup_4 : decode cX5_isGroup 4 = .ok (.getfield 33, 3) := by decide +kernel
theorem dX5_isGroup_7 : decode cX5_isGroup 7 = .ok (.iconst 1, 1) := by decide +kernel
theorem dX5_isGroup_8 : decode cX5_isGroup 8 = .ok (.isub, 1) := by decide +kernel
theorem dX5_isGroup_9 : decode cX5_isGroup 9 = .ok (.i2l, 1) := by decide +kernel
theorem dX5_isGroup_10 : decode cX5_isGroup 10 = .ok (.invokestatic 96, 3) := by decide +kernel
theorem dX5_isGroup_13 : decode cX5_isGroup 13 = .ok (.ireturn, 1) := by decide +kernel
theorem dX5_leastIn_0 : decode cX5_leastIn 0 = .ok (.ldc2_w 115, 3) := by decide +kernel
theorem dX5_leastIn_3 : decode cX5_leastIn 3 = .ok (.lstore_n 2, 1) := by decide +kernel
theorem dX5_leastIn_4 : decode cX5_leastIn 4 = .ok (.iconst 1, 1) := by decide +kernel
theorem dX5_leastIn_5 : decode cX5_leastIn 5 = .ok (.istore 4, 2) := by decide +kernel
theorem dX5_leastIn_7 : decode cX5_leastIn 7 = .ok (.iload 4, 2) := by decide +kernel
theorem dX5_leastIn_9 : decode cX5_leastIn 9 = .ok (.aload_n 0, 1) := by decide +kernel
theorem dX5_leastIn_10 : decode cX5_leastIn 10 = .ok (.getfield 33, 3) := by decide +kernel
theorem dX5_leastIn_13 : decode cX5_leastIn 13 = .ok (.if_icmp .ge 50, 3) := by decide +kernel
theorem dX5_leastIn_16 : decode cX5_leastIn 16 = .ok (.aload_n 0, 1) := by decide +kernel
theorem dX5_leastIn_17 : decode cX5_leastIn 17 = .ok (.getfield 23, 3) := by decide +kernel
theorem dX5_leastIn_20 : decode cX5_leastIn 20 = .ok (.iload 4, 2) := by decide +kernel
theorem dX5_leastIn_22 : decode cX5_leastIn 22 = .ok (.iaload, 1) := by decide +kernel
theorem dX5_leastIn_23 : decode cX5_leastIn 23 = .ok (.iload_n 1, 1) := by decide +kernel
theorem dX5_leastIn_24 : decode cX5_leastIn 24 = .ok (.if_icmp .ne 31, 3) := by decide +kernel
theorem dX5_leastIn_27 : decode cX5_leastIn 27 = .ok (.lload_n 2, 1) := by decide +kernel
theorem dX5_leastIn_28 : decode cX5_leastIn 28 = .ok (.lconst 0, 1) := by decide +kernel
theorem dX5_leastIn_29 : decode cX5_leastIn 29 = .ok (.lcmp, 1) := by decide +kernel
theorem dX5_leastIn_30 : decode cX5_leastIn 30 = .ok (.ifCond .lt 15, 3) := by decide +kernel
theorem dX5_leastIn_33 : decode cX5_leastIn 33 = .ok (.aload_n 0, 1) := by decide +kernel
theorem dX5_leastIn_34 : decode cX5_leastIn 34 = .ok (.getfield 29, 3) := by decide +kernel
theorem dX5_leastIn_37 : decode cX5_leastIn 37 = .ok (.iload 4, 2) := by decide +kernel
theorem dX5_leastIn_39 : decode cX5_leastIn 39 = .ok (.laload, 1) := by decide +kernel
theorem dX5_leastIn_40 : decode cX5_leastIn 40 = .ok (.lload_n 2, 1) := by decide +kernel
theorem dX5_leastIn_41 : decode cX5_leastIn 41 = .ok (.lcmp, 1) := by decide +kernel
theorem dX5_leastIn_42 : decode cX5_leastIn 42 = .ok (.ifCond .ge 13, 3) := by decide +kernel
theorem dX5_leastIn_45 : decode cX5_leastIn 45 = .ok (.aload_n 0, 1) := by decide +kernel
theorem dX5_leastIn_46 : decode cX5_leastIn 46 = .ok (.getfield 29, 3) := by decide +kernel
theorem dX5_leastIn_49 : decode cX5_leastIn 49 = .ok (.iload 4, 2) := by decide +kernel
theorem dX5_leastIn_51 : decode cX5_leastIn 51 = .ok (.laload, 1) := by decide +kernel
theorem dX5_leastIn_52 : decode cX5_leastIn 52 = .ok (.goto 4, 3) := by decide +kernel
theorem dX5_leastIn_55 : decode cX5_leastIn 55 = .ok (.lload_n 2, 1) := by decide +kernel
theorem dX5_leastIn_56 : decode cX5_leastIn 56 = .ok (.lstore_n 2, 1) := by decide +kernel
theorem dX5_leastIn_57 : decode cX5_leastIn 57 = .ok (.iinc 4 1, 3) := by decide +kernel
theorem dX5_leastIn_60 : decode cX5_leastIn 60 = .ok (.goto (-53), 3) := by decide +kernel
theorem dX5_leastIn_63 : decode cX5_leastIn 63 = .ok (.iconst 0, 1) := by decide +kernel
theorem dX5_leastIn_64 : decode cX5_leastIn 64 = .ok (.istore 4, 2) := by decide +kernel
theorem dX5_leastIn_66 : decode cX5_leastIn 66 = .ok (.iload 4, 2) := by decide +kernel
theorem dX5_leastIn_68 : decode cX5_leastIn 68 = .ok (.aload_n 0, 1) := by decide +kernel
theorem dX5_leastIn_69 : decode cX5_leastIn 69 = .ok (.getfield 117, 3) := by decide +kernel
theorem dX5_leastIn_72 : decode cX5_leastIn 72 = .ok (.if_icmp .ge 50, 3) := by decide +kernel
theorem dX5_leastIn_75 : decode cX5_leastIn 75 = .ok (.aload_n 0, 1) := by decide +kernel
theorem dX5_leastIn_76 : decode cX5_leastIn 76 = .ok (.getfield 36, 3) := by decide +kernel
theorem dX5_leastIn_79 : decode cX5_leastIn 79 = .ok (.iload 4, 2) := by decide +kernel
theorem dX5_leastIn_81 : decode cX5_leastIn 81 = .ok (.iaload, 1) := by decide +kernel
theorem dX5_leastIn_82 : decode cX5_leastIn 82 = .ok (.iload_n 1, 1) := by decide +kernel
theorem dX5_leastIn_83 : decode cX5_leastIn 83 = .ok (.if_icmp .ne 31, 3) := by decide +kernel
theorem dX5_leastIn_86 : decode cX5_leastIn 86 = .ok (.lload_n 2, 1) := by decide +kernel
theorem dX5_leastIn_87 : decode cX5_leastIn 87 = .ok (.lconst 0, 1) := by decide +kernel
theorem dX5_leastIn_88 : decode cX5_leastIn 88 = .ok (.lcmp, 1) := by decide +kernel
theorem dX5_leastIn_89 : decode cX5_leastIn 89 = .ok (.ifCond .lt 15, 3) := by decide +kernel
theorem dX5_leastIn_92 : decode cX5_leastIn 92 = .ok (.aload_n 0, 1) := by decide +kernel
theorem dX5_leastIn_93 : decode cX5_leastIn 93 = .ok (.getfield 42, 3) := by decide +kernel
theorem dX5_leastIn_96 : decode cX5_leastIn 96 = .ok (.iload 4, 2) := by decide +kernel
theorem dX5_leastIn_98 : decode cX5_leastIn 98 = .ok (.laload, 1) := by decide +kernel
theorem dX5_leastIn_99 : decode cX5_leastIn 99 = .ok (.lload_n 2, 1) := by decide +kernel
theorem dX5_leastIn_100 : decode cX5_leastIn 100 = .ok (.lcmp, 1) := by decide +kernel
theorem dX5_leastIn_101 : decode cX5_leastIn 101 = .ok (.ifCond .ge 13, 3) := by decide +kernel
theorem dX5_leastIn_104 : decode cX5_leastIn 104 = .ok (.aload_n 0, 1) := by decide +kernel
theorem dX5_leastIn_105 : decode cX5_leastIn 105 = .ok (.getfield 42, 3) := by decide +kernel
theorem dX5_leastIn_108 : decode cX5_leastIn 108 = .ok (.iload 4, 2) := by decide +kernel
theorem dX5_leastIn_110 : decode cX5_leastIn 110 = .ok (.laload, 1) := by decide +kernel
theorem dX5_leastIn_111 : decode cX5_leastIn 111 = .ok (.goto 4, 3) := by decide +kernel
theorem dX5_leastIn_114 : decode cX5_leastIn 114 = .ok (.lload_n 2, 1) := by decide +kernel
theorem dX5_leastIn_115 : decode cX5_leastIn 115 = .ok (.lstore_n 2, 1) := by decide +kernel
theorem dX5_leastIn_116 : decode cX5_leastIn 116 = .ok (.iinc 4 1, 3) := by decide +kernel
theorem dX5_leastIn_119 : decode cX5_leastIn 119 = .ok (.goto (-53), 3) := by decide +kernel
theorem dX5_leastIn_122 : decode cX5_leastIn 122 = .ok (.lload_n 2, 1) := by decide +kernel
theorem dX5_leastIn_123 : decode cX5_leastIn 123 = .ok (.lconst 0, 1) := by decide +kernel
theorem dX5_leastIn_124 : decode cX5_leastIn 124 = .ok (.lcmp, 1) := by decide +kernel
theorem dX5_leastIn_125 : decode cX5_leastIn 125 = .ok (.ifCond .ge 7, 3) := by decide +kernel
theorem dX5_leastIn_128 : decode cX5_leastIn 128 = .ok (.lconst 0, 1) := by decide +kernel
theorem dX5_leastIn_129 : decode cX5_leastIn 129 = .ok (.goto 4, 3) := by decide +kernel
theorem dX5_leastIn_132 : decode cX5_leastIn 132 = .ok (.lload_n 2, 1) := by decide +kernel
theorem dX5_leastIn_133 : decode cX5_leastIn 133 = .ok (.lreturn, 1) := by decide +kernel
theorem dX5_addGroup_0 : decode cX5_addGroup 0 = .ok (.aload_n 0, 1) := by decide +kernel
theorem dX5_addGroup_1 : decode cX5_addGroup 1 = .ok (.aload_n 0, 1) := by decide +kernel
theorem dX5_addGroup_2 : decode cX5_addGroup 2 = .ok (.iload_n 1, 1) := by decide +kernel
theorem dX5_addGroup_3 : decode cX5_addGroup 3 = .ok (.invokevirtual 120, 3) := by decide +kernel
theorem dX5_addGroup_6 : decode cX5_addGroup 6 = .ok (.ifCond .ne 7, 3) := by decide +kernel
theorem dX5_addGroup_9 : decode cX5_addGroup 9 = .ok (.iconst 1, 1) := by decide +kernel
theorem dX5_addGroup_10 : decode cX5_addGroup 10 = .ok (.goto 33, 3) := by decide +kernel
theorem dX5_addGroup_13 : decode cX5_addGroup 13 = .ok (.iload_n 2, 1) := by decide +kernel
theorem dX5_addGroup_14 : decode cX5_addGroup 14 = .ok (.i2l, 1) := by decide +kernel
theorem dX5_addGroup_15 : decode cX5_addGroup 15 = .ok (.lconst 1, 1) := by decide +kernel
theorem dX5_addGroup_16 : decode cX5_addGroup 16 = .ok (.ldc2_w 123, 3) := by decide +kernel
theorem dX5_addGroup_19 : decode cX5_addGroup 19 = .ok (.invokestatic 96, 3) := by decide +kernel
theorem dX5_addGroup_22 : decode cX5_addGroup 22 = .ok (.ifCond .ne 7, 3) := by decide +kernel
theorem dX5_addGroup_25 : decode cX5_addGroup 25 = .ok (.iconst 2, 1) := by decide +kernel
theorem dX5_addGroup_26 : decode cX5_addGroup 26 = .ok (.goto 17, 3) := by decide +kernel
theorem dX5_addGroup_29 : decode cX5_addGroup 29 = .ok (.aload_n 0, 1) := by decide +kernel
theorem dX5_addGroup_30 : decode cX5_addGroup 30 = .ok (.getfield 33, 3) := by decide +kernel
theorem dX5_addGroup_33 : decode cX5_addGroup 33 = .ok (.bipush 6, 2) := by decide +kernel
theorem dX5_addGroup_35 : decode cX5_addGroup 35 = .ok (.if_icmp .ne 7, 3) := by decide +kernel
theorem dX5_addGroup_38 : decode cX5_addGroup 38 = .ok (.iconst 3, 1) := by decide +kernel
theorem dX5_addGroup_39 : decode cX5_addGroup 39 = .ok (.goto 4, 3) := by decide +kernel
theorem dX5_addGroup_42 : decode cX5_addGroup 42 = .ok (.iconst 0, 1) := by decide +kernel
theorem dX5_addGroup_43 : decode cX5_addGroup 43 = .ok (.putfield 91, 3) := by decide +kernel
theorem dX5_addGroup_46 : decode cX5_addGroup 46 = .ok (.aload_n 0, 1) := by decide +kernel
theorem dX5_addGroup_47 : decode cX5_addGroup 47 = .ok (.getfield 91, 3) := by decide +kernel
theorem dX5_addGroup_50 : decode cX5_addGroup 50 = .ok (.ifCond .le 5, 3) := by decide +kernel
theorem dX5_addGroup_53 : decode cX5_addGroup 53 = .ok (.iconst (-1), 1) := by decide +kernel
theorem dX5_addGroup_54 : decode cX5_addGroup 54 = .ok (.ireturn, 1) := by decide +kernel
theorem dX5_addGroup_55 : decode cX5_addGroup 55 = .ok (.aload_n 0, 1) := by decide +kernel
theorem dX5_addGroup_56 : decode cX5_addGroup 56 = .ok (.getfield 29, 3) := by decide +kernel
theorem dX5_addGroup_59 : decode cX5_addGroup 59 = .ok (.aload_n 0, 1) := by decide +kernel
theorem dX5_addGroup_60 : decode cX5_addGroup 60 = .ok (.getfield 33, 3) := by decide +kernel
theorem dX5_addGroup_63 : decode cX5_addGroup 63 = .ok (.aload_n 0, 1) := by decide +kernel
theorem dX5_addGroup_64 : decode cX5_addGroup 64 = .ok (.iload_n 1, 1) := by decide +kernel
theorem dX5_addGroup_65 : decode cX5_addGroup 65 = .ok (.invokevirtual 125, 3) := by decide +kernel
theorem dX5_addGroup_68 : decode cX5_addGroup 68 = .ok (.lastore, 1) := by decide +kernel
theorem dX5_addGroup_69 : decode cX5_addGroup 69 = .ok (.aload_n 0, 1) := by decide +kernel
theorem dX5_addGroup_70 : decode cX5_addGroup 70 = .ok (.getfield 23, 3) := by decide +kernel
theorem dX5_addGroup_73 : decode cX5_addGroup 73 = .ok (.aload_n 0, 1) := by decide +kernel
theorem dX5_addGroup_74 : decode cX5_addGroup 74 = .ok (.getfield 33, 3) := by decide +kernel
theorem dX5_addGroup_77 : decode cX5_addGroup 77 = .ok (.iload_n 1, 1) := by decide +kernel
theorem dX5_addGroup_78 : decode cX5_addGroup 78 = .ok (.iastore, 1) := by decide +kernel
theorem dX5_addGroup_79 : decode cX5_addGroup 79 = .ok (.aload_n 0, 1) := by decide +kernel
theorem dX5_addGroup_80 : decode cX5_addGroup 80 = .ok (.getfield 26, 3) := by decide +kernel
theorem dX5_addGroup_83 : decode cX5_addGroup 83 = .ok (.aload_n 0, 1) := by decide +kernel
theorem dX5_addGroup_84 : decode cX5_addGroup 84 = .ok (.getfield 33, 3) := by decide +kernel
theorem dX5_addGroup_87 : decode cX5_addGroup 87 = .ok (.iload_n 2, 1) := by decide +kernel
theorem dX5_addGroup_88 : decode cX5_addGroup 88 = .ok (.iastore, 1) := by decide +kernel
theorem dX5_addGroup_89 : decode cX5_addGroup 89 = .ok (.aload_n 0, 1) := by decide +kernel
theorem dX5_addGroup_90 : decode cX5_addGroup 90 = .ok (.dup, 1) := by decide +kernel
theorem dX5_addGroup_91 : decode cX5_addGroup 91 = .ok (.getfield 33, 3) := by decide +kernel
theorem dX5_addGroup_94 : decode cX5_addGroup 94 = .ok (.iconst 1, 1) := by decide +kernel
theorem dX5_addGroup_95 : decode cX5_addGroup 95 = .ok (.iadd, 1) := by decide +kernel
theorem dX5_addGroup_96 : decode cX5_addGroup 96 = .ok (.putfield 33, 3) := by decide +kernel
theorem dX5_addGroup_99 : decode cX5_addGroup 99 = .ok (.aload_n 0, 1) := by decide +kernel
theorem dX5_addGroup_100 : decode cX5_addGroup 100 = .ok (.getfield 33, 3) := by decide +kernel
theorem dX5_addGroup_103 : decode cX5_addGroup 103 = .ok (.iconst 1, 1) := by decide +kernel
theorem dX5_addGroup_104 : decode cX5_addGroup 104 = .ok (.isub, 1) := by decide +kernel
theorem dX5_addGroup_105 : decode cX5_addGroup 105 = .ok (.ireturn, 1) := by decide +kernel
theorem dX5_adds_0 : decode cX5_adds 0 = .ok (.aload_n 0, 1) := by decide +kernel
theorem dX5_adds_1 : decode cX5_adds 1 = .ok (.getfield 117, 3) := by decide +kernel
theorem dX5_adds_4 : decode cX5_adds 4 = .ok (.istore 5, 2) := by decide +kernel
theorem dX5_adds_6 : decode cX5_adds 6 = .ok (.aload_n 0, 1) := by decide +kernel
theorem dX5_adds_7 : decode cX5_adds 7 = .ok (.getfield 42, 3) := by decide +kernel
theorem dX5_adds_10 : decode cX5_adds 10 = .ok (.iload 5, 2) := by decide +kernel
theorem dX5_adds_12 : decode cX5_adds 12 = .ok (.aload_n 0, 1) := by decide +kernel
theorem dX5_adds_13 : decode cX5_adds 13 = .ok (.iload_n 1, 1) := by decide +kernel
theorem dX5_adds_14 : decode cX5_adds 14 = .ok (.invokevirtual 125, 3) := by decide +kernel
theorem dX5_adds_17 : decode cX5_adds 17 = .ok (.lastore, 1) := by decide +kernel
theorem dX5_adds_18 : decode cX5_adds 18 = .ok (.aload_n 0, 1) := by decide +kernel
theorem dX5_adds_19 : decode cX5_adds 19 = .ok (.getfield 36, 3) := by decide +kernel
theorem dX5_adds_22 : decode cX5_adds 22 = .ok (.iload 5, 2) := by decide +kernel
theorem dX5_adds_24 : decode cX5_adds 24 = .ok (.iload_n 1, 1) := by decide +kernel
theorem dX5_adds_25 : decode cX5_adds 25 = .ok (.iastore, 1) := by decide +kernel
theorem dX5_adds_26 : decode cX5_adds 26 = .ok (.aload_n 0, 1) := by decide +kernel
theorem dX5_adds_27 : decode cX5_adds 27 = .ok (.getfield 39, 3) := by decide +kernel
theorem dX5_adds_30 : decode cX5_adds 30 = .ok (.iload 5, 2) := by decide +kernel
theorem dX5_adds_32 : decode cX5_adds 32 = .ok (.iload_n 2, 1) := by decide +kernel
theorem dX5_adds_33 : decode cX5_adds 33 = .ok (.iastore, 1) := by decide +kernel
theorem dX5_adds_34 : decode cX5_adds 34 = .ok (.aload_n 0, 1) := by decide +kernel
theorem dX5_adds_35 : decode cX5_adds 35 = .ok (.getfield 45, 3) := by decide +kernel
theorem dX5_adds_38 : decode cX5_adds 38 = .ok (.iload 5, 2) := by decide +kernel
theorem dX5_adds_40 : decode cX5_adds 40 = .ok (.iload_n 3, 1) := by decide +kernel
theorem dX5_adds_41 : decode cX5_adds 41 = .ok (.iastore, 1) := by decide +kernel
theorem dX5_adds_42 : decode cX5_adds 42 = .ok (.aload_n 0, 1) := by decide +kernel
theorem dX5_adds_43 : decode cX5_adds 43 = .ok (.getfield 48, 3) := by decide +kernel
theorem dX5_adds_46 : decode cX5_adds 46 = .ok (.iload 5, 2) := by decide +kernel
theorem dX5_adds_48 : decode cX5_adds 48 = .ok (.iload 4, 2) := by decide +kernel
theorem dX5_adds_50 : decode cX5_adds 50 = .ok (.iastore, 1) := by decide +kernel
theorem dX5_adds_51 : decode cX5_adds 51 = .ok (.aload_n 0, 1) := by decide +kernel
theorem dX5_adds_52 : decode cX5_adds 52 = .ok (.getfield 51, 3) := by decide +kernel
theorem dX5_adds_55 : decode cX5_adds 55 = .ok (.iload 5, 2) := by decide +kernel
theorem dX5_adds_57 : decode cX5_adds 57 = .ok (.iload_n 3, 1) := by decide +kernel
theorem dX5_adds_58 : decode cX5_adds 58 = .ok (.iastore, 1) := by decide +kernel
theorem dX5_adds_59 : decode cX5_adds 59 = .ok (.aload_n 0, 1) := by decide +kernel
theorem dX5_adds_60 : decode cX5_adds 60 = .ok (.getfield 54, 3) := by decide +kernel
theorem dX5_adds_63 : decode cX5_adds 63 = .ok (.iload 5, 2) := by decide +kernel
theorem dX5_adds_65 : decode cX5_adds 65 = .ok (.aload_n 0, 1) := by decide +kernel
theorem dX5_adds_66 : decode cX5_adds 66 = .ok (.getfield 129, 3) := by decide +kernel
theorem dX5_adds_69 : decode cX5_adds 69 = .ok (.iload 4, 2) := by decide +kernel
theorem dX5_adds_71 : decode cX5_adds 71 = .ok (.iadd, 1) := by decide +kernel
theorem dX5_adds_72 : decode cX5_adds 72 = .ok (.iastore, 1) := by decide +kernel
theorem dX5_adds_73 : decode cX5_adds 73 = .ok (.aload_n 0, 1) := by decide +kernel
theorem dX5_adds_74 : decode cX5_adds 74 = .ok (.getfield 57, 3) := by decide +kernel
theorem dX5_adds_77 : decode cX5_adds 77 = .ok (.iload 5, 2) := by decide +kernel
theorem dX5_adds_79 : decode cX5_adds 79 = .ok (.aload_n 0, 1) := by decide +kernel
theorem dX5_adds_80 : decode cX5_adds 80 = .ok (.getfield 129, 3) := by decide +kernel
theorem dX5_adds_83 : decode cX5_adds 83 = .ok (.iastore, 1) := by decide +kernel
theorem dX5_adds_84 : decode cX5_adds 84 = .ok (.aload_n 0, 1) := by decide +kernel
theorem dX5_adds_85 : decode cX5_adds 85 = .ok (.getfield 60, 3) := by decide +kernel
theorem dX5_adds_88 : decode cX5_adds 88 = .ok (.iload 5, 2) := by decide +kernel
theorem dX5_adds_90 : decode cX5_adds 90 = .ok (.iconst 0, 1) := by decide +kernel
theorem dX5_adds_91 : decode cX5_adds 91 = .ok (.iastore, 1) := by decide +kernel
theorem dX5_adds_92 : decode cX5_adds 92 = .ok (.aload_n 0, 1) := by decide +kernel
theorem dX5_adds_93 : decode cX5_adds 93 = .ok (.getfield 63, 3) := by decide +kernel
theorem dX5_adds_96 : decode cX5_adds 96 = .ok (.iload 5, 2) := by decide +kernel
theorem dX5_adds_98 : decode cX5_adds 98 = .ok (.iconst 0, 1) := by decide +kernel
theorem dX5_adds_99 : decode cX5_adds 99 = .ok (.iastore, 1) := by decide +kernel
theorem dX5_adds_100 : decode cX5_adds 100 = .ok (.aload_n 0, 1) := by decide +kernel
theorem dX5_adds_101 : decode cX5_adds 101 = .ok (.getfield 66, 3) := by decide +kernel
theorem dX5_adds_104 : decode cX5_adds 104 = .ok (.iload 5, 2) := by decide +kernel
theorem dX5_adds_106 : decode cX5_adds 106 = .ok (.iconst (-1), 1) := by decide +kernel
theorem dX5_adds_107 : decode cX5_adds 107 = .ok (.iastore, 1) := by decide +kernel
theorem dX5_adds_108 : decode cX5_adds 108 = .ok (.aload_n 0, 1) := by decide +kernel
theorem dX5_adds_109 : decode cX5_adds 109 = .ok (.getfield 69, 3) := by decide +kernel
theorem dX5_adds_112 : decode cX5_adds 112 = .ok (.iload 5, 2) := by decide +kernel
theorem dX5_adds_114 : decode cX5_adds 114 = .ok (.iconst 0, 1) := by decide +kernel
theorem dX5_adds_115 : decode cX5_adds 115 = .ok (.bastore, 1) := by decide +kernel
theorem dX5_adds_116 : decode cX5_adds 116 = .ok (.aload_n 0, 1) := by decide +kernel
theorem dX5_adds_117 : decode cX5_adds 117 = .ok (.getfield 73, 3) := by decide +kernel
theorem dX5_adds_120 : decode cX5_adds 120 = .ok (.iload 5, 2) := by decide +kernel
theorem dX5_adds_122 : decode cX5_adds 122 = .ok (.iconst (-1), 1) := by decide +kernel
theorem dX5_adds_123 : decode cX5_adds 123 = .ok (.iastore, 1) := by decide +kernel
theorem dX5_adds_124 : decode cX5_adds 124 = .ok (.aload_n 0, 1) := by decide +kernel
theorem dX5_adds_125 : decode cX5_adds 125 = .ok (.dup, 1) := by decide +kernel
theorem dX5_adds_126 : decode cX5_adds 126 = .ok (.getfield 117, 3) := by decide +kernel
theorem dX5_adds_129 : decode cX5_adds 129 = .ok (.iconst 1, 1) := by decide +kernel
theorem dX5_adds_130 : decode cX5_adds 130 = .ok (.iadd, 1) := by decide +kernel
theorem dX5_adds_131 : decode cX5_adds 131 = .ok (.putfield 117, 3) := by decide +kernel
theorem dX5_adds_134 : decode cX5_adds 134 = .ok (.iload 5, 2) := by decide +kernel
theorem dX5_adds_136 : decode cX5_adds 136 = .ok (.ireturn, 1) := by decide +kernel
theorem dX5_addPlain_0 : decode cX5_addPlain 0 = .ok (.iload_n 2, 1) := by decide +kernel
theorem dX5_addPlain_1 : decode cX5_addPlain 1 = .ok (.i2l, 1) := by decide +kernel
theorem dX5_addPlain_2 : decode cX5_addPlain 2 = .ok (.lconst 1, 1) := by decide +kernel
theorem dX5_addPlain_3 : decode cX5_addPlain 3 = .ok (.ldc2_w 123, 3) := by decide +kernel
theorem dX5_addPlain_6 : decode cX5_addPlain 6 = .ok (.invokestatic 96, 3) := by decide +kernel
theorem dX5_addPlain_9 : decode cX5_addPlain 9 = .ok (.ifCond .eq 19, 3) := by decide +kernel
theorem dX5_addPlain_12 : decode cX5_addPlain 12 = .ok (.iload_n 3, 1) := by decide +kernel
theorem dX5_addPlain_13 : decode cX5_addPlain 13 = .ok (.i2l, 1) := by decide +kernel
theorem dX5_addPlain_14 : decode cX5_addPlain 14 = .ok (.lconst 1, 1) := by decide +kernel
theorem dX5_addPlain_15 : decode cX5_addPlain 15 = .ok (.ldc2_w 132, 3) := by decide +kernel
theorem dX5_addPlain_18 : decode cX5_addPlain 18 = .ok (.invokestatic 96, 3) := by decide +kernel
theorem dX5_addPlain_21 : decode cX5_addPlain 21 = .ok (.ifCond .eq 7, 3) := by decide +kernel
theorem dX5_addPlain_24 : decode cX5_addPlain 24 = .ok (.iconst 1, 1) := by decide +kernel
theorem dX5_addPlain_25 : decode cX5_addPlain 25 = .ok (.goto 4, 3) := by decide +kernel
theorem dX5_addPlain_28 : decode cX5_addPlain 28 = .ok (.iconst 0, 1) := by decide +kernel
theorem dX5_addPlain_29 : decode cX5_addPlain 29 = .ok (.istore 4, 2) := by decide +kernel
theorem dX5_addPlain_31 : decode cX5_addPlain 31 = .ok (.aload_n 0, 1) := by decide +kernel
theorem dX5_addPlain_32 : decode cX5_addPlain 32 = .ok (.aload_n 0, 1) := by decide +kernel
theorem dX5_addPlain_33 : decode cX5_addPlain 33 = .ok (.iload_n 1, 1) := by decide +kernel
theorem dX5_addPlain_34 : decode cX5_addPlain 34 = .ok (.invokevirtual 120, 3) := by decide +kernel
theorem dX5_addPlain_37 : decode cX5_addPlain 37 = .ok (.ifCond .ne 7, 3) := by decide +kernel
theorem dX5_addPlain_40 : decode cX5_addPlain 40 = .ok (.iconst 1, 1) := by decide +kernel
theorem dX5_addPlain_41 : decode cX5_addPlain 41 = .ok (.goto 26, 3) := by decide +kernel
theorem dX5_addPlain_44 : decode cX5_addPlain 44 = .ok (.iload 4, 2) := by decide +kernel
theorem dX5_addPlain_46 : decode cX5_addPlain 46 = .ok (.ifCond .ne 7, 3) := by decide +kernel
theorem dX5_addPlain_49 : decode cX5_addPlain 49 = .ok (.iconst 2, 1) := by decide +kernel
theorem dX5_addPlain_50 : decode cX5_addPlain 50 = .ok (.goto 17, 3) := by decide +kernel
theorem dX5_addPlain_53 : decode cX5_addPlain 53 = .ok (.aload_n 0, 1) := by decide +kernel
theorem dX5_addPlain_54 : decode cX5_addPlain 54 = .ok (.getfield 117, 3) := by decide +kernel
theorem dX5_addPlain_57 : decode cX5_addPlain 57 = .ok (.bipush 12, 2) := by decide +kernel
theorem dX5_addPlain_59 : decode cX5_addPlain 59 = .ok (.if_icmp .ne 7, 3) := by decide +kernel
theorem dX5_addPlain_62 : decode cX5_addPlain 62 = .ok (.iconst 3, 1) := by decide +kernel
theorem dX5_addPlain_63 : decode cX5_addPlain 63 = .ok (.goto 4, 3) := by decide +kernel
theorem dX5_addPlain_66 : decode cX5_addPlain 66 = .ok (.iconst 0, 1) := by decide +kernel
theorem dX5_addPlain_67 : decode cX5_addPlain 67 = .ok (.putfield 91, 3) := by decide +kernel
theorem dX5_addPlain_70 : decode cX5_addPlain 70 = .ok (.aload_n 0, 1) := by decide +kernel
theorem dX5_addPlain_71 : decode cX5_addPlain 71 = .ok (.getfield 91, 3) := by decide +kernel
theorem dX5_addPlain_74 : decode cX5_addPlain 74 = .ok (.ifCond .ne 14, 3) := by decide +kernel
theorem dX5_addPlain_77 : decode cX5_addPlain 77 = .ok (.aload_n 0, 1) := by decide +kernel
theorem dX5_addPlain_78 : decode cX5_addPlain 78 = .ok (.iload_n 1, 1) := by decide +kernel
theorem dX5_addPlain_79 : decode cX5_addPlain 79 = .ok (.iload_n 2, 1) := by decide +kernel
theorem dX5_addPlain_80 : decode cX5_addPlain 80 = .ok (.iload_n 3, 1) := by decide +kernel
theorem dX5_addPlain_81 : decode cX5_addPlain 81 = .ok (.iconst 0, 1) := by decide +kernel
theorem dX5_addPlain_82 : decode cX5_addPlain 82 = .ok (.invokevirtual 134, 3) := by decide +kernel
theorem dX5_addPlain_85 : decode cX5_addPlain 85 = .ok (.goto 4, 3) := by decide +kernel
theorem dX5_addPlain_88 : decode cX5_addPlain 88 = .ok (.iconst (-1), 1) := by decide +kernel
theorem dX5_addPlain_89 : decode cX5_addPlain 89 = .ok (.ireturn, 1) := by decide +kernel
theorem dX5_share_0 : decode cX5_share 0 = .ok (.sipush 1000, 3) := by decide +kernel
theorem dX5_share_3 : decode cX5_share 3 = .ok (.iload_n 0, 1) := by decide +kernel
theorem dX5_share_4 : decode cX5_share 4 = .ok (.imul, 1) := by decide +kernel
theorem dX5_share_5 : decode cX5_share 5 = .ok (.iload_n 1, 1) := by decide +kernel
theorem dX5_share_6 : decode cX5_share 6 = .ok (.iadd, 1) := by decide +kernel
theorem dX5_share_7 : decode cX5_share 7 = .ok (.iconst 1, 1) := by decide +kernel
theorem dX5_share_8 : decode cX5_share 8 = .ok (.isub, 1) := by decide +kernel
theorem dX5_share_9 : decode cX5_share 9 = .ok (.iload_n 1, 1) := by decide +kernel
theorem dX5_share_10 : decode cX5_share 10 = .ok (.idiv, 1) := by decide +kernel
theorem dX5_share_11 : decode cX5_share 11 = .ok (.ireturn, 1) := by decide +kernel
theorem dX5_shares_0 : decode cX5_shares 0 = .ok (.iconst 0, 1) := by decide +kernel
theorem dX5_shares_1 : decode cX5_shares 1 = .ok (.istore_n 1, 1) := by decide +kernel
theorem dX5_shares_2 : decode cX5_shares 2 = .ok (.iconst 0, 1) := by decide +kernel
theorem dX5_shares_3 : decode cX5_shares 3 = .ok (.istore_n 2, 1) := by decide +kernel
theorem dX5_shares_4 : decode cX5_shares 4 = .ok (.iload_n 2, 1) := by decide +kernel
theorem dX5_shares_5 : decode cX5_shares 5 = .ok (.aload_n 0, 1) := by decide +kernel
theorem dX5_shares_6 : decode cX5_shares 6 = .ok (.getfield 117, 3) := by decide +kernel
theorem dX5_shares_9 : decode cX5_shares 9 = .ok (.if_icmp .ge 49, 3) := by decide +kernel
theorem dX5_shares_12 : decode cX5_shares 12 = .ok (.iload_n 1, 1) := by decide +kernel
theorem dX5_shares_13 : decode cX5_shares 13 = .ok (.aload_n 0, 1) := by decide +kernel
theorem dX5_shares_14 : decode cX5_shares 14 = .ok (.getfield 48, 3) := by decide +kernel
theorem dX5_shares_17 : decode cX5_shares 17 = .ok (.iload_n 2, 1) := by decide +kernel
theorem dX5_shares_18 : decode cX5_shares 18 = .ok (.iaload, 1) := by decide +kernel
theorem dX5_shares_19 : decode cX5_shares 19 = .ok (.ifCond .le 30, 3) := by decide +kernel
theorem dX5_shares_22 : decode cX5_shares 22 = .ok (.aload_n 0, 1) := by decide +kernel
theorem dX5_shares_23 : decode cX5_shares 23 = .ok (.getfield 69, 3) := by decide +kernel
theorem dX5_shares_26 : decode cX5_shares 26 = .ok (.iload_n 2, 1) := by decide +kernel
theorem dX5_shares_27 : decode cX5_shares 27 = .ok (.baload, 1) := by decide +kernel
theorem dX5_shares_28 : decode cX5_shares 28 = .ok (.ifCond .ne 21, 3) := by decide +kernel
theorem dX5_shares_31 : decode cX5_shares 31 = .ok (.aload_n 0, 1) := by decide +kernel
theorem dX5_shares_32 : decode cX5_shares 32 = .ok (.getfield 51, 3) := by decide +kernel
theorem dX5_shares_35 : decode cX5_shares 35 = .ok (.iload_n 2, 1) := by decide +kernel
theorem dX5_shares_36 : decode cX5_shares 36 = .ok (.iaload, 1) := by decide +kernel
theorem dX5_shares_37 : decode cX5_shares 37 = .ok (.aload_n 0, 1) := by decide +kernel
theorem dX5_shares_38 : decode cX5_shares 38 = .ok (.getfield 48, 3) := by decide +kernel
theorem dX5_shares_41 : decode cX5_shares 41 = .ok (.iload_n 2, 1) := by decide +kernel
theorem dX5_shares_42 : decode cX5_shares 42 = .ok (.iaload, 1) := by decide +kernel
theorem dX5_shares_43 : decode cX5_shares 43 = .ok (.invokestatic 138, 3) := by decide +kernel
theorem dX5_shares_46 : decode cX5_shares 46 = .ok (.goto 4, 3) := by decide +kernel
theorem dX5_shares_49 : decode cX5_shares 49 = .ok (.iconst 0, 1) := by decide +kernel
theorem dX5_shares_50 : decode cX5_shares 50 = .ok (.iadd, 1) := by decide +kernel
theorem dX5_shares_51 : decode cX5_shares 51 = .ok (.istore_n 1, 1) := by decide +kernel
theorem dX5_shares_52 : decode cX5_shares 52 = .ok (.iinc 2 1, 3) := by decide +kernel
theorem dX5_shares_55 : decode cX5_shares 55 = .ok (.goto (-51), 3) := by decide +kernel
theorem dX5_shares_58 : decode cX5_shares 58 = .ok (.iload_n 1, 1) := by decide +kernel
theorem dX5_shares_59 : decode cX5_shares 59 = .ok (.ireturn, 1) := by decide +kernel
theorem dX5_promised_0 : decode cX5_promised 0 = .ok (.iconst 0, 1) := by decide +kernel
theorem dX5_promised_1 : decode cX5_promised 1 = .ok (.istore_n 1, 1) := by decide +kernel
theorem dX5_promised_2 : decode cX5_promised 2 = .ok (.iconst 0, 1) := by decide +kernel
theorem dX5_promised_3 : decode cX5_promised 3 = .ok (.istore_n 2, 1) := by decide +kernel
theorem dX5_promised_4 : decode cX5_promised 4 = .ok (.iload_n 2, 1) := by decide +kernel
theorem dX5_promised_5 : decode cX5_promised 5 = .ok (.aload_n 0, 1) := by decide +kernel
theorem dX5_promised_6 : decode cX5_promised 6 = .ok (.getfield 100, 3) := by decide +kernel
theorem dX5_promised_9 : decode cX5_promised 9 = .ok (.if_icmp .ge 18, 3) := by decide +kernel
theorem dX5_promised_12 : decode cX5_promised 12 = .ok (.iload_n 1, 1) := by decide +kernel
theorem dX5_promised_13 : decode cX5_promised 13 = .ok (.aload_n 0, 1) := by decide +kernel
theorem dX5_promised_14 : decode cX5_promised 14 = .ok (.getfield 7, 3) := by decide +kernel
theorem dX5_promised_17 : decode cX5_promised 17 = .ok (.iload_n 2, 1) := by decide +kernel
theorem dX5_promised_18 : decode cX5_promised 18 = .ok (.iaload, 1) := by decide +kernel
theorem dX5_promised_19 : decode cX5_promised 19 = .ok (.iadd, 1) := by decide +kernel
theorem dX5_promised_20 : decode cX5_promised 20 = .ok (.istore_n 1, 1) := by decide +kernel
theorem dX5_promised_21 : decode cX5_promised 21 = .ok (.iinc 2 1, 3) := by decide +kernel
theorem dX5_promised_24 : decode cX5_promised 24 = .ok (.goto (-20), 3) := by decide +kernel
theorem dX5_promised_27 : decode cX5_promised 27 = .ok (.iload_n 1, 1) := by decide +kernel
theorem dX5_promised_28 : decode cX5_promised 28 = .ok (.aload_n 0, 1) := by decide +kernel
theorem dX5_promised_29 : decode cX5_promised 29 = .ok (.getfield 20, 3) := by decide +kernel
theorem dX5_promised_32 : decode cX5_promised 32 = .ok (.if_icmp .ge 7, 3) := by decide +kernel
theorem dX5_promised_35 : decode cX5_promised 35 = .ok (.iload_n 1, 1) := by decide +kernel
theorem dX5_promised_36 : decode cX5_promised 36 = .ok (.goto 7, 3) := by decide +kernel
theorem dX5_promised_39 : decode cX5_promised 39 = .ok (.aload_n 0, 1) := by decide +kernel
theorem dX5_promised_40 : decode cX5_promised 40 = .ok (.getfield 20, 3) := by decide +kernel
theorem dX5_promised_43 : decode cX5_promised 43 = .ok (.ireturn, 1) := by decide +kernel
theorem dX5_addTimed_0 : decode cX5_addTimed 0 = .ok (.iload_n 2, 1) := by decide +kernel
theorem dX5_addTimed_1 : decode cX5_addTimed 1 = .ok (.i2l, 1) := by decide +kernel
theorem dX5_addTimed_2 : decode cX5_addTimed 2 = .ok (.lconst 1, 1) := by decide +kernel
theorem dX5_addTimed_3 : decode cX5_addTimed 3 = .ok (.ldc2_w 123, 3) := by decide +kernel
theorem dX5_addTimed_6 : decode cX5_addTimed 6 = .ok (.invokestatic 96, 3) := by decide +kernel
theorem dX5_addTimed_9 : decode cX5_addTimed 9 = .ok (.ifCond .eq 34, 3) := by decide +kernel
theorem dX5_addTimed_12 : decode cX5_addTimed 12 = .ok (.iload_n 3, 1) := by decide +kernel
theorem dX5_addTimed_13 : decode cX5_addTimed 13 = .ok (.i2l, 1) := by decide +kernel
theorem dX5_addTimed_14 : decode cX5_addTimed 14 = .ok (.ldc2_w 142, 3) := by decide +kernel
theorem dX5_addTimed_17 : decode cX5_addTimed 17 = .ok (.ldc2_w 144, 3) := by decide +kernel
theorem dX5_addTimed_20 : decode cX5_addTimed 20 = .ok (.invokestatic 96, 3) := by decide +kernel
theorem dX5_addTimed_23 : decode cX5_addTimed 23 = .ok (.ifCond .eq 20, 3) := by decide +kernel
theorem dX5_addTimed_26 : decode cX5_addTimed 26 = .ok (.iload 4, 2) := by decide +kernel
theorem dX5_addTimed_28 : decode cX5_addTimed 28 = .ok (.i2l, 1) := by decide +kernel
theorem dX5_addTimed_29 : decode cX5_addTimed 29 = .ok (.lconst 1, 1) := by decide +kernel
theorem dX5_addTimed_30 : decode cX5_addTimed 30 = .ok (.ldc2_w 146, 3) := by decide +kernel
theorem dX5_addTimed_33 : decode cX5_addTimed 33 = .ok (.invokestatic 96, 3) := by decide +kernel
theorem dX5_addTimed_36 : decode cX5_addTimed 36 = .ok (.ifCond .eq 7, 3) := by decide +kernel
theorem dX5_addTimed_39 : decode cX5_addTimed 39 = .ok (.iconst 1, 1) := by decide +kernel
theorem dX5_addTimed_40 : decode cX5_addTimed 40 = .ok (.goto 4, 3) := by decide +kernel
theorem dX5_addTimed_43 : decode cX5_addTimed 43 = .ok (.iconst 0, 1) := by decide +kernel
theorem dX5_addTimed_44 : decode cX5_addTimed 44 = .ok (.istore 5, 2) := by decide +kernel
theorem dX5_addTimed_46 : decode cX5_addTimed 46 = .ok (.aload_n 0, 1) := by decide +kernel
theorem dX5_addTimed_47 : decode cX5_addTimed 47 = .ok (.iload_n 1, 1) := by decide +kernel
theorem dX5_addTimed_48 : decode cX5_addTimed 48 = .ok (.invokevirtual 120, 3) := by decide +kernel
theorem dX5_addTimed_51 : decode cX5_addTimed 51 = .ok (.ifCond .eq 8, 3) := by decide +kernel
theorem dX5_addTimed_54 : decode cX5_addTimed 54 = .ok (.iload 5, 2) := by decide +kernel
theorem dX5_addTimed_56 : decode cX5_addTimed 56 = .ok (.ifCond .ne 22, 3) := by decide +kernel
theorem dX5_addTimed_59 : decode cX5_addTimed 59 = .ok (.aload_n 0, 1) := by decide +kernel
theorem dX5_addTimed_60 : decode cX5_addTimed 60 = .ok (.aload_n 0, 1) := by decide +kernel
theorem dX5_addTimed_61 : decode cX5_addTimed 61 = .ok (.iload_n 1, 1) := by decide +kernel
theorem dX5_addTimed_62 : decode cX5_addTimed 62 = .ok (.invokevirtual 120, 3) := by decide +kernel
theorem dX5_addTimed_65 : decode cX5_addTimed 65 = .ok (.ifCond .ne 7, 3) := by decide +kernel
theorem dX5_addTimed_68 : decode cX5_addTimed 68 = .ok (.iconst 1, 1) := by decide +kernel
theorem dX5_addTimed_69 : decode cX5_addTimed 69 = .ok (.goto 4, 3) := by decide +kernel
theorem dX5_addTimed_72 : decode cX5_addTimed 72 = .ok (.iconst 2, 1) := by decide +kernel
theorem dX5_addTimed_73 : decode cX5_addTimed 73 = .ok (.putfield 91, 3) := by decide +kernel
theorem dX5_addTimed_76 : decode cX5_addTimed 76 = .ok (.iconst (-1), 1) := by decide +kernel
theorem dX5_addTimed_77 : decode cX5_addTimed 77 = .ok (.ireturn, 1) := by decide +kernel
theorem dX5_addTimed_78 : decode cX5_addTimed 78 = .ok (.aload_n 0, 1) := by decide +kernel
theorem dX5_addTimed_79 : decode cX5_addTimed 79 = .ok (.invokevirtual 148, 3) := by decide +kernel
theorem dX5_addTimed_82 : decode cX5_addTimed 82 = .ok (.iload 4, 2) := by decide +kernel
theorem dX5_addTimed_84 : decode cX5_addTimed 84 = .ok (.iload_n 3, 1) := by decide +kernel
theorem dX5_addTimed_85 : decode cX5_addTimed 85 = .ok (.invokestatic 138, 3) := by decide +kernel
theorem dX5_addTimed_88 : decode cX5_addTimed 88 = .ok (.iadd, 1) := by decide +kernel
theorem dX5_addTimed_89 : decode cX5_addTimed 89 = .ok (.sipush 1000, 3) := by decide +kernel
theorem dX5_addTimed_92 : decode cX5_addTimed 92 = .ok (.aload_n 0, 1) := by decide +kernel
theorem dX5_addTimed_93 : decode cX5_addTimed 93 = .ok (.invokevirtual 152, 3) := by decide +kernel
theorem dX5_addTimed_96 : decode cX5_addTimed 96 = .ok (.imul, 1) := by decide +kernel
theorem dX5_addTimed_97 : decode cX5_addTimed 97 = .ok (.if_icmp .gt 7, 3) := by decide +kernel
theorem dX5_addTimed_100 : decode cX5_addTimed 100 = .ok (.iconst 1, 1) := by decide +kernel
theorem dX5_addTimed_101 : decode cX5_addTimed 101 = .ok (.goto 4, 3) := by decide +kernel
theorem dX5_addTimed_104 : decode cX5_addTimed 104 = .ok (.iconst 0, 1) := by decide +kernel
theorem dX5_addTimed_105 : decode cX5_addTimed 105 = .ok (.istore 6, 2) := by decide +kernel
theorem dX5_addTimed_107 : decode cX5_addTimed 107 = .ok (.aload_n 0, 1) := by decide +kernel
theorem dX5_addTimed_108 : decode cX5_addTimed 108 = .ok (.iload 6, 2) := by decide +kernel
theorem dX5_addTimed_110 : decode cX5_addTimed 110 = .ok (.ifCond .ne 7, 3) := by decide +kernel
theorem dX5_addTimed_113 : decode cX5_addTimed 113 = .ok (.iconst 3, 1) := by decide +kernel
theorem dX5_addTimed_114 : decode cX5_addTimed 114 = .ok (.goto 17, 3) := by decide +kernel
theorem dX5_addTimed_117 : decode cX5_addTimed 117 = .ok (.aload_n 0, 1) := by decide +kernel
theorem dX5_addTimed_118 : decode cX5_addTimed 118 = .ok (.getfield 117, 3) := by decide +kernel
theorem dX5_addTimed_121 : decode cX5_addTimed 121 = .ok (.bipush 12, 2) := by decide +kernel
theorem dX5_addTimed_123 : decode cX5_addTimed 123 = .ok (.if_icmp .ne 7, 3) := by decide +kernel
theorem dX5_addTimed_126 : decode cX5_addTimed 126 = .ok (.iconst 4, 1) := by decide +kernel
theorem dX5_addTimed_127 : decode cX5_addTimed 127 = .ok (.goto 4, 3) := by decide +kernel
theorem dX5_addTimed_130 : decode cX5_addTimed 130 = .ok (.iconst 0, 1) := by decide +kernel
theorem dX5_addTimed_131 : decode cX5_addTimed 131 = .ok (.putfield 91, 3) := by decide +kernel
theorem dX5_addTimed_134 : decode cX5_addTimed 134 = .ok (.aload_n 0, 1) := by decide +kernel
theorem dX5_addTimed_135 : decode cX5_addTimed 135 = .ok (.getfield 91, 3) := by decide +kernel
theorem dX5_addTimed_138 : decode cX5_addTimed 138 = .ok (.ifCond .ne 15, 3) := by decide +kernel
theorem dX5_addTimed_141 : decode cX5_addTimed 141 = .ok (.aload_n 0, 1) := by decide +kernel
theorem dX5_addTimed_142 : decode cX5_addTimed 142 = .ok (.iload_n 1, 1) := by decide +kernel
theorem dX5_addTimed_143 : decode cX5_addTimed 143 = .ok (.iload_n 2, 1) := by decide +kernel
theorem dX5_addTimed_144 : decode cX5_addTimed 144 = .ok (.iload 4, 2) := by decide +kernel
theorem dX5_addTimed_146 : decode cX5_addTimed 146 = .ok (.iload_n 3, 1) := by decide +kernel
theorem dX5_addTimed_147 : decode cX5_addTimed 147 = .ok (.invokevirtual 134, 3) := by decide +kernel
theorem dX5_addTimed_150 : decode cX5_addTimed 150 = .ok (.goto 4, 3) := by decide +kernel
theorem dX5_addTimed_153 : decode cX5_addTimed 153 = .ok (.iconst (-1), 1) := by decide +kernel
theorem dX5_addTimed_154 : decode cX5_addTimed 154 = .ok (.ireturn, 1) := by decide +kernel
theorem dX5_isTask_0 : decode cX5_isTask 0 = .ok (.iload_n 1, 1) := by decide +kernel
theorem dX5_isTask_1 : decode cX5_isTask 1 = .ok (.i2l, 1) := by decide +kernel
theorem dX5_isTask_2 : decode cX5_isTask 2 = .ok (.lconst 0, 1) := by decide +kernel
theorem dX5_isTask_3 : decode cX5_isTask 3 = .ok (.aload_n 0, 1) := by decide +kernel
theorem dX5_isTask_4 : decode cX5_isTask 4 = .ok (.getfield 117, 3) := by decide +kernel
theorem dX5_isTask_7 : decode cX5_isTask 7 = .ok (.iconst 1, 1) := by decide +kernel
theorem dX5_isTask_8 : decode cX5_isTask 8 = .ok (.isub, 1) := by decide +kernel
theorem dX5_isTask_9 : decode cX5_isTask 9 = .ok (.i2l, 1) := by decide +kernel
theorem dX5_isTask_10 : decode cX5_isTask 10 = .ok (.invokestatic 96, 3) := by decide +kernel
theorem dX5_isTask_13 : decode cX5_isTask 13 = .ok (.ireturn, 1) := by decide +kernel
theorem dX5_asks_0 : decode cX5_asks 0 = .ok (.aload_n 0, 1) := by decide +kernel
theorem dX5_asks_1 : decode cX5_asks 1 = .ok (.aload_n 0, 1) := by decide +kernel
theorem dX5_asks_2 : decode cX5_asks 2 = .ok (.iload_n 1, 1) := by decide +kernel
theorem dX5_asks_3 : decode cX5_asks 3 = .ok (.invokevirtual 155, 3) := by decide +kernel
theorem dX5_asks_6 : decode cX5_asks 6 = .ok (.ifCond .eq 7, 3) := by decide +kernel
theorem dX5_asks_9 : decode cX5_asks 9 = .ok (.iconst 0, 1) := by decide +kernel
theorem dX5_asks_10 : decode cX5_asks 10 = .ok (.goto 4, 3) := by decide +kernel
theorem dX5_asks_13 : decode cX5_asks 13 = .ok (.iconst 1, 1) := by decide +kernel
theorem dX5_asks_14 : decode cX5_asks 14 = .ok (.putfield 91, 3) := by decide +kernel
theorem dX5_asks_17 : decode cX5_asks 17 = .ok (.aload_n 0, 1) := by decide +kernel
theorem dX5_asks_18 : decode cX5_asks 18 = .ok (.getfield 91, 3) := by decide +kernel
theorem dX5_asks_21 : decode cX5_asks 21 = .ok (.ifCond .ne 7, 3) := by decide +kernel
theorem dX5_asks_24 : decode cX5_asks 24 = .ok (.iconst 1, 1) := by decide +kernel
theorem dX5_asks_25 : decode cX5_asks 25 = .ok (.goto 4, 3) := by decide +kernel
theorem dX5_asks_28 : decode cX5_asks 28 = .ok (.iconst 0, 1) := by decide +kernel
theorem dX5_asks_29 : decode cX5_asks 29 = .ok (.ireturn, 1) := by decide +kernel
theorem dX5_end_0 : decode cX5_end 0 = .ok (.aload_n 0, 1) := by decide +kernel
theorem dX5_end_1 : decode cX5_end 1 = .ok (.aload_n 0, 1) := by decide +kernel
theorem dX5_end_2 : decode cX5_end 2 = .ok (.iload_n 1, 1) := by decide +kernel
theorem dX5_end_3 : decode cX5_end 3 = .ok (.invokevirtual 155, 3) := by decide +kernel
theorem dX5_end_6 : decode cX5_end 6 = .ok (.ifCond .ne 7, 3) := by decide +kernel
theorem dX5_end_9 : decode cX5_end 9 = .ok (.iconst 1, 1) := by decide +kernel
theorem dX5_end_10 : decode cX5_end 10 = .ok (.goto 17, 3) := by decide +kernel
theorem dX5_end_13 : decode cX5_end 13 = .ok (.aload_n 0, 1) := by decide +kernel
theorem dX5_end_14 : decode cX5_end 14 = .ok (.getfield 69, 3) := by decide +kernel
theorem dX5_end_17 : decode cX5_end 17 = .ok (.iload_n 1, 1) := by decide +kernel
theorem dX5_end_18 : decode cX5_end 18 = .ok (.baload, 1) := by decide +kernel
theorem dX5_end_19 : decode cX5_end 19 = .ok (.ifCond .eq 7, 3) := by decide +kernel
theorem dX5_end_22 : decode cX5_end 22 = .ok (.iconst 2, 1) := by decide +kernel
theorem dX5_end_23 : decode cX5_end 23 = .ok (.goto 4, 3) := by decide +kernel
theorem dX5_end_26 : decode cX5_end 26 = .ok (.iconst 0, 1) := by decide +kernel
theorem dX5_end_27 : decode cX5_end 27 = .ok (.putfield 91, 3) := by decide +kernel
theorem dX5_end_30 : decode cX5_end 30 = .ok (.aload_n 0, 1) := by decide +kernel
theorem dX5_end_31 : decode cX5_end 31 = .ok (.getfield 91, 3) := by decide +kernel
theorem dX5_end_34 : decode cX5_end 34 = .ok (.ifCond .le 5, 3) := by decide +kernel
theorem dX5_end_37 : decode cX5_end 37 = .ok (.iconst (-1), 1) := by decide +kernel
theorem dX5_end_38 : decode cX5_end 38 = .ok (.ireturn, 1) := by decide +kernel
theorem dX5_end_39 : decode cX5_end 39 = .ok (.aload_n 0, 1) := by decide +kernel
theorem dX5_end_40 : decode cX5_end 40 = .ok (.getfield 45, 3) := by decide +kernel
theorem dX5_end_43 : decode cX5_end 43 = .ok (.iload_n 1, 1) := by decide +kernel
theorem dX5_end_44 : decode cX5_end 44 = .ok (.iaload, 1) := by decide +kernel
theorem dX5_end_45 : decode cX5_end 45 = .ok (.istore_n 2, 1) := by decide +kernel
theorem dX5_end_46 : decode cX5_end 46 = .ok (.aload_n 0, 1) := by decide +kernel
theorem dX5_end_47 : decode cX5_end 47 = .ok (.getfield 45, 3) := by decide +kernel
theorem dX5_end_50 : decode cX5_end 50 = .ok (.iload_n 1, 1) := by decide +kernel
theorem dX5_end_51 : decode cX5_end 51 = .ok (.iconst 0, 1) := by decide +kernel
theorem dX5_end_52 : decode cX5_end 52 = .ok (.iastore, 1) := by decide +kernel
theorem dX5_end_53 : decode cX5_end 53 = .ok (.aload_n 0, 1) := by decide +kernel
theorem dX5_end_54 : decode cX5_end 54 = .ok (.getfield 69, 3) := by decide +kernel
theorem dX5_end_57 : decode cX5_end 57 = .ok (.iload_n 1, 1) := by decide +kernel
theorem dX5_end_58 : decode cX5_end 58 = .ok (.iconst 1, 1) := by decide +kernel
theorem dX5_end_59 : decode cX5_end 59 = .ok (.bastore, 1) := by decide +kernel
theorem dX5_end_60 : decode cX5_end 60 = .ok (.aload_n 0, 1) := by decide +kernel
theorem dX5_end_61 : decode cX5_end 61 = .ok (.getfield 73, 3) := by decide +kernel
theorem dX5_end_64 : decode cX5_end 64 = .ok (.iload_n 1, 1) := by decide +kernel
theorem dX5_end_65 : decode cX5_end 65 = .ok (.iconst (-1), 1) := by decide +kernel
theorem dX5_end_66 : decode cX5_end 66 = .ok (.iastore, 1) := by decide +kernel
theorem dX5_end_67 : decode cX5_end 67 = .ok (.iconst 0, 1) := by decide +kernel
theorem dX5_end_68 : decode cX5_end 68 = .ok (.istore_n 3, 1) := by decide +kernel
theorem dX5_end_69 : decode cX5_end 69 = .ok (.iload_n 3, 1) := by decide +kernel
theorem dX5_end_70 : decode cX5_end 70 = .ok (.iconst 4, 1) := by decide +kernel
theorem dX5_end_71 : decode cX5_end 71 = .ok (.if_icmp .ge 24, 3) := by decide +kernel
theorem dX5_end_74 : decode cX5_end 74 = .ok (.aload_n 0, 1) := by decide +kernel
theorem dX5_end_75 : decode cX5_end 75 = .ok (.getfield 79, 3) := by decide +kernel
theorem dX5_end_78 : decode cX5_end 78 = .ok (.iload_n 3, 1) := by decide +kernel
theorem dX5_end_79 : decode cX5_end 79 = .ok (.iaload, 1) := by decide +kernel
theorem dX5_end_80 : decode cX5_end 80 = .ok (.iload_n 1, 1) := by decide +kernel
theorem dX5_end_81 : decode cX5_end 81 = .ok (.if_icmp .ne 8, 3) := by decide +kernel
theorem dX5_end_84 : decode cX5_end 84 = .ok (.aload_n 0, 1) := by decide +kernel
theorem dX5_end_85 : decode cX5_end 85 = .ok (.iload_n 3, 1) := by decide +kernel
theorem dX5_end_86 : decode cX5_end 86 = .ok (.invokevirtual 158, 3) := by decide +kernel
theorem dX5_end_89 : decode cX5_end 89 = .ok (.iinc 3 1, 3) := by decide +kernel
theorem dX5_end_92 : decode cX5_end 92 = .ok (.goto (-23), 3) := by decide +kernel
theorem dX5_end_95 : decode cX5_end 95 = .ok (.iload_n 2, 1) := by decide +kernel
theorem dX5_end_96 : decode cX5_end 96 = .ok (.ireturn, 1) := by decide +kernel
theorem dX5_left_0 : decode cX5_left 0 = .ok (.aload_n 0, 1) := by decide +kernel
theorem dX5_left_1 : decode cX5_left 1 = .ok (.iload_n 1, 1) := by decide +kernel
theorem dX5_left_2 : decode cX5_left 2 = .ok (.invokevirtual 162, 3) := by decide +kernel
theorem dX5_left_5 : decode cX5_left 5 = .ok (.ifCond .eq 12, 3) := by decide +kernel
theorem dX5_left_8 : decode cX5_left 8 = .ok (.aload_n 0, 1) := by decide +kernel
theorem dX5_left_9 : decode cX5_left 9 = .ok (.getfield 45, 3) := by decide +kernel
theorem dX5_left_12 : decode cX5_left 12 = .ok (.iload_n 1, 1) := by decide +kernel
theorem dX5_left_13 : decode cX5_left 13 = .ok (.iaload, 1) := by decide +kernel
theorem dX5_left_14 : decode cX5_left 14 = .ok (.goto 4, 3) := by decide +kernel
theorem dX5_left_17 : decode cX5_left 17 = .ok (.iconst (-1), 1) := by decide +kernel
theorem dX5_left_18 : decode cX5_left 18 = .ok (.ireturn, 1) := by decide +kernel
theorem dX5_isReady_0 : decode cX5_isReady 0 = .ok (.aload_n 0, 1) := by decide +kernel
theorem dX5_isReady_1 : decode cX5_isReady 1 = .ok (.getfield 69, 3) := by decide +kernel
theorem dX5_isReady_4 : decode cX5_isReady 4 = .ok (.iload_n 1, 1) := by decide +kernel
theorem dX5_isReady_5 : decode cX5_isReady 5 = .ok (.baload, 1) := by decide +kernel
theorem dX5_isReady_6 : decode cX5_isReady 6 = .ok (.ifCond .ne 26, 3) := by decide +kernel
theorem dX5_isReady_9 : decode cX5_isReady 9 = .ok (.aload_n 0, 1) := by decide +kernel
theorem dX5_isReady_10 : decode cX5_isReady 10 = .ok (.getfield 73, 3) := by decide +kernel
theorem dX5_isReady_13 : decode cX5_isReady 13 = .ok (.iload_n 1, 1) := by decide +kernel
theorem dX5_isReady_14 : decode cX5_isReady 14 = .ok (.iaload, 1) := by decide +kernel
theorem dX5_isReady_15 : decode cX5_isReady 15 = .ok (.iconst (-1), 1) := by decide +kernel
theorem dX5_isReady_16 : decode cX5_isReady 16 = .ok (.if_icmp .ne 16, 3) := by decide +kernel
theorem dX5_isReady_19 : decode cX5_isReady 19 = .ok (.aload_n 0, 1) := by decide +kernel
theorem dX5_isReady_20 : decode cX5_isReady 20 = .ok (.getfield 45, 3) := by decide +kernel
theorem dX5_isReady_23 : decode cX5_isReady 23 = .ok (.iload_n 1, 1) := by decide +kernel
theorem dX5_isReady_24 : decode cX5_isReady 24 = .ok (.iaload, 1) := by decide +kernel
theorem dX5_isReady_25 : decode cX5_isReady 25 = .ok (.ifCond .le 7, 3) := by decide +kernel
theorem dX5_isReady_28 : decode cX5_isReady 28 = .ok (.iconst 1, 1) := by decide +kernel
theorem dX5_isReady_29 : decode cX5_isReady 29 = .ok (.goto 4, 3) := by decide +kernel
theorem dX5_isReady_32 : decode cX5_isReady 32 = .ok (.iconst 0, 1) := by decide +kernel
theorem dX5_isReady_33 : decode cX5_isReady 33 = .ok (.ireturn, 1) := by decide +kernel
theorem dX5_stateOf_0 : decode cX5_stateOf 0 = .ok (.aload_n 0, 1) := by decide +kernel
theorem dX5_stateOf_1 : decode cX5_stateOf 1 = .ok (.iload_n 1, 1) := by decide +kernel
theorem dX5_stateOf_2 : decode cX5_stateOf 2 = .ok (.invokevirtual 162, 3) := by decide +kernel
theorem dX5_stateOf_5 : decode cX5_stateOf 5 = .ok (.ifCond .ne 8, 3) := by decide +kernel
theorem dX5_stateOf_8 : decode cX5_stateOf 8 = .ok (.bipush 32, 2) := by decide +kernel
theorem dX5_stateOf_10 : decode cX5_stateOf 10 = .ok (.goto 48, 3) := by decide +kernel
theorem dX5_stateOf_13 : decode cX5_stateOf 13 = .ok (.aload_n 0, 1) := by decide +kernel
theorem dX5_stateOf_14 : decode cX5_stateOf 14 = .ok (.getfield 69, 3) := by decide +kernel
theorem dX5_stateOf_17 : decode cX5_stateOf 17 = .ok (.iload_n 1, 1) := by decide +kernel
theorem dX5_stateOf_18 : decode cX5_stateOf 18 = .ok (.baload, 1) := by decide +kernel
theorem dX5_stateOf_19 : decode cX5_stateOf 19 = .ok (.ifCond .eq 8, 3) := by decide +kernel
theorem dX5_stateOf_22 : decode cX5_stateOf 22 = .ok (.bipush 101, 2) := by decide +kernel
theorem dX5_stateOf_24 : decode cX5_stateOf 24 = .ok (.goto 34, 3) := by decide +kernel
theorem dX5_stateOf_27 : decode cX5_stateOf 27 = .ok (.aload_n 0, 1) := by decide +kernel
theorem dX5_stateOf_28 : decode cX5_stateOf 28 = .ok (.getfield 73, 3) := by decide +kernel
theorem dX5_stateOf_31 : decode cX5_stateOf 31 = .ok (.iload_n 1, 1) := by decide +kernel
theorem dX5_stateOf_32 : decode cX5_stateOf 32 = .ok (.iaload, 1) := by decide +kernel
theorem dX5_stateOf_33 : decode cX5_stateOf 33 = .ok (.iconst (-1), 1) := by decide +kernel
theorem dX5_stateOf_34 : decode cX5_stateOf 34 = .ok (.if_icmp .eq 8, 3) := by decide +kernel
