theorem dX5_stateOf_37 : decode cX5_stateOf 37 = .ok (.bipush 119, 2) := by decide +kernel
theorem dX5_stateOf_39 : decode cX5_stateOf 39 = .ok (.goto 19, 3) := by decide +kernel
theorem dX5_stateOf_42 : decode cX5_stateOf 42 = .ok (.aload_n 0, 1) := by decide +kernel
theorem dX5_stateOf_43 : decode cX5_stateOf 43 = .ok (.getfield 45, 3) := by decide +kernel
theorem dX5_stateOf_46 : decode cX5_stateOf 46 = .ok (.iload_n 1, 1) := by decide +kernel
theorem dX5_stateOf_47 : decode cX5_stateOf 47 = .ok (.iaload, 1) := by decide +kernel
theorem dX5_stateOf_48 : decode cX5_stateOf 48 = .ok (.ifCond .le 8, 3) := by decide +kernel
theorem dX5_stateOf_51 : decode cX5_stateOf 51 = .ok (.bipush 114, 2) := by decide +kernel
theorem dX5_stateOf_53 : decode cX5_stateOf 53 = .ok (.goto 5, 3) := by decide +kernel
theorem dX5_stateOf_56 : decode cX5_stateOf 56 = .ok (.bipush 105, 2) := by decide +kernel
theorem dX5_stateOf_58 : decode cX5_stateOf 58 = .ok (.ireturn, 1) := by decide +kernel
theorem dX5_timeOf_0 : decode cX5_timeOf 0 = .ok (.aload_n 0, 1) := by decide +kernel
theorem dX5_timeOf_1 : decode cX5_timeOf 1 = .ok (.iload_n 1, 1) := by decide +kernel
theorem dX5_timeOf_2 : decode cX5_timeOf 2 = .ok (.invokevirtual 162, 3) := by decide +kernel
theorem dX5_timeOf_5 : decode cX5_timeOf 5 = .ok (.ifCond .eq 12, 3) := by decide +kernel
theorem dX5_timeOf_8 : decode cX5_timeOf 8 = .ok (.aload_n 0, 1) := by decide +kernel
theorem dX5_timeOf_9 : decode cX5_timeOf 9 = .ok (.getfield 42, 3) := by decide +kernel
theorem dX5_timeOf_12 : decode cX5_timeOf 12 = .ok (.iload_n 1, 1) := by decide +kernel
theorem dX5_timeOf_13 : decode cX5_timeOf 13 = .ok (.laload, 1) := by decide +kernel
theorem dX5_timeOf_14 : decode cX5_timeOf 14 = .ok (.goto 6, 3) := by decide +kernel
theorem dX5_timeOf_17 : decode cX5_timeOf 17 = .ok (.ldc2_w 115, 3) := by decide +kernel
theorem dX5_timeOf_20 : decode cX5_timeOf 20 = .ok (.lreturn, 1) := by decide +kernel
theorem dX5_timeOfGroup_0 : decode cX5_timeOfGroup 0 = .ok (.aload_n 0, 1) := by decide +kernel
theorem dX5_timeOfGroup_1 : decode cX5_timeOfGroup 1 = .ok (.iload_n 1, 1) := by decide +kernel
theorem dX5_timeOfGroup_2 : decode cX5_timeOfGroup 2 = .ok (.i2l, 1) := by decide +kernel
theorem dX5_timeOfGroup_3 : decode cX5_timeOfGroup 3 = .ok (.lconst 1, 1) := by decide +kernel
theorem dX5_timeOfGroup_4 : decode cX5_timeOfGroup 4 = .ok (.aload_n 0, 1) := by decide +kernel
theorem dX5_timeOfGroup_5 : decode cX5_timeOfGroup 5 = .ok (.getfield 33, 3) := by decide +kernel
theorem dX5_timeOfGroup_8 : decode cX5_timeOfGroup 8 = .ok (.iconst 1, 1) := by decide +kernel
theorem dX5_timeOfGroup_9 : decode cX5_timeOfGroup 9 = .ok (.isub, 1) := by decide +kernel
theorem dX5_timeOfGroup_10 : decode cX5_timeOfGroup 10 = .ok (.i2l, 1) := by decide +kernel
theorem dX5_timeOfGroup_11 : decode cX5_timeOfGroup 11 = .ok (.invokestatic 96, 3) := by decide +kernel
theorem dX5_timeOfGroup_14 : decode cX5_timeOfGroup 14 = .ok (.ifCond .eq 7, 3) := by decide +kernel
theorem dX5_timeOfGroup_17 : decode cX5_timeOfGroup 17 = .ok (.iconst 0, 1) := by decide +kernel
theorem dX5_timeOfGroup_18 : decode cX5_timeOfGroup 18 = .ok (.goto 4, 3) := by decide +kernel
theorem dX5_timeOfGroup_21 : decode cX5_timeOfGroup 21 = .ok (.iconst 1, 1) := by decide +kernel
theorem dX5_timeOfGroup_22 : decode cX5_timeOfGroup 22 = .ok (.putfield 91, 3) := by decide +kernel
theorem dX5_timeOfGroup_25 : decode cX5_timeOfGroup 25 = .ok (.aload_n 0, 1) := by decide +kernel
theorem dX5_timeOfGroup_26 : decode cX5_timeOfGroup 26 = .ok (.getfield 91, 3) := by decide +kernel
theorem dX5_timeOfGroup_29 : decode cX5_timeOfGroup 29 = .ok (.ifCond .ne 12, 3) := by decide +kernel
theorem dX5_timeOfGroup_32 : decode cX5_timeOfGroup 32 = .ok (.aload_n 0, 1) := by decide +kernel
theorem dX5_timeOfGroup_33 : decode cX5_timeOfGroup 33 = .ok (.getfield 29, 3) := by decide +kernel
theorem dX5_timeOfGroup_36 : decode cX5_timeOfGroup 36 = .ok (.iload_n 1, 1) := by decide +kernel
theorem dX5_timeOfGroup_37 : decode cX5_timeOfGroup 37 = .ok (.laload, 1) := by decide +kernel
theorem dX5_timeOfGroup_38 : decode cX5_timeOfGroup 38 = .ok (.goto 6, 3) := by decide +kernel
theorem dX5_timeOfGroup_41 : decode cX5_timeOfGroup 41 = .ok (.ldc2_w 115, 3) := by decide +kernel
theorem dX5_timeOfGroup_44 : decode cX5_timeOfGroup 44 = .ok (.lreturn, 1) := by decide +kernel
theorem dX5_doneBy_0 : decode cX5_doneBy 0 = .ok (.aload_n 0, 1) := by decide +kernel
theorem dX5_doneBy_1 : decode cX5_doneBy 1 = .ok (.iload_n 1, 1) := by decide +kernel
theorem dX5_doneBy_2 : decode cX5_doneBy 2 = .ok (.invokevirtual 162, 3) := by decide +kernel
theorem dX5_doneBy_5 : decode cX5_doneBy 5 = .ok (.ifCond .eq 12, 3) := by decide +kernel
theorem dX5_doneBy_8 : decode cX5_doneBy 8 = .ok (.aload_n 0, 1) := by decide +kernel
theorem dX5_doneBy_9 : decode cX5_doneBy 9 = .ok (.getfield 63, 3) := by decide +kernel
theorem dX5_doneBy_12 : decode cX5_doneBy 12 = .ok (.iload_n 1, 1) := by decide +kernel
theorem dX5_doneBy_13 : decode cX5_doneBy 13 = .ok (.iaload, 1) := by decide +kernel
theorem dX5_doneBy_14 : decode cX5_doneBy 14 = .ok (.goto 4, 3) := by decide +kernel
theorem dX5_doneBy_17 : decode cX5_doneBy 17 = .ok (.iconst (-1), 1) := by decide +kernel
theorem dX5_doneBy_18 : decode cX5_doneBy 18 = .ok (.ireturn, 1) := by decide +kernel
theorem dX5_isUnder_0 : decode cX5_isUnder 0 = .ok (.iload_n 1, 1) := by decide +kernel
theorem dX5_isUnder_1 : decode cX5_isUnder 1 = .ok (.istore_n 3, 1) := by decide +kernel
theorem dX5_isUnder_2 : decode cX5_isUnder 2 = .ok (.iload_n 3, 1) := by decide +kernel
theorem dX5_isUnder_3 : decode cX5_isUnder 3 = .ok (.iload_n 2, 1) := by decide +kernel
theorem dX5_isUnder_4 : decode cX5_isUnder 4 = .ok (.if_icmp .eq 17, 3) := by decide +kernel
theorem dX5_isUnder_7 : decode cX5_isUnder 7 = .ok (.iload_n 3, 1) := by decide +kernel
theorem dX5_isUnder_8 : decode cX5_isUnder 8 = .ok (.ifCond .eq 13, 3) := by decide +kernel
theorem dX5_isUnder_11 : decode cX5_isUnder 11 = .ok (.aload_n 0, 1) := by decide +kernel
theorem dX5_isUnder_12 : decode cX5_isUnder 12 = .ok (.getfield 23, 3) := by decide +kernel
theorem dX5_isUnder_15 : decode cX5_isUnder 15 = .ok (.iload_n 3, 1) := by decide +kernel
theorem dX5_isUnder_16 : decode cX5_isUnder 16 = .ok (.iaload, 1) := by decide +kernel
theorem dX5_isUnder_17 : decode cX5_isUnder 17 = .ok (.istore_n 3, 1) := by decide +kernel
theorem dX5_isUnder_18 : decode cX5_isUnder 18 = .ok (.goto (-16), 3) := by decide +kernel
theorem dX5_isUnder_21 : decode cX5_isUnder 21 = .ok (.iload_n 3, 1) := by decide +kernel
theorem dX5_isUnder_22 : decode cX5_isUnder 22 = .ok (.iload_n 2, 1) := by decide +kernel
theorem dX5_isUnder_23 : decode cX5_isUnder 23 = .ok (.if_icmp .ne 7, 3) := by decide +kernel
theorem dX5_isUnder_26 : decode cX5_isUnder 26 = .ok (.iconst 1, 1) := by decide +kernel
theorem dX5_isUnder_27 : decode cX5_isUnder 27 = .ok (.goto 4, 3) := by decide +kernel
theorem dX5_isUnder_30 : decode cX5_isUnder 30 = .ok (.iconst 0, 1) := by decide +kernel
theorem dX5_isUnder_31 : decode cX5_isUnder 31 = .ok (.ireturn, 1) := by decide +kernel
theorem dX5_doneIn_0 : decode cX5_doneIn 0 = .ok (.aload_n 0, 1) := by decide +kernel
theorem dX5_doneIn_1 : decode cX5_doneIn 1 = .ok (.aload_n 0, 1) := by decide +kernel
theorem dX5_doneIn_2 : decode cX5_doneIn 2 = .ok (.iload_n 1, 1) := by decide +kernel
theorem dX5_doneIn_3 : decode cX5_doneIn 3 = .ok (.invokevirtual 120, 3) := by decide +kernel
theorem dX5_doneIn_6 : decode cX5_doneIn 6 = .ok (.ifCond .eq 7, 3) := by decide +kernel
theorem dX5_doneIn_9 : decode cX5_doneIn 9 = .ok (.iconst 0, 1) := by decide +kernel
theorem dX5_doneIn_10 : decode cX5_doneIn 10 = .ok (.goto 4, 3) := by decide +kernel
theorem dX5_doneIn_13 : decode cX5_doneIn 13 = .ok (.iconst 1, 1) := by decide +kernel
theorem dX5_doneIn_14 : decode cX5_doneIn 14 = .ok (.putfield 91, 3) := by decide +kernel
theorem dX5_doneIn_17 : decode cX5_doneIn 17 = .ok (.aload_n 0, 1) := by decide +kernel
theorem dX5_doneIn_18 : decode cX5_doneIn 18 = .ok (.getfield 91, 3) := by decide +kernel
theorem dX5_doneIn_21 : decode cX5_doneIn 21 = .ok (.ifCond .ne 7, 3) := by decide +kernel
theorem dX5_doneIn_24 : decode cX5_doneIn 24 = .ok (.iconst 0, 1) := by decide +kernel
theorem dX5_doneIn_25 : decode cX5_doneIn 25 = .ok (.goto 4, 3) := by decide +kernel
theorem dX5_doneIn_28 : decode cX5_doneIn 28 = .ok (.iconst (-1), 1) := by decide +kernel
theorem dX5_doneIn_29 : decode cX5_doneIn 29 = .ok (.istore_n 2, 1) := by decide +kernel
theorem dX5_doneIn_30 : decode cX5_doneIn 30 = .ok (.iconst 0, 1) := by decide +kernel
theorem dX5_doneIn_31 : decode cX5_doneIn 31 = .ok (.istore_n 3, 1) := by decide +kernel
theorem dX5_doneIn_32 : decode cX5_doneIn 32 = .ok (.iload_n 3, 1) := by decide +kernel
theorem dX5_doneIn_33 : decode cX5_doneIn 33 = .ok (.aload_n 0, 1) := by decide +kernel
theorem dX5_doneIn_34 : decode cX5_doneIn 34 = .ok (.getfield 117, 3) := by decide +kernel
theorem dX5_doneIn_37 : decode cX5_doneIn 37 = .ok (.if_icmp .ge 43, 3) := by decide +kernel
theorem dX5_doneIn_40 : decode cX5_doneIn 40 = .ok (.aload_n 0, 1) := by decide +kernel
theorem dX5_doneIn_41 : decode cX5_doneIn 41 = .ok (.getfield 91, 3) := by decide +kernel
theorem dX5_doneIn_44 : decode cX5_doneIn 44 = .ok (.ifCond .ne 36, 3) := by decide +kernel
theorem dX5_doneIn_47 : decode cX5_doneIn 47 = .ok (.iload_n 2, 1) := by decide +kernel
theorem dX5_doneIn_48 : decode cX5_doneIn 48 = .ok (.aload_n 0, 1) := by decide +kernel
theorem dX5_doneIn_49 : decode cX5_doneIn 49 = .ok (.aload_n 0, 1) := by decide +kernel
theorem dX5_doneIn_50 : decode cX5_doneIn 50 = .ok (.getfield 36, 3) := by decide +kernel
theorem dX5_doneIn_53 : decode cX5_doneIn 53 = .ok (.iload_n 3, 1) := by decide +kernel
theorem dX5_doneIn_54 : decode cX5_doneIn 54 = .ok (.iaload, 1) := by decide +kernel
theorem dX5_doneIn_55 : decode cX5_doneIn 55 = .ok (.iload_n 1, 1) := by decide +kernel
theorem dX5_doneIn_56 : decode cX5_doneIn 56 = .ok (.invokevirtual 165, 3) := by decide +kernel
theorem dX5_doneIn_59 : decode cX5_doneIn 59 = .ok (.ifCond .eq 12, 3) := by decide +kernel
theorem dX5_doneIn_62 : decode cX5_doneIn 62 = .ok (.aload_n 0, 1) := by decide +kernel
theorem dX5_doneIn_63 : decode cX5_doneIn 63 = .ok (.getfield 63, 3) := by decide +kernel
theorem dX5_doneIn_66 : decode cX5_doneIn 66 = .ok (.iload_n 3, 1) := by decide +kernel
theorem dX5_doneIn_67 : decode cX5_doneIn 67 = .ok (.iaload, 1) := by decide +kernel
theorem dX5_doneIn_68 : decode cX5_doneIn 68 = .ok (.goto 4, 3) := by decide +kernel
theorem dX5_doneIn_71 : decode cX5_doneIn 71 = .ok (.iconst 0, 1) := by decide +kernel
theorem dX5_doneIn_72 : decode cX5_doneIn 72 = .ok (.iadd, 1) := by decide +kernel
theorem dX5_doneIn_73 : decode cX5_doneIn 73 = .ok (.istore_n 2, 1) := by decide +kernel
theorem dX5_doneIn_74 : decode cX5_doneIn 74 = .ok (.iinc 3 1, 3) := by decide +kernel
theorem dX5_doneIn_77 : decode cX5_doneIn 77 = .ok (.goto (-45), 3) := by decide +kernel
theorem dX5_doneIn_80 : decode cX5_doneIn 80 = .ok (.iload_n 2, 1) := by decide +kernel
theorem dX5_doneIn_81 : decode cX5_doneIn 81 = .ok (.ireturn, 1) := by decide +kernel
theorem dX5_admitted_0 : decode cX5_admitted 0 = .ok (.aload_n 0, 1) := by decide +kernel
theorem dX5_admitted_1 : decode cX5_admitted 1 = .ok (.iconst 0, 1) := by decide +kernel
theorem dX5_admitted_2 : decode cX5_admitted 2 = .ok (.putfield 91, 3) := by decide +kernel
theorem dX5_admitted_5 : decode cX5_admitted 5 = .ok (.aload_n 0, 1) := by decide +kernel
theorem dX5_admitted_6 : decode cX5_admitted 6 = .ok (.invokevirtual 148, 3) := by decide +kernel
theorem dX5_admitted_9 : decode cX5_admitted 9 = .ok (.ireturn, 1) := by decide +kernel
theorem dX5_promise_0 : decode cX5_promise 0 = .ok (.aload_n 0, 1) := by decide +kernel
theorem dX5_promise_1 : decode cX5_promise 1 = .ok (.iconst 0, 1) := by decide +kernel
theorem dX5_promise_2 : decode cX5_promise 2 = .ok (.putfield 91, 3) := by decide +kernel
theorem dX5_promise_5 : decode cX5_promise 5 = .ok (.aload_n 0, 1) := by decide +kernel
theorem dX5_promise_6 : decode cX5_promise 6 = .ok (.invokevirtual 152, 3) := by decide +kernel
theorem dX5_promise_9 : decode cX5_promise 9 = .ok (.ireturn, 1) := by decide +kernel
theorem dX5_deadlineOf_0 : decode cX5_deadlineOf 0 = .ok (.aload_n 0, 1) := by decide +kernel
theorem dX5_deadlineOf_1 : decode cX5_deadlineOf 1 = .ok (.aload_n 0, 1) := by decide +kernel
theorem dX5_deadlineOf_2 : decode cX5_deadlineOf 2 = .ok (.iload_n 1, 1) := by decide +kernel
theorem dX5_deadlineOf_3 : decode cX5_deadlineOf 3 = .ok (.invokevirtual 155, 3) := by decide +kernel
theorem dX5_deadlineOf_6 : decode cX5_deadlineOf 6 = .ok (.ifCond .ne 7, 3) := by decide +kernel
theorem dX5_deadlineOf_9 : decode cX5_deadlineOf 9 = .ok (.iconst 1, 1) := by decide +kernel
theorem dX5_deadlineOf_10 : decode cX5_deadlineOf 10 = .ok (.goto 17, 3) := by decide +kernel
theorem dX5_deadlineOf_13 : decode cX5_deadlineOf 13 = .ok (.aload_n 0, 1) := by decide +kernel
theorem dX5_deadlineOf_14 : decode cX5_deadlineOf 14 = .ok (.getfield 48, 3) := by decide +kernel
theorem dX5_deadlineOf_17 : decode cX5_deadlineOf 17 = .ok (.iload_n 1, 1) := by decide +kernel
theorem dX5_deadlineOf_18 : decode cX5_deadlineOf 18 = .ok (.iaload, 1) := by decide +kernel
theorem dX5_deadlineOf_19 : decode cX5_deadlineOf 19 = .ok (.ifCond .ne 7, 3) := by decide +kernel
theorem dX5_deadlineOf_22 : decode cX5_deadlineOf 22 = .ok (.iconst 2, 1) := by decide +kernel
theorem dX5_deadlineOf_23 : decode cX5_deadlineOf 23 = .ok (.goto 4, 3) := by decide +kernel
theorem dX5_deadlineOf_26 : decode cX5_deadlineOf 26 = .ok (.iconst 0, 1) := by decide +kernel
theorem dX5_deadlineOf_27 : decode cX5_deadlineOf 27 = .ok (.putfield 91, 3) := by decide +kernel
theorem dX5_deadlineOf_30 : decode cX5_deadlineOf 30 = .ok (.aload_n 0, 1) := by decide +kernel
theorem dX5_deadlineOf_31 : decode cX5_deadlineOf 31 = .ok (.getfield 91, 3) := by decide +kernel
theorem dX5_deadlineOf_34 : decode cX5_deadlineOf 34 = .ok (.ifCond .ne 12, 3) := by decide +kernel
theorem dX5_deadlineOf_37 : decode cX5_deadlineOf 37 = .ok (.aload_n 0, 1) := by decide +kernel
theorem dX5_deadlineOf_38 : decode cX5_deadlineOf 38 = .ok (.getfield 54, 3) := by decide +kernel
theorem dX5_deadlineOf_41 : decode cX5_deadlineOf 41 = .ok (.iload_n 1, 1) := by decide +kernel
theorem dX5_deadlineOf_42 : decode cX5_deadlineOf 42 = .ok (.iaload, 1) := by decide +kernel
theorem dX5_deadlineOf_43 : decode cX5_deadlineOf 43 = .ok (.goto 4, 3) := by decide +kernel
theorem dX5_deadlineOf_46 : decode cX5_deadlineOf 46 = .ok (.iconst (-1), 1) := by decide +kernel
theorem dX5_deadlineOf_47 : decode cX5_deadlineOf 47 = .ok (.ireturn, 1) := by decide +kernel
theorem dX5_findsUrgencies_0 : decode cX5_findsUrgencies 0 = .ok (.iconst 0, 1) := by decide +kernel
theorem dX5_findsUrgencies_1 : decode cX5_findsUrgencies 1 = .ok (.istore_n 1, 1) := by decide +kernel
theorem dX5_findsUrgencies_2 : decode cX5_findsUrgencies 2 = .ok (.iload_n 1, 1) := by decide +kernel
theorem dX5_findsUrgencies_3 : decode cX5_findsUrgencies 3 = .ok (.aload_n 0, 1) := by decide +kernel
theorem dX5_findsUrgencies_4 : decode cX5_findsUrgencies 4 = .ok (.getfield 117, 3) := by decide +kernel
theorem dX5_findsUrgencies_7 : decode cX5_findsUrgencies 7 = .ok (.if_icmp .ge 44, 3) := by decide +kernel
theorem dX5_findsUrgencies_10 : decode cX5_findsUrgencies 10 = .ok (.aload_n 0, 1) := by decide +kernel
theorem dX5_findsUrgencies_11 : decode cX5_findsUrgencies 11 = .ok (.getfield 85, 3) := by decide +kernel
theorem dX5_findsUrgencies_14 : decode cX5_findsUrgencies 14 = .ok (.iload_n 1, 1) := by decide +kernel
theorem dX5_findsUrgencies_15 : decode cX5_findsUrgencies 15 = .ok (.aload_n 0, 1) := by decide +kernel
theorem dX5_findsUrgencies_16 : decode cX5_findsUrgencies 16 = .ok (.getfield 48, 3) := by decide +kernel
theorem dX5_findsUrgencies_19 : decode cX5_findsUrgencies 19 = .ok (.iload_n 1, 1) := by decide +kernel
theorem dX5_findsUrgencies_20 : decode cX5_findsUrgencies 20 = .ok (.iaload, 1) := by decide +kernel
theorem dX5_findsUrgencies_21 : decode cX5_findsUrgencies 21 = .ok (.ifCond .le 21, 3) := by decide +kernel
theorem dX5_findsUrgencies_24 : decode cX5_findsUrgencies 24 = .ok (.aload_n 0, 1) := by decide +kernel
theorem dX5_findsUrgencies_25 : decode cX5_findsUrgencies 25 = .ok (.getfield 45, 3) := by decide +kernel
theorem dX5_findsUrgencies_28 : decode cX5_findsUrgencies 28 = .ok (.iload_n 1, 1) := by decide +kernel
theorem dX5_findsUrgencies_29 : decode cX5_findsUrgencies 29 = .ok (.iaload, 1) := by decide +kernel
theorem dX5_findsUrgencies_30 : decode cX5_findsUrgencies 30 = .ok (.ifCond .le 12, 3) := by decide +kernel
theorem dX5_findsUrgencies_33 : decode cX5_findsUrgencies 33 = .ok (.aload_n 0, 1) := by decide +kernel
theorem dX5_findsUrgencies_34 : decode cX5_findsUrgencies 34 = .ok (.getfield 54, 3) := by decide +kernel
theorem dX5_findsUrgencies_37 : decode cX5_findsUrgencies 37 = .ok (.iload_n 1, 1) := by decide +kernel
theorem dX5_findsUrgencies_38 : decode cX5_findsUrgencies 38 = .ok (.iaload, 1) := by decide +kernel
theorem dX5_findsUrgencies_39 : decode cX5_findsUrgencies 39 = .ok (.goto 5, 3) := by decide +kernel
theorem dX5_findsUrgencies_42 : decode cX5_findsUrgencies 42 = .ok (.ldc 169, 2) := by decide +kernel
theorem dX5_findsUrgencies_44 : decode cX5_findsUrgencies 44 = .ok (.iastore, 1) := by decide +kernel
theorem dX5_findsUrgencies_45 : decode cX5_findsUrgencies 45 = .ok (.iinc 1 1, 3) := by decide +kernel
theorem dX5_findsUrgencies_48 : decode cX5_findsUrgencies 48 = .ok (.goto (-46), 3) := by decide +kernel
theorem dX5_findsUrgencies_51 : decode cX5_findsUrgencies 51 = .ok (.iconst 0, 1) := by decide +kernel
theorem dX5_findsUrgencies_52 : decode cX5_findsUrgencies 52 = .ok (.istore_n 1, 1) := by decide +kernel
theorem dX5_findsUrgencies_53 : decode cX5_findsUrgencies 53 = .ok (.iload_n 1, 1) := by decide +kernel
theorem dX5_findsUrgencies_54 : decode cX5_findsUrgencies 54 = .ok (.bipush 12, 2) := by decide +kernel
theorem dX5_findsUrgencies_56 : decode cX5_findsUrgencies 56 = .ok (.if_icmp .ge 83, 3) := by decide +kernel
theorem dX5_findsUrgencies_59 : decode cX5_findsUrgencies 59 = .ok (.iconst 0, 1) := by decide +kernel
theorem dX5_findsUrgencies_60 : decode cX5_findsUrgencies 60 = .ok (.istore_n 2, 1) := by decide +kernel
theorem dX5_findsUrgencies_61 : decode cX5_findsUrgencies 61 = .ok (.iload_n 2, 1) := by decide +kernel
theorem dX5_findsUrgencies_62 : decode cX5_findsUrgencies 62 = .ok (.aload_n 0, 1) := by decide +kernel
theorem dX5_findsUrgencies_63 : decode cX5_findsUrgencies 63 = .ok (.getfield 117, 3) := by decide +kernel
theorem dX5_findsUrgencies_66 : decode cX5_findsUrgencies 66 = .ok (.if_icmp .ge 67, 3) := by decide +kernel
theorem dX5_findsUrgencies_69 : decode cX5_findsUrgencies 69 = .ok (.aload_n 0, 1) := by decide +kernel
theorem dX5_findsUrgencies_70 : decode cX5_findsUrgencies 70 = .ok (.getfield 73, 3) := by decide +kernel
theorem dX5_findsUrgencies_73 : decode cX5_findsUrgencies 73 = .ok (.iload_n 2, 1) := by decide +kernel
theorem dX5_findsUrgencies_74 : decode cX5_findsUrgencies 74 = .ok (.iaload, 1) := by decide +kernel
theorem dX5_findsUrgencies_75 : decode cX5_findsUrgencies 75 = .ok (.iconst (-1), 1) := by decide +kernel
theorem dX5_findsUrgencies_76 : decode cX5_findsUrgencies 76 = .ok (.if_icmp .ne 7, 3) := by decide +kernel
theorem dX5_findsUrgencies_79 : decode cX5_findsUrgencies 79 = .ok (.iconst (-1), 1) := by decide +kernel
theorem dX5_findsUrgencies_80 : decode cX5_findsUrgencies 80 = .ok (.goto 14, 3) := by decide +kernel
theorem dX5_findsUrgencies_83 : decode cX5_findsUrgencies 83 = .ok (.aload_n 0, 1) := by decide +kernel
theorem dX5_findsUrgencies_84 : decode cX5_findsUrgencies 84 = .ok (.getfield 79, 3) := by decide +kernel
theorem dX5_findsUrgencies_87 : decode cX5_findsUrgencies 87 = .ok (.aload_n 0, 1) := by decide +kernel
theorem dX5_findsUrgencies_88 : decode cX5_findsUrgencies 88 = .ok (.getfield 73, 3) := by decide +kernel
theorem dX5_findsUrgencies_91 : decode cX5_findsUrgencies 91 = .ok (.iload_n 2, 1) := by decide +kernel
theorem dX5_findsUrgencies_92 : decode cX5_findsUrgencies 92 = .ok (.iaload, 1) := by decide +kernel
theorem dX5_findsUrgencies_93 : decode cX5_findsUrgencies 93 = .ok (.iaload, 1) := by decide +kernel
theorem dX5_findsUrgencies_94 : decode cX5_findsUrgencies 94 = .ok (.istore_n 3, 1) := by decide +kernel
theorem dX5_findsUrgencies_95 : decode cX5_findsUrgencies 95 = .ok (.iload_n 3, 1) := by decide +kernel
theorem dX5_findsUrgencies_96 : decode cX5_findsUrgencies 96 = .ok (.iconst (-1), 1) := by decide +kernel
theorem dX5_findsUrgencies_97 : decode cX5_findsUrgencies 97 = .ok (.if_icmp .eq 30, 3) := by decide +kernel
theorem dX5_findsUrgencies_100 : decode cX5_findsUrgencies 100 = .ok (.aload_n 0, 1) := by decide +kernel
theorem dX5_findsUrgencies_101 : decode cX5_findsUrgencies 101 = .ok (.getfield 85, 3) := by decide +kernel
theorem dX5_findsUrgencies_104 : decode cX5_findsUrgencies 104 = .ok (.iload_n 2, 1) := by decide +kernel
theorem dX5_findsUrgencies_105 : decode cX5_findsUrgencies 105 = .ok (.iaload, 1) := by decide +kernel
theorem dX5_findsUrgencies_106 : decode cX5_findsUrgencies 106 = .ok (.aload_n 0, 1) := by decide +kernel
theorem dX5_findsUrgencies_107 : decode cX5_findsUrgencies 107 = .ok (.getfield 85, 3) := by decide +kernel
theorem dX5_findsUrgencies_110 : decode cX5_findsUrgencies 110 = .ok (.iload_n 3, 1) := by decide +kernel
theorem dX5_findsUrgencies_111 : decode cX5_findsUrgencies 111 = .ok (.iaload, 1) := by decide +kernel
theorem dX5_findsUrgencies_112 : decode cX5_findsUrgencies 112 = .ok (.if_icmp .ge 15, 3) := by decide +kernel
theorem dX5_findsUrgencies_115 : decode cX5_findsUrgencies 115 = .ok (.aload_n 0, 1) := by decide +kernel
theorem dX5_findsUrgencies_116 : decode cX5_findsUrgencies 116 = .ok (.getfield 85, 3) := by decide +kernel
theorem dX5_findsUrgencies_119 : decode cX5_findsUrgencies 119 = .ok (.iload_n 3, 1) := by decide +kernel
theorem dX5_findsUrgencies_120 : decode cX5_findsUrgencies 120 = .ok (.aload_n 0, 1) := by decide +kernel
theorem dX5_findsUrgencies_121 : decode cX5_findsUrgencies 121 = .ok (.getfield 85, 3) := by decide +kernel
theorem dX5_findsUrgencies_124 : decode cX5_findsUrgencies 124 = .ok (.iload_n 2, 1) := by decide +kernel
theorem dX5_findsUrgencies_125 : decode cX5_findsUrgencies 125 = .ok (.iaload, 1) := by decide +kernel
theorem dX5_findsUrgencies_126 : decode cX5_findsUrgencies 126 = .ok (.iastore, 1) := by decide +kernel
theorem dX5_findsUrgencies_127 : decode cX5_findsUrgencies 127 = .ok (.iinc 2 1, 3) := by decide +kernel
theorem dX5_findsUrgencies_130 : decode cX5_findsUrgencies 130 = .ok (.goto (-69), 3) := by decide +kernel
theorem dX5_findsUrgencies_133 : decode cX5_findsUrgencies 133 = .ok (.iinc 1 1, 3) := by decide +kernel
theorem dX5_findsUrgencies_136 : decode cX5_findsUrgencies 136 = .ok (.goto (-83), 3) := by decide +kernel
theorem dX5_findsUrgencies_139 : decode cX5_findsUrgencies 139 = .ok (.return_, 1) := by decide +kernel
theorem dX5_urgencyOf_0 : decode cX5_urgencyOf 0 = .ok (.aload_n 0, 1) := by decide +kernel
theorem dX5_urgencyOf_1 : decode cX5_urgencyOf 1 = .ok (.invokevirtual 170, 3) := by decide +kernel
theorem dX5_urgencyOf_4 : decode cX5_urgencyOf 4 = .ok (.aload_n 0, 1) := by decide +kernel
theorem dX5_urgencyOf_5 : decode cX5_urgencyOf 5 = .ok (.aload_n 0, 1) := by decide +kernel
theorem dX5_urgencyOf_6 : decode cX5_urgencyOf 6 = .ok (.iload_n 1, 1) := by decide +kernel
theorem dX5_urgencyOf_7 : decode cX5_urgencyOf 7 = .ok (.invokevirtual 155, 3) := by decide +kernel
theorem dX5_urgencyOf_10 : decode cX5_urgencyOf 10 = .ok (.ifCond .eq 14, 3) := by decide +kernel
theorem dX5_urgencyOf_13 : decode cX5_urgencyOf 13 = .ok (.aload_n 0, 1) := by decide +kernel
theorem dX5_urgencyOf_14 : decode cX5_urgencyOf 14 = .ok (.getfield 85, 3) := by decide +kernel
theorem dX5_urgencyOf_17 : decode cX5_urgencyOf 17 = .ok (.iload_n 1, 1) := by decide +kernel
theorem dX5_urgencyOf_18 : decode cX5_urgencyOf 18 = .ok (.iaload, 1) := by decide +kernel
theorem dX5_urgencyOf_19 : decode cX5_urgencyOf 19 = .ok (.ldc 169, 2) := by decide +kernel
theorem dX5_urgencyOf_21 : decode cX5_urgencyOf 21 = .ok (.if_icmp .ne 7, 3) := by decide +kernel
theorem dX5_urgencyOf_24 : decode cX5_urgencyOf 24 = .ok (.iconst 1, 1) := by decide +kernel
theorem dX5_urgencyOf_25 : decode cX5_urgencyOf 25 = .ok (.goto 4, 3) := by decide +kernel
theorem dX5_urgencyOf_28 : decode cX5_urgencyOf 28 = .ok (.iconst 0, 1) := by decide +kernel
theorem dX5_urgencyOf_29 : decode cX5_urgencyOf 29 = .ok (.putfield 91, 3) := by decide +kernel
theorem dX5_urgencyOf_32 : decode cX5_urgencyOf 32 = .ok (.aload_n 0, 1) := by decide +kernel
theorem dX5_urgencyOf_33 : decode cX5_urgencyOf 33 = .ok (.getfield 91, 3) := by decide +kernel
theorem dX5_urgencyOf_36 : decode cX5_urgencyOf 36 = .ok (.ifCond .ne 12, 3) := by decide +kernel
theorem dX5_urgencyOf_39 : decode cX5_urgencyOf 39 = .ok (.aload_n 0, 1) := by decide +kernel
theorem dX5_urgencyOf_40 : decode cX5_urgencyOf 40 = .ok (.getfield 85, 3) := by decide +kernel
theorem dX5_urgencyOf_43 : decode cX5_urgencyOf 43 = .ok (.iload_n 1, 1) := by decide +kernel
theorem dX5_urgencyOf_44 : decode cX5_urgencyOf 44 = .ok (.iaload, 1) := by decide +kernel
theorem dX5_urgencyOf_45 : decode cX5_urgencyOf 45 = .ok (.goto 4, 3) := by decide +kernel
theorem dX5_urgencyOf_48 : decode cX5_urgencyOf 48 = .ok (.iconst (-1), 1) := by decide +kernel
theorem dX5_urgencyOf_49 : decode cX5_urgencyOf 49 = .ok (.ireturn, 1) := by decide +kernel
theorem dX5_missesOf_0 : decode cX5_missesOf 0 = .ok (.aload_n 0, 1) := by decide +kernel
theorem dX5_missesOf_1 : decode cX5_missesOf 1 = .ok (.iload_n 1, 1) := by decide +kernel
theorem dX5_missesOf_2 : decode cX5_missesOf 2 = .ok (.invokevirtual 162, 3) := by decide +kernel
theorem dX5_missesOf_5 : decode cX5_missesOf 5 = .ok (.ifCond .eq 12, 3) := by decide +kernel
theorem dX5_missesOf_8 : decode cX5_missesOf 8 = .ok (.aload_n 0, 1) := by decide +kernel
theorem dX5_missesOf_9 : decode cX5_missesOf 9 = .ok (.getfield 60, 3) := by decide +kernel
theorem dX5_missesOf_12 : decode cX5_missesOf 12 = .ok (.iload_n 1, 1) := by decide +kernel
theorem dX5_missesOf_13 : decode cX5_missesOf 13 = .ok (.iaload, 1) := by decide +kernel
theorem dX5_missesOf_14 : decode cX5_missesOf 14 = .ok (.goto 4, 3) := by decide +kernel
theorem dX5_missesOf_17 : decode cX5_missesOf 17 = .ok (.iconst (-1), 1) := by decide +kernel
theorem dX5_missesOf_18 : decode cX5_missesOf 18 = .ok (.ireturn, 1) := by decide +kernel
theorem dX5_misses_0 : decode cX5_misses 0 = .ok (.aload_n 0, 1) := by decide +kernel
theorem dX5_misses_1 : decode cX5_misses 1 = .ok (.iconst 0, 1) := by decide +kernel
theorem dX5_misses_2 : decode cX5_misses 2 = .ok (.putfield 91, 3) := by decide +kernel
theorem dX5_misses_5 : decode cX5_misses 5 = .ok (.iconst 0, 1) := by decide +kernel
theorem dX5_misses_6 : decode cX5_misses 6 = .ok (.istore_n 1, 1) := by decide +kernel
theorem dX5_misses_7 : decode cX5_misses 7 = .ok (.iconst 0, 1) := by decide +kernel
theorem dX5_misses_8 : decode cX5_misses 8 = .ok (.istore_n 2, 1) := by decide +kernel
theorem dX5_misses_9 : decode cX5_misses 9 = .ok (.iload_n 2, 1) := by decide +kernel
theorem dX5_misses_10 : decode cX5_misses 10 = .ok (.aload_n 0, 1) := by decide +kernel
theorem dX5_misses_11 : decode cX5_misses 11 = .ok (.getfield 117, 3) := by decide +kernel
theorem dX5_misses_14 : decode cX5_misses 14 = .ok (.if_icmp .ge 18, 3) := by decide +kernel
theorem dX5_misses_17 : decode cX5_misses 17 = .ok (.iload_n 1, 1) := by decide +kernel
theorem dX5_misses_18 : decode cX5_misses 18 = .ok (.aload_n 0, 1) := by decide +kernel
theorem dX5_misses_19 : decode cX5_misses 19 = .ok (.getfield 60, 3) := by decide +kernel
theorem dX5_misses_22 : decode cX5_misses 22 = .ok (.iload_n 2, 1) := by decide +kernel
theorem dX5_misses_23 : decode cX5_misses 23 = .ok (.iaload, 1) := by decide +kernel
theorem dX5_misses_24 : decode cX5_misses 24 = .ok (.iadd, 1) := by decide +kernel
theorem dX5_misses_25 : decode cX5_misses 25 = .ok (.istore_n 1, 1) := by decide +kernel
theorem dX5_misses_26 : decode cX5_misses 26 = .ok (.iinc 2 1, 3) := by decide +kernel
theorem dX5_misses_29 : decode cX5_misses 29 = .ok (.goto (-20), 3) := by decide +kernel
theorem dX5_misses_32 : decode cX5_misses 32 = .ok (.iload_n 1, 1) := by decide +kernel
theorem dX5_misses_33 : decode cX5_misses 33 = .ok (.ireturn, 1) := by decide +kernel
theorem dX5_isLock_0 : decode cX5_isLock 0 = .ok (.iload_n 0, 1) := by decide +kernel
theorem dX5_isLock_1 : decode cX5_isLock 1 = .ok (.i2l, 1) := by decide +kernel
theorem dX5_isLock_2 : decode cX5_isLock 2 = .ok (.lconst 0, 1) := by decide +kernel
theorem dX5_isLock_3 : decode cX5_isLock 3 = .ok (.ldc2_w 173, 3) := by decide +kernel
theorem dX5_isLock_6 : decode cX5_isLock 6 = .ok (.invokestatic 96, 3) := by decide +kernel
theorem dX5_isLock_9 : decode cX5_isLock 9 = .ok (.ireturn, 1) := by decide +kernel
theorem dX5_waiter_0 : decode cX5_waiter 0 = .ok (.iconst 0, 1) := by decide +kernel
theorem dX5_waiter_1 : decode cX5_waiter 1 = .ok (.istore_n 3, 1) := by decide +kernel
theorem dX5_waiter_2 : decode cX5_waiter 2 = .ok (.iload_n 3, 1) := by decide +kernel
theorem dX5_waiter_3 : decode cX5_waiter 3 = .ok (.aload_n 0, 1) := by decide +kernel
theorem dX5_waiter_4 : decode cX5_waiter 4 = .ok (.getfield 117, 3) := by decide +kernel
theorem dX5_waiter_7 : decode cX5_waiter 7 = .ok (.if_icmp .ge 85, 3) := by decide +kernel
theorem dX5_waiter_10 : decode cX5_waiter 10 = .ok (.iconst 0, 1) := by decide +kernel
theorem dX5_waiter_11 : decode cX5_waiter 11 = .ok (.istore 4, 2) := by decide +kernel
theorem dX5_waiter_13 : decode cX5_waiter 13 = .ok (.iconst 0, 1) := by decide +kernel
theorem dX5_waiter_14 : decode cX5_waiter 14 = .ok (.istore 5, 2) := by decide +kernel
theorem dX5_waiter_16 : decode cX5_waiter 16 = .ok (.iload 5, 2) := by decide +kernel
theorem dX5_waiter_18 : decode cX5_waiter 18 = .ok (.aload_n 0, 1) := by decide +kernel
theorem dX5_waiter_19 : decode cX5_waiter 19 = .ok (.getfield 117, 3) := by decide +kernel
theorem dX5_waiter_22 : decode cX5_waiter 22 = .ok (.if_icmp .ge 46, 3) := by decide +kernel
theorem dX5_waiter_25 : decode cX5_waiter 25 = .ok (.iload 4, 2) := by decide +kernel
theorem dX5_waiter_27 : decode cX5_waiter 27 = .ok (.aload_n 0, 1) := by decide +kernel
theorem dX5_waiter_28 : decode cX5_waiter 28 = .ok (.getfield 73, 3) := by decide +kernel
theorem dX5_waiter_31 : decode cX5_waiter 31 = .ok (.iload 5, 2) := by decide +kernel
theorem dX5_waiter_33 : decode cX5_waiter 33 = .ok (.iaload, 1) := by decide +kernel
theorem dX5_waiter_34 : decode cX5_waiter 34 = .ok (.iload_n 1, 1) := by decide +kernel
theorem dX5_waiter_35 : decode cX5_waiter 35 = .ok (.if_icmp .ne 23, 3) := by decide +kernel
theorem dX5_waiter_38 : decode cX5_waiter 38 = .ok (.aload_n 0, 1) := by decide +kernel
theorem dX5_waiter_39 : decode cX5_waiter 39 = .ok (.getfield 76, 3) := by decide +kernel
theorem dX5_waiter_42 : decode cX5_waiter 42 = .ok (.iload 5, 2) := by decide +kernel
theorem dX5_waiter_44 : decode cX5_waiter 44 = .ok (.iaload, 1) := by decide +kernel
theorem dX5_waiter_45 : decode cX5_waiter 45 = .ok (.aload_n 0, 1) := by decide +kernel
theorem dX5_waiter_46 : decode cX5_waiter 46 = .ok (.getfield 76, 3) := by decide +kernel
theorem dX5_waiter_49 : decode cX5_waiter 49 = .ok (.iload_n 3, 1) := by decide +kernel
theorem dX5_waiter_50 : decode cX5_waiter 50 = .ok (.iaload, 1) := by decide +kernel
theorem dX5_waiter_51 : decode cX5_waiter 51 = .ok (.if_icmp .ge 7, 3) := by decide +kernel
theorem dX5_waiter_54 : decode cX5_waiter 54 = .ok (.iconst 1, 1) := by decide +kernel
theorem dX5_waiter_55 : decode cX5_waiter 55 = .ok (.goto 4, 3) := by decide +kernel
theorem dX5_waiter_58 : decode cX5_waiter 58 = .ok (.iconst 0, 1) := by decide +kernel
theorem dX5_waiter_59 : decode cX5_waiter 59 = .ok (.iadd, 1) := by decide +kernel
theorem dX5_waiter_60 : decode cX5_waiter 60 = .ok (.istore 4, 2) := by decide +kernel
theorem dX5_waiter_62 : decode cX5_waiter 62 = .ok (.iinc 5 1, 3) := by decide +kernel
theorem dX5_waiter_65 : decode cX5_waiter 65 = .ok (.goto (-49), 3) := by decide +kernel
theorem dX5_waiter_68 : decode cX5_waiter 68 = .ok (.aload_n 0, 1) := by decide +kernel
theorem dX5_waiter_69 : decode cX5_waiter 69 = .ok (.getfield 73, 3) := by decide +kernel
theorem dX5_waiter_72 : decode cX5_waiter 72 = .ok (.iload_n 3, 1) := by decide +kernel
theorem dX5_waiter_73 : decode cX5_waiter 73 = .ok (.iaload, 1) := by decide +kernel
theorem dX5_waiter_74 : decode cX5_waiter 74 = .ok (.iload_n 1, 1) := by decide +kernel
theorem dX5_waiter_75 : decode cX5_waiter 75 = .ok (.if_icmp .ne 11, 3) := by decide +kernel
theorem dX5_waiter_78 : decode cX5_waiter 78 = .ok (.iload 4, 2) := by decide +kernel
theorem dX5_waiter_80 : decode cX5_waiter 80 = .ok (.iload_n 2, 1) := by decide +kernel
theorem dX5_waiter_81 : decode cX5_waiter 81 = .ok (.if_icmp .ne 5, 3) := by decide +kernel
theorem dX5_waiter_84 : decode cX5_waiter 84 = .ok (.iload_n 3, 1) := by decide +kernel
theorem dX5_waiter_85 : decode cX5_waiter 85 = .ok (.ireturn, 1) := by decide +kernel
theorem dX5_waiter_86 : decode cX5_waiter 86 = .ok (.iinc 3 1, 3) := by decide +kernel
theorem dX5_waiter_89 : decode cX5_waiter 89 = .ok (.goto (-87), 3) := by decide +kernel
theorem dX5_waiter_92 : decode cX5_waiter 92 = .ok (.iconst (-1), 1) := by decide +kernel
theorem dX5_waiter_93 : decode cX5_waiter 93 = .ok (.ireturn, 1) := by decide +kernel
theorem dX5_passesOn_0 : decode cX5_passesOn 0 = .ok (.aload_n 0, 1) := by decide +kernel
theorem dX5_passesOn_1 : decode cX5_passesOn 1 = .ok (.iload_n 1, 1) := by decide +kernel
theorem dX5_passesOn_2 : decode cX5_passesOn 2 = .ok (.iconst 0, 1) := by decide +kernel
theorem dX5_passesOn_3 : decode cX5_passesOn 3 = .ok (.invokevirtual 175, 3) := by decide +kernel
theorem dX5_passesOn_6 : decode cX5_passesOn 6 = .ok (.istore_n 2, 1) := by decide +kernel
theorem dX5_passesOn_7 : decode cX5_passesOn 7 = .ok (.aload_n 0, 1) := by decide +kernel
theorem dX5_passesOn_8 : decode cX5_passesOn 8 = .ok (.getfield 79, 3) := by decide +kernel
theorem dX5_passesOn_11 : decode cX5_passesOn 11 = .ok (.iload_n 1, 1) := by decide +kernel
theorem dX5_passesOn_12 : decode cX5_passesOn 12 = .ok (.iload_n 2, 1) := by decide +kernel
theorem dX5_passesOn_13 : decode cX5_passesOn 13 = .ok (.iastore, 1) := by decide +kernel
theorem dX5_passesOn_14 : decode cX5_passesOn 14 = .ok (.iload_n 2, 1) := by decide +kernel
theorem dX5_passesOn_15 : decode cX5_passesOn 15 = .ok (.iconst (-1), 1) := by decide +kernel
theorem dX5_passesOn_16 : decode cX5_passesOn 16 = .ok (.if_icmp .eq 10, 3) := by decide +kernel
theorem dX5_passesOn_19 : decode cX5_passesOn 19 = .ok (.aload_n 0, 1) := by decide +kernel
theorem dX5_passesOn_20 : decode cX5_passesOn 20 = .ok (.getfield 73, 3) := by decide +kernel
theorem dX5_passesOn_23 : decode cX5_passesOn 23 = .ok (.iload_n 2, 1) := by decide +kernel
theorem dX5_passesOn_24 : decode cX5_passesOn 24 = .ok (.iconst (-1), 1) := by decide +kernel
theorem dX5_passesOn_25 : decode cX5_passesOn 25 = .ok (.iastore, 1) := by decide +kernel
theorem dX5_passesOn_26 : decode cX5_passesOn 26 = .ok (.return_, 1) := by decide +kernel
theorem dX5_closesRing_0 : decode cX5_closesRing 0 = .ok (.aload_n 0, 1) := by decide +kernel
theorem dX5_closesRing_1 : decode cX5_closesRing 1 = .ok (.getfield 79, 3) := by decide +kernel
theorem dX5_closesRing_4 : decode cX5_closesRing 4 = .ok (.iload_n 2, 1) := by decide +kernel
theorem dX5_closesRing_5 : decode cX5_closesRing 5 = .ok (.iaload, 1) := by decide +kernel
theorem dX5_closesRing_6 : decode cX5_closesRing 6 = .ok (.istore_n 3, 1) := by decide +kernel
theorem dX5_closesRing_7 : decode cX5_closesRing 7 = .ok (.iconst 0, 1) := by decide +kernel
theorem dX5_closesRing_8 : decode cX5_closesRing 8 = .ok (.istore 4, 2) := by decide +kernel
theorem dX5_closesRing_10 : decode cX5_closesRing 10 = .ok (.iconst 0, 1) := by decide +kernel
theorem dX5_closesRing_11 : decode cX5_closesRing 11 = .ok (.istore 5, 2) := by decide +kernel
theorem dX5_closesRing_13 : decode cX5_closesRing 13 = .ok (.iload 5, 2) := by decide +kernel
theorem dX5_closesRing_15 : decode cX5_closesRing 15 = .ok (.bipush 12, 2) := by decide +kernel
theorem dX5_closesRing_17 : decode cX5_closesRing 17 = .ok (.if_icmp .ge 57, 3) := by decide +kernel
theorem dX5_closesRing_20 : decode cX5_closesRing 20 = .ok (.iload_n 3, 1) := by decide +kernel
theorem dX5_closesRing_21 : decode cX5_closesRing 21 = .ok (.iconst (-1), 1) := by decide +kernel
theorem dX5_closesRing_22 : decode cX5_closesRing 22 = .ok (.if_icmp .eq 52, 3) := by decide +kernel
theorem dX5_closesRing_25 : decode cX5_closesRing 25 = .ok (.iload 4, 2) := by decide +kernel
theorem dX5_closesRing_27 : decode cX5_closesRing 27 = .ok (.ifCond .ne 8, 3) := by decide +kernel
theorem dX5_closesRing_30 : decode cX5_closesRing 30 = .ok (.iload_n 3, 1) := by decide +kernel
theorem dX5_closesRing_31 : decode cX5_closesRing 31 = .ok (.iload_n 1, 1) := by decide +kernel
theorem dX5_closesRing_32 : decode cX5_closesRing 32 = .ok (.if_icmp .ne 7, 3) := by decide +kernel
theorem dX5_closesRing_35 : decode cX5_closesRing 35 = .ok (.iconst 1, 1) := by decide +kernel
theorem dX5_closesRing_36 : decode cX5_closesRing 36 = .ok (.goto 4, 3) := by decide +kernel
theorem dX5_closesRing_39 : decode cX5_closesRing 39 = .ok (.iconst 0, 1) := by decide +kernel
theorem dX5_closesRing_40 : decode cX5_closesRing 40 = .ok (.istore 4, 2) := by decide +kernel
theorem dX5_closesRing_42 : decode cX5_closesRing 42 = .ok (.aload_n 0, 1) := by decide +kernel
theorem dX5_closesRing_43 : decode cX5_closesRing 43 = .ok (.getfield 73, 3) := by decide +kernel
theorem dX5_closesRing_46 : decode cX5_closesRing 46 = .ok (.iload_n 3, 1) := by decide +kernel
theorem dX5_closesRing_47 : decode cX5_closesRing 47 = .ok (.iaload, 1) := by decide +kernel
theorem dX5_closesRing_48 : decode cX5_closesRing 48 = .ok (.iconst (-1), 1) := by decide +kernel
theorem dX5_closesRing_49 : decode cX5_closesRing 49 = .ok (.if_icmp .ne 7, 3) := by decide +kernel
theorem dX5_closesRing_52 : decode cX5_closesRing 52 = .ok (.iconst (-1), 1) := by decide +kernel
theorem dX5_closesRing_53 : decode cX5_closesRing 53 = .ok (.goto 14, 3) := by decide +kernel
theorem dX5_closesRing_56 : decode cX5_closesRing 56 = .ok (.aload_n 0, 1) := by decide +kernel
theorem dX5_closesRing_57 : decode cX5_closesRing 57 = .ok (.getfield 79, 3) := by decide +kernel
theorem dX5_closesRing_60 : decode cX5_closesRing 60 = .ok (.aload_n 0, 1) := by decide +kernel
theorem dX5_closesRing_61 : decode cX5_closesRing 61 = .ok (.getfield 73, 3) := by decide +kernel
theorem dX5_closesRing_64 : decode cX5_closesRing 64 = .ok (.iload_n 3, 1) := by decide +kernel
theorem dX5_closesRing_65 : decode cX5_closesRing 65 = .ok (.iaload, 1) := by decide +kernel
theorem dX5_closesRing_66 : decode cX5_closesRing 66 = .ok (.iaload, 1) := by decide +kernel
theorem dX5_closesRing_67 : decode cX5_closesRing 67 = .ok (.istore_n 3, 1) := by decide +kernel
theorem dX5_closesRing_68 : decode cX5_closesRing 68 = .ok (.iinc 5 1, 3) := by decide +kernel
theorem dX5_closesRing_71 : decode cX5_closesRing 71 = .ok (.goto (-58), 3) := by decide +kernel
theorem dX5_closesRing_74 : decode cX5_closesRing 74 = .ok (.iload 4, 2) := by decide +kernel
theorem dX5_closesRing_76 : decode cX5_closesRing 76 = .ok (.ireturn, 1) := by decide +kernel
theorem dX5_take_0 : decode cX5_take 0 = .ok (.aload_n 0, 1) := by decide +kernel
theorem dX5_take_1 : decode cX5_take 1 = .ok (.iload_n 1, 1) := by decide +kernel
theorem dX5_take_2 : decode cX5_take 2 = .ok (.invokevirtual 155, 3) := by decide +kernel
theorem dX5_take_5 : decode cX5_take 5 = .ok (.ifCond .eq 10, 3) := by decide +kernel
theorem dX5_take_8 : decode cX5_take 8 = .ok (.iload_n 2, 1) := by decide +kernel
theorem dX5_take_9 : decode cX5_take 9 = .ok (.invokestatic 178, 3) := by decide +kernel
theorem dX5_take_12 : decode cX5_take 12 = .ok (.ifCond .ne 22, 3) := by decide +kernel
theorem dX5_take_15 : decode cX5_take 15 = .ok (.aload_n 0, 1) := by decide +kernel
theorem dX5_take_16 : decode cX5_take 16 = .ok (.aload_n 0, 1) := by decide +kernel
theorem dX5_take_17 : decode cX5_take 17 = .ok (.iload_n 1, 1) := by decide +kernel
theorem dX5_take_18 : decode cX5_take 18 = .ok (.invokevirtual 155, 3) := by decide +kernel
theorem dX5_take_21 : decode cX5_take 21 = .ok (.ifCond .ne 7, 3) := by decide +kernel
theorem dX5_take_24 : decode cX5_take 24 = .ok (.iconst 1, 1) := by decide +kernel
theorem dX5_take_25 : decode cX5_take 25 = .ok (.goto 4, 3) := by decide +kernel
theorem dX5_take_28 : decode cX5_take 28 = .ok (.iconst 2, 1) := by decide +kernel
theorem dX5_take_29 : decode cX5_take 29 = .ok (.putfield 91, 3) := by decide +kernel
theorem dX5_take_32 : decode cX5_take 32 = .ok (.iconst 0, 1) := by decide +kernel
theorem dX5_take_33 : decode cX5_take 33 = .ok (.ireturn, 1) := by decide +kernel
theorem dX5_take_34 : decode cX5_take 34 = .ok (.aload_n 0, 1) := by decide +kernel
theorem dX5_take_35 : decode cX5_take 35 = .ok (.getfield 69, 3) := by decide +kernel
theorem dX5_take_38 : decode cX5_take 38 = .ok (.iload_n 1, 1) := by decide +kernel
theorem dX5_take_39 : decode cX5_take 39 = .ok (.baload, 1) := by decide +kernel
theorem dX5_take_40 : decode cX5_take 40 = .ok (.ifCond .ne 23, 3) := by decide +kernel
theorem dX5_take_43 : decode cX5_take 43 = .ok (.aload_n 0, 1) := by decide +kernel
theorem dX5_take_44 : decode cX5_take 44 = .ok (.getfield 73, 3) := by decide +kernel
theorem dX5_take_47 : decode cX5_take 47 = .ok (.iload_n 1, 1) := by decide +kernel
theorem dX5_take_48 : decode cX5_take 48 = .ok (.iaload, 1) := by decide +kernel
theorem dX5_take_49 : decode cX5_take 49 = .ok (.iconst (-1), 1) := by decide +kernel
theorem dX5_take_50 : decode cX5_take 50 = .ok (.if_icmp .ne 13, 3) := by decide +kernel
theorem dX5_take_53 : decode cX5_take 53 = .ok (.aload_n 0, 1) := by decide +kernel
theorem dX5_take_54 : decode cX5_take 54 = .ok (.getfield 79, 3) := by decide +kernel
theorem dX5_take_57 : decode cX5_take 57 = .ok (.iload_n 2, 1) := by decide +kernel
theorem dX5_take_58 : decode cX5_take 58 = .ok (.iaload, 1) := by decide +kernel
theorem dX5_take_59 : decode cX5_take 59 = .ok (.iload_n 1, 1) := by decide +kernel
theorem dX5_take_60 : decode cX5_take 60 = .ok (.if_icmp .ne 7, 3) := by decide +kernel
theorem dX5_take_63 : decode cX5_take 63 = .ok (.iconst 1, 1) := by decide +kernel
theorem dX5_take_64 : decode cX5_take 64 = .ok (.goto 4, 3) := by decide +kernel
theorem dX5_take_67 : decode cX5_take 67 = .ok (.iconst 0, 1) := by decide +kernel
theorem dX5_take_68 : decode cX5_take 68 = .ok (.istore_n 3, 1) := by decide +kernel
theorem dX5_take_69 : decode cX5_take 69 = .ok (.aload_n 0, 1) := by decide +kernel
theorem dX5_take_70 : decode cX5_take 70 = .ok (.iload_n 3, 1) := by decide +kernel
theorem dX5_take_71 : decode cX5_take 71 = .ok (.ifCond .eq 7, 3) := by decide +kernel
theorem dX5_take_74 : decode cX5_take 74 = .ok (.iconst 3, 1) := by decide +kernel
theorem dX5_take_75 : decode cX5_take 75 = .ok (.goto 17, 3) := by decide +kernel
theorem dX5_take_78 : decode cX5_take 78 = .ok (.aload_n 0, 1) := by decide +kernel
theorem dX5_take_79 : decode cX5_take 79 = .ok (.iload_n 1, 1) := by decide +kernel
theorem dX5_take_80 : decode cX5_take 80 = .ok (.iload_n 2, 1) := by decide +kernel
theorem dX5_take_81 : decode cX5_take 81 = .ok (.invokevirtual 181, 3) := by decide +kernel
theorem dX5_take_84 : decode cX5_take 84 = .ok (.ifCond .eq 7, 3) := by decide +kernel
theorem dX5_take_87 : decode cX5_take 87 = .ok (.iconst 4, 1) := by decide +kernel
theorem dX5_take_88 : decode cX5_take 88 = .ok (.goto 4, 3) := by decide +kernel
theorem dX5_take_91 : decode cX5_take 91 = .ok (.iconst 0, 1) := by decide +kernel
theorem dX5_take_92 : decode cX5_take 92 = .ok (.putfield 91, 3) := by decide +kernel
theorem dX5_take_95 : decode cX5_take 95 = .ok (.aload_n 0, 1) := by decide +kernel
theorem dX5_take_96 : decode cX5_take 96 = .ok (.getfield 91, 3) := by decide +kernel
theorem dX5_take_99 : decode cX5_take 99 = .ok (.ifCond .le 5, 3) := by decide +kernel
theorem dX5_take_102 : decode cX5_take 102 = .ok (.iconst 0, 1) := by decide +kernel
theorem dX5_take_103 : decode cX5_take 103 = .ok (.ireturn, 1) := by decide +kernel
theorem dX5_take_104 : decode cX5_take 104 = .ok (.aload_n 0, 1) := by decide +kernel
theorem dX5_take_105 : decode cX5_take 105 = .ok (.getfield 79, 3) := by decide +kernel
theorem dX5_take_108 : decode cX5_take 108 = .ok (.iload_n 2, 1) := by decide +kernel
theorem dX5_take_109 : decode cX5_take 109 = .ok (.iaload, 1) := by decide +kernel
theorem dX5_take_110 : decode cX5_take 110 = .ok (.iconst (-1), 1) := by decide +kernel
theorem dX5_take_111 : decode cX5_take 111 = .ok (.if_icmp .ne 12, 3) := by decide +kernel
theorem dX5_take_114 : decode cX5_take 114 = .ok (.aload_n 0, 1) := by decide +kernel
theorem dX5_take_115 : decode cX5_take 115 = .ok (.getfield 79, 3) := by decide +kernel
theorem dX5_take_118 : decode cX5_take 118 = .ok (.iload_n 2, 1) := by decide +kernel
theorem dX5_take_119 : decode cX5_take 119 = .ok (.iload_n 1, 1) := by decide +kernel
theorem dX5_take_120 : decode cX5_take 120 = .ok (.iastore, 1) := by decide +kernel
theorem dX5_take_121 : decode cX5_take 121 = .ok (.iconst 1, 1) := by decide +kernel
theorem dX5_take_122 : decode cX5_take 122 = .ok (.ireturn, 1) := by decide +kernel
theorem dX5_take_123 : decode cX5_take 123 = .ok (.aload_n 0, 1) := by decide +kernel
theorem dX5_take_124 : decode cX5_take 124 = .ok (.getfield 73, 3) := by decide +kernel
theorem dX5_take_127 : decode cX5_take 127 = .ok (.iload_n 1, 1) := by decide +kernel
theorem dX5_take_128 : decode cX5_take 128 = .ok (.iload_n 2, 1) := by decide +kernel
theorem dX5_take_129 : decode cX5_take 129 = .ok (.iastore, 1) := by decide +kernel
theorem dX5_take_130 : decode cX5_take 130 = .ok (.aload_n 0, 1) := by decide +kernel
theorem dX5_take_131 : decode cX5_take 131 = .ok (.getfield 76, 3) := by decide +kernel
theorem dX5_take_134 : decode cX5_take 134 = .ok (.iload_n 1, 1) := by decide +kernel
theorem dX5_take_135 : decode cX5_take 135 = .ok (.aload_n 0, 1) := by decide +kernel
theorem dX5_take_136 : decode cX5_take 136 = .ok (.getfield 184, 3) := by decide +kernel
theorem dX5_take_139 : decode cX5_take 139 = .ok (.iastore, 1) := by decide +kernel
theorem dX5_take_140 : decode cX5_take 140 = .ok (.aload_n 0, 1) := by decide +kernel
theorem dX5_take_141 : decode cX5_take 141 = .ok (.dup, 1) := by decide +kernel
theorem dX5_take_142 : decode cX5_take 142 = .ok (.getfield 184, 3) := by decide +kernel
theorem dX5_take_145 : decode cX5_take 145 = .ok (.iconst 1, 1) := by decide +kernel
theorem dX5_take_146 : decode cX5_take 146 = .ok (.iadd, 1) := by decide +kernel
theorem dX5_take_147 : decode cX5_take 147 = .ok (.putfield 184, 3) := by decide +kernel
theorem dX5_take_150 : decode cX5_take 150 = .ok (.iconst 0, 1) := by decide +kernel
theorem dX5_take_151 : decode cX5_take 151 = .ok (.ireturn, 1) := by decide +kernel
theorem dX5_release_0 : decode cX5_release 0 = .ok (.aload_n 0, 1) := by decide +kernel
theorem dX5_release_1 : decode cX5_release 1 = .ok (.iload_n 1, 1) := by decide +kernel
theorem dX5_release_2 : decode cX5_release 2 = .ok (.invokestatic 178, 3) := by decide +kernel
theorem dX5_release_5 : decode cX5_release 5 = .ok (.ifCond .ne 7, 3) := by decide +kernel
theorem dX5_release_8 : decode cX5_release 8 = .ok (.iconst 1, 1) := by decide +kernel
theorem dX5_release_9 : decode cX5_release 9 = .ok (.goto 18, 3) := by decide +kernel
theorem dX5_release_12 : decode cX5_release 12 = .ok (.aload_n 0, 1) := by decide +kernel
theorem dX5_release_13 : decode cX5_release 13 = .ok (.getfield 79, 3) := by decide +kernel
theorem dX5_release_16 : decode cX5_release 16 = .ok (.iload_n 1, 1) := by decide +kernel
theorem dX5_release_17 : decode cX5_release 17 = .ok (.iaload, 1) := by decide +kernel
theorem dX5_release_18 : decode cX5_release 18 = .ok (.iconst (-1), 1) := by decide +kernel
theorem dX5_release_19 : decode cX5_release 19 = .ok (.if_icmp .ne 7, 3) := by decide +kernel
theorem dX5_release_22 : decode cX5_release 22 = .ok (.iconst 2, 1) := by decide +kernel
theorem dX5_release_23 : decode cX5_release 23 = .ok (.goto 4, 3) := by decide +kernel
theorem dX5_release_26 : decode cX5_release 26 = .ok (.iconst 0, 1) := by decide +kernel
theorem dX5_release_27 : decode cX5_release 27 = .ok (.putfield 91, 3) := by decide +kernel
theorem dX5_release_30 : decode cX5_release 30 = .ok (.aload_n 0, 1) := by decide +kernel
theorem dX5_release_31 : decode cX5_release 31 = .ok (.getfield 91, 3) := by decide +kernel
theorem dX5_release_34 : decode cX5_release 34 = .ok (.ifCond .le 5, 3) := by decide +kernel
theorem dX5_release_37 : decode cX5_release 37 = .ok (.iconst (-1), 1) := by decide +kernel
theorem dX5_release_38 : decode cX5_release 38 = .ok (.ireturn, 1) := by decide +kernel
theorem dX5_release_39 : decode cX5_release 39 = .ok (.aload_n 0, 1) := by decide +kernel
theorem dX5_release_40 : decode cX5_release 40 = .ok (.iload_n 1, 1) := by decide +kernel
theorem dX5_release_41 : decode cX5_release 41 = .ok (.invokevirtual 158, 3) := by decide +kernel
theorem dX5_release_44 : decode cX5_release 44 = .ok (.aload_n 0, 1) := by decide +kernel
theorem dX5_release_45 : decode cX5_release 45 = .ok (.getfield 79, 3) := by decide +kernel
theorem dX5_release_48 : decode cX5_release 48 = .ok (.iload_n 1, 1) := by decide +kernel
theorem dX5_release_49 : decode cX5_release 49 = .ok (.iaload, 1) := by decide +kernel
theorem dX5_release_50 : decode cX5_release 50 = .ok (.ireturn, 1) := by decide +kernel
theorem dX5_holderOf_0 : decode cX5_holderOf 0 = .ok (.aload_n 0, 1) := by decide +kernel
theorem dX5_holderOf_1 : decode cX5_holderOf 1 = .ok (.iload_n 1, 1) := by decide +kernel
theorem dX5_holderOf_2 : decode cX5_holderOf 2 = .ok (.invokestatic 178, 3) := by decide +kernel
theorem dX5_holderOf_5 : decode cX5_holderOf 5 = .ok (.ifCond .eq 7, 3) := by decide +kernel
theorem dX5_holderOf_8 : decode cX5_holderOf 8 = .ok (.iconst 0, 1) := by decide +kernel
theorem dX5_holderOf_9 : decode cX5_holderOf 9 = .ok (.goto 4, 3) := by decide +kernel
theorem dX5_holderOf_12 : decode cX5_holderOf 12 = .ok (.iconst 1, 1) := by decide +kernel
theorem dX5_holderOf_13 : decode cX5_holderOf 13 = .ok (.putfield 91, 3) := by decide +kernel
theorem dX5_holderOf_16 : decode cX5_holderOf 16 = .ok (.aload_n 0, 1) := by decide +kernel
theorem dX5_holderOf_17 : decode cX5_holderOf 17 = .ok (.getfield 91, 3) := by decide +kernel
theorem dX5_holderOf_20 : decode cX5_holderOf 20 = .ok (.ifCond .ne 12, 3) := by decide +kernel
theorem dX5_holderOf_23 : decode cX5_holderOf 23 = .ok (.aload_n 0, 1) := by decide +kernel
theorem dX5_holderOf_24 : decode cX5_holderOf 24 = .ok (.getfield 79, 3) := by decide +kernel
theorem dX5_holderOf_27 : decode cX5_holderOf 27 = .ok (.iload_n 1, 1) := by decide +kernel
theorem dX5_holderOf_28 : decode cX5_holderOf 28 = .ok (.iaload, 1) := by decide +kernel
theorem dX5_holderOf_29 : decode cX5_holderOf 29 = .ok (.goto 4, 3) := by decide +kernel
theorem dX5_holderOf_32 : decode cX5_holderOf 32 = .ok (.iconst (-1), 1) := by decide +kernel
theorem dX5_holderOf_33 : decode cX5_holderOf 33 = .ok (.ireturn, 1) := by decide +kernel
theorem dX5_waiterAt_0 : decode cX5_waiterAt 0 = .ok (.aload_n 0, 1) := by decide +kernel
theorem dX5_waiterAt_1 : decode cX5_waiterAt 1 = .ok (.iload_n 1, 1) := by decide +kernel
theorem dX5_waiterAt_2 : decode cX5_waiterAt 2 = .ok (.invokestatic 178, 3) := by decide +kernel
theorem dX5_waiterAt_5 : decode cX5_waiterAt 5 = .ok (.ifCond .ne 7, 3) := by decide +kernel
theorem dX5_waiterAt_8 : decode cX5_waiterAt 8 = .ok (.iconst 1, 1) := by decide +kernel
theorem dX5_waiterAt_9 : decode cX5_waiterAt 9 = .ok (.goto 22, 3) := by decide +kernel
theorem dX5_waiterAt_12 : decode cX5_waiterAt 12 = .ok (.iload_n 2, 1) := by decide +kernel
theorem dX5_waiterAt_13 : decode cX5_waiterAt 13 = .ok (.ifCond .lt 13, 3) := by decide +kernel
theorem dX5_waiterAt_16 : decode cX5_waiterAt 16 = .ok (.aload_n 0, 1) := by decide +kernel
theorem dX5_waiterAt_17 : decode cX5_waiterAt 17 = .ok (.iload_n 1, 1) := by decide +kernel
theorem dX5_waiterAt_18 : decode cX5_waiterAt 18 = .ok (.iload_n 2, 1) := by decide +kernel
theorem dX5_waiterAt_19 : decode cX5_waiterAt 19 = .ok (.invokevirtual 175, 3) := by decide +kernel
theorem dX5_waiterAt_22 : decode cX5_waiterAt 22 = .ok (.iconst (-1), 1) := by decide +kernel
theorem dX5_waiterAt_23 : decode cX5_waiterAt 23 = .ok (.if_icmp .ne 7, 3) := by decide +kernel
theorem dX5_waiterAt_26 : decode cX5_waiterAt 26 = .ok (.iconst 2, 1) := by decide +kernel
theorem dX5_waiterAt_27 : decode cX5_waiterAt 27 = .ok (.goto 4, 3) := by decide +kernel
theorem dX5_waiterAt_30 : decode cX5_waiterAt 30 = .ok (.iconst 0, 1) := by decide +kernel
theorem dX5_waiterAt_31 : decode cX5_waiterAt 31 = .ok (.putfield 91, 3) := by decide +kernel
theorem dX5_waiterAt_34 : decode cX5_waiterAt 34 = .ok (.aload_n 0, 1) := by decide +kernel
theorem dX5_waiterAt_35 : decode cX5_waiterAt 35 = .ok (.getfield 91, 3) := by decide +kernel
theorem dX5_waiterAt_38 : decode cX5_waiterAt 38 = .ok (.ifCond .ne 12, 3) := by decide +kernel
theorem dX5_waiterAt_41 : decode cX5_waiterAt 41 = .ok (.aload_n 0, 1) := by decide +kernel
theorem dX5_waiterAt_42 : decode cX5_waiterAt 42 = .ok (.iload_n 1, 1) := by decide +kernel
theorem dX5_waiterAt_43 : decode cX5_waiterAt 43 = .ok (.iload_n 2, 1) := by decide +kernel
theorem dX5_waiterAt_44 : decode cX5_waiterAt 44 = .ok (.invokevirtual 175, 3) := by decide +kernel
theorem dX5_waiterAt_47 : decode cX5_waiterAt 47 = .ok (.goto 4, 3) := by decide +kernel
theorem dX5_waiterAt_50 : decode cX5_waiterAt 50 = .ok (.iconst (-1), 1) := by decide +kernel
theorem dX5_waiterAt_51 : decode cX5_waiterAt 51 = .ok (.ireturn, 1) := by decide +kernel
theorem dX5_hasUnder_0 : decode cX5_hasUnder 0 = .ok (.iconst 0, 1) := by decide +kernel
theorem dX5_hasUnder_1 : decode cX5_hasUnder 1 = .ok (.istore_n 2, 1) := by decide +kernel
theorem dX5_hasUnder_2 : decode cX5_hasUnder 2 = .ok (.iconst 0, 1) := by decide +kernel
theorem dX5_hasUnder_3 : decode cX5_hasUnder 3 = .ok (.istore_n 3, 1) := by decide +kernel
theorem dX5_hasUnder_4 : decode cX5_hasUnder 4 = .ok (.iload_n 3, 1) := by decide +kernel
theorem dX5_hasUnder_5 : decode cX5_hasUnder 5 = .ok (.aload_n 0, 1) := by decide +kernel
theorem dX5_hasUnder_6 : decode cX5_hasUnder 6 = .ok (.getfield 117, 3) := by decide +kernel
theorem dX5_hasUnder_9 : decode cX5_hasUnder 9 = .ok (.if_icmp .ge 42, 3) := by decide +kernel
theorem dX5_hasUnder_12 : decode cX5_hasUnder 12 = .ok (.iload_n 2, 1) := by decide +kernel
theorem dX5_hasUnder_13 : decode cX5_hasUnder 13 = .ok (.ifCond .ne 26, 3) := by decide +kernel
theorem dX5_hasUnder_16 : decode cX5_hasUnder 16 = .ok (.aload_n 0, 1) := by decide +kernel
theorem dX5_hasUnder_17 : decode cX5_hasUnder 17 = .ok (.getfield 88, 3) := by decide +kernel
theorem dX5_hasUnder_20 : decode cX5_hasUnder 20 = .ok (.iload_n 3, 1) := by decide +kernel
theorem dX5_hasUnder_21 : decode cX5_hasUnder 21 = .ok (.baload, 1) := by decide +kernel
theorem dX5_hasUnder_22 : decode cX5_hasUnder 22 = .ok (.ifCond .eq 21, 3) := by decide +kernel
theorem dX5_hasUnder_25 : decode cX5_hasUnder 25 = .ok (.aload_n 0, 1) := by decide +kernel
theorem dX5_hasUnder_26 : decode cX5_hasUnder 26 = .ok (.aload_n 0, 1) := by decide +kernel
theorem dX5_hasUnder_27 : decode cX5_hasUnder 27 = .ok (.getfield 36, 3) := by decide +kernel
theorem dX5_hasUnder_30 : decode cX5_hasUnder 30 = .ok (.iload_n 3, 1) := by decide +kernel
theorem dX5_hasUnder_31 : decode cX5_hasUnder 31 = .ok (.iaload, 1) := by decide +kernel
theorem dX5_hasUnder_32 : decode cX5_hasUnder 32 = .ok (.iload_n 1, 1) := by decide +kernel
theorem dX5_hasUnder_33 : decode cX5_hasUnder 33 = .ok (.invokevirtual 165, 3) := by decide +kernel
theorem dX5_hasUnder_36 : decode cX5_hasUnder 36 = .ok (.ifCond .eq 7, 3) := by decide +kernel
theorem dX5_hasUnder_39 : decode cX5_hasUnder 39 = .ok (.iconst 1, 1) := by decide +kernel
theorem dX5_hasUnder_40 : decode cX5_hasUnder 40 = .ok (.goto 4, 3) := by decide +kernel
theorem dX5_hasUnder_43 : decode cX5_hasUnder 43 = .ok (.iconst 0, 1) := by decide +kernel
theorem dX5_hasUnder_44 : decode cX5_hasUnder 44 = .ok (.istore_n 2, 1) := by decide +kernel
theorem dX5_hasUnder_45 : decode cX5_hasUnder 45 = .ok (.iinc 3 1, 3) := by decide +kernel
theorem dX5_hasUnder_48 : decode cX5_hasUnder 48 = .ok (.goto (-44), 3) := by decide +kernel
theorem dX5_hasUnder_51 : decode cX5_hasUnder 51 = .ok (.iload_n 2, 1) := by decide +kernel
theorem dX5_hasUnder_52 : decode cX5_hasUnder 52 = .ok (.ireturn, 1) := by decide +kernel
theorem dX5_down_0 : decode cX5_down 0 = .ok (.ldc2_w 115, 3) := by decide +kernel
theorem dX5_down_3 : decode cX5_down 3 = .ok (.lstore_n 2, 1) := by decide +kernel
theorem dX5_down_4 : decode cX5_down 4 = .ok (.iconst (-1), 1) := by decide +kernel
theorem dX5_down_5 : decode cX5_down 5 = .ok (.istore 4, 2) := by decide +kernel
theorem dX5_down_7 : decode cX5_down 7 = .ok (.iconst 1, 1) := by decide +kernel
theorem dX5_down_8 : decode cX5_down 8 = .ok (.istore 5, 2) := by decide +kernel
theorem dX5_down_10 : decode cX5_down 10 = .ok (.iload 5, 2) := by decide +kernel
theorem dX5_down_12 : decode cX5_down 12 = .ok (.aload_n 0, 1) := by decide +kernel
theorem dX5_down_13 : decode cX5_down 13 = .ok (.getfield 33, 3) := by decide +kernel
theorem dX5_down_16 : decode cX5_down 16 = .ok (.if_icmp .ge 62, 3) := by decide +kernel
theorem dX5_down_19 : decode cX5_down 19 = .ok (.aload_n 0, 1) := by decide +kernel
theorem dX5_down_20 : decode cX5_down 20 = .ok (.getfield 23, 3) := by decide +kernel
theorem dX5_down_23 : decode cX5_down 23 = .ok (.iload 5, 2) := by decide +kernel
theorem dX5_down_25 : decode cX5_down 25 = .ok (.iaload, 1) := by decide +kernel
theorem dX5_down_26 : decode cX5_down 26 = .ok (.iload_n 1, 1) := by decide +kernel
theorem dX5_down_27 : decode cX5_down 27 = .ok (.if_icmp .ne 45, 3) := by decide +kernel
theorem dX5_down_30 : decode cX5_down 30 = .ok (.aload_n 0, 1) := by decide +kernel
theorem dX5_down_31 : decode cX5_down 31 = .ok (.iload 5, 2) := by decide +kernel
theorem dX5_down_33 : decode cX5_down 33 = .ok (.invokevirtual 187, 3) := by decide +kernel
theorem dX5_down_36 : decode cX5_down 36 = .ok (.ifCond .eq 36, 3) := by decide +kernel
theorem dX5_down_39 : decode cX5_down 39 = .ok (.lload_n 2, 1) := by decide +kernel
theorem dX5_down_40 : decode cX5_down 40 = .ok (.lconst 0, 1) := by decide +kernel
theorem dX5_down_41 : decode cX5_down 41 = .ok (.lcmp, 1) := by decide +kernel
theorem dX5_down_42 : decode cX5_down 42 = .ok (.ifCond .lt 15, 3) := by decide +kernel
theorem dX5_down_45 : decode cX5_down 45 = .ok (.aload_n 0, 1) := by decide +kernel
theorem dX5_down_46 : decode cX5_down 46 = .ok (.getfield 29, 3) := by decide +kernel
theorem dX5_down_49 : decode cX5_down 49 = .ok (.iload 5, 2) := by decide +kernel
theorem dX5_down_51 : decode cX5_down 51 = .ok (.laload, 1) := by decide +kernel
theorem dX5_down_52 : decode cX5_down 52 = .ok (.lload_n 2, 1) := by decide +kernel
theorem dX5_down_53 : decode cX5_down 53 = .ok (.lcmp, 1) := by decide +kernel
theorem dX5_down_54 : decode cX5_down 54 = .ok (.ifCond .ge 18, 3) := by decide +kernel
theorem dX5_down_57 : decode cX5_down 57 = .ok (.aload_n 0, 1) := by decide +kernel
theorem dX5_down_58 : decode cX5_down 58 = .ok (.getfield 29, 3) := by decide +kernel
theorem dX5_down_61 : decode cX5_down 61 = .ok (.iload 5, 2) := by decide +kernel
theorem dX5_down_63 : decode cX5_down 63 = .ok (.laload, 1) := by decide +kernel
theorem dX5_down_64 : decode cX5_down 64 = .ok (.lstore_n 2, 1) := by decide +kernel
theorem dX5_down_65 : decode cX5_down 65 = .ok (.bipush 100, 2) := by decide +kernel
theorem dX5_down_67 : decode cX5_down 67 = .ok (.iload 5, 2) := by decide +kernel
theorem dX5_down_69 : decode cX5_down 69 = .ok (.iadd, 1) := by decide +kernel
theorem dX5_down_70 : decode cX5_down 70 = .ok (.istore 4, 2) := by decide +kernel
theorem dX5_down_72 : decode cX5_down 72 = .ok (.iinc 5 1, 3) := by decide +kernel
theorem dX5_down_75 : decode cX5_down 75 = .ok (.goto (-65), 3) := by decide +kernel
theorem dX5_down_78 : decode cX5_down 78 = .ok (.iconst 0, 1) := by decide +kernel
theorem dX5_down_79 : decode cX5_down 79 = .ok (.istore 5, 2) := by decide +kernel
theorem dX5_down_81 : decode cX5_down 81 = .ok (.iload 5, 2) := by decide +kernel
theorem dX5_down_83 : decode cX5_down 83 = .ok (.aload_n 0, 1) := by decide +kernel
theorem dX5_down_84 : decode cX5_down 84 = .ok (.getfield 117, 3) := by decide +kernel
theorem dX5_down_87 : decode cX5_down 87 = .ok (.if_icmp .ge 60, 3) := by decide +kernel
theorem dX5_down_90 : decode cX5_down 90 = .ok (.aload_n 0, 1) := by decide +kernel
theorem dX5_down_91 : decode cX5_down 91 = .ok (.getfield 88, 3) := by decide +kernel
theorem dX5_down_94 : decode cX5_down 94 = .ok (.iload 5, 2) := by decide +kernel
theorem dX5_down_96 : decode cX5_down 96 = .ok (.baload, 1) := by decide +kernel
theorem dX5_down_97 : decode cX5_down 97 = .ok (.ifCond .eq 44, 3) := by decide +kernel
theorem dX5_down_100 : decode cX5_down 100 = .ok (.aload_n 0, 1) := by decide +kernel
theorem dX5_down_101 : decode cX5_down 101 = .ok (.getfield 36, 3) := by decide +kernel
theorem dX5_down_104 : decode cX5_down 104 = .ok (.iload 5, 2) := by decide +kernel
theorem dX5_down_106 : decode cX5_down 106 = .ok (.iaload, 1) := by decide +kernel
theorem dX5_down_107 : decode cX5_down 107 = .ok (.iload_n 1, 1) := by decide +kernel
theorem dX5_down_108 : decode cX5_down 108 = .ok (.if_icmp .ne 33, 3) := by decide +kernel
theorem dX5_down_111 : decode cX5_down 111 = .ok (.lload_n 2, 1) := by decide +kernel
theorem dX5_down_112 : decode cX5_down 112 = .ok (.lconst 0, 1) := by decide +kernel
theorem dX5_down_113 : decode cX5_down 113 = .ok (.lcmp, 1) := by decide +kernel
theorem dX5_down_114 : decode cX5_down 114 = .ok (.ifCond .lt 15, 3) := by decide +kernel
theorem dX5_down_117 : decode cX5_down 117 = .ok (.aload_n 0, 1) := by decide +kernel
theorem dX5_down_118 : decode cX5_down 118 = .ok (.getfield 42, 3) := by decide +kernel
theorem dX5_down_121 : decode cX5_down 121 = .ok (.iload 5, 2) := by decide +kernel
theorem dX5_down_123 : decode cX5_down 123 = .ok (.laload, 1) := by decide +kernel
theorem dX5_down_124 : decode cX5_down 124 = .ok (.lload_n 2, 1) := by decide +kernel
theorem dX5_down_125 : decode cX5_down 125 = .ok (.lcmp, 1) := by decide +kernel
theorem dX5_down_126 : decode cX5_down 126 = .ok (.ifCond .ge 15, 3) := by decide +kernel
theorem dX5_down_129 : decode cX5_down 129 = .ok (.aload_n 0, 1) := by decide +kernel
theorem dX5_down_130 : decode cX5_down 130 = .ok (.getfield 42, 3) := by decide +kernel
theorem dX5_down_133 : decode cX5_down 133 = .ok (.iload 5, 2) := by decide +kernel
theorem dX5_down_135 : decode cX5_down 135 = .ok (.laload, 1) := by decide +kernel
theorem dX5_down_136 : decode cX5_down 136 = .ok (.lstore_n 2, 1) := by decide +kernel
theorem dX5_down_137 : decode cX5_down 137 = .ok (.iload 5, 2) := by decide +kernel
theorem dX5_down_139 : decode cX5_down 139 = .ok (.istore 4, 2) := by decide +kernel
theorem dX5_down_141 : decode cX5_down 141 = .ok (.iinc 5 1, 3) := by decide +kernel
theorem dX5_down_144 : decode cX5_down 144 = .ok (.goto (-63), 3) := by decide +kernel
theorem dX5_down_147 : decode cX5_down 147 = .ok (.iload 4, 2) := by decide +kernel
theorem dX5_down_149 : decode cX5_down 149 = .ok (.bipush 100, 2) := by decide +kernel
theorem dX5_down_151 : decode cX5_down 151 = .ok (.if_icmp .lt 15, 3) := by decide +kernel
theorem dX5_down_154 : decode cX5_down 154 = .ok (.aload_n 0, 1) := by decide +kernel
theorem dX5_down_155 : decode cX5_down 155 = .ok (.iload 4, 2) := by decide +kernel
theorem dX5_down_157 : decode cX5_down 157 = .ok (.bipush 100, 2) := by decide +kernel
theorem dX5_down_159 : decode cX5_down 159 = .ok (.isub, 1) := by decide +kernel
theorem dX5_down_160 : decode cX5_down 160 = .ok (.invokevirtual 190, 3) := by decide +kernel
theorem dX5_down_163 : decode cX5_down 163 = .ok (.goto 5, 3) := by decide +kernel
theorem dX5_down_166 : decode cX5_down 166 = .ok (.iload 4, 2) := by decide +kernel
theorem dX5_down_168 : decode cX5_down 168 = .ok (.ireturn, 1) := by decide +kernel
theorem dX5_choose_0 : decode cX5_choose 0 = .ok (.iconst (-1), 1) := by decide +kernel
theorem dX5_choose_1 : decode cX5_choose 1 = .ok (.istore_n 1, 1) := by decide +kernel
theorem dX5_choose_2 : decode cX5_choose 2 = .ok (.iconst 0, 1) := by decide +kernel
theorem dX5_choose_3 : decode cX5_choose 3 = .ok (.istore_n 2, 1) := by decide +kernel
theorem dX5_choose_4 : decode cX5_choose 4 = .ok (.iconst 0, 1) := by decide +kernel
theorem dX5_choose_5 : decode cX5_choose 5 = .ok (.istore_n 3, 1) := by decide +kernel
theorem dX5_choose_6 : decode cX5_choose 6 = .ok (.iload_n 3, 1) := by decide +kernel
theorem dX5_choose_7 : decode cX5_choose 7 = .ok (.aload_n 0, 1) := by decide +kernel
theorem dX5_choose_8 : decode cX5_choose 8 = .ok (.getfield 117, 3) := by decide +kernel
theorem dX5_choose_11 : decode cX5_choose 11 = .ok (.if_icmp .ge 86, 3) := by decide +kernel
theorem dX5_choose_14 : decode cX5_choose 14 = .ok (.iload_n 2, 1) := by decide +kernel
theorem dX5_choose_15 : decode cX5_choose 15 = .ok (.ifCond .ne 12, 3) := by decide +kernel
theorem dX5_choose_18 : decode cX5_choose 18 = .ok (.aload_n 0, 1) := by decide +kernel
theorem dX5_choose_19 : decode cX5_choose 19 = .ok (.getfield 88, 3) := by decide +kernel
theorem dX5_choose_22 : decode cX5_choose 22 = .ok (.iload_n 3, 1) := by decide +kernel
theorem dX5_choose_23 : decode cX5_choose 23 = .ok (.baload, 1) := by decide +kernel
theorem dX5_choose_24 : decode cX5_choose 24 = .ok (.ifCond .eq 7, 3) := by decide +kernel
theorem dX5_choose_27 : decode cX5_choose 27 = .ok (.iconst 1, 1) := by decide +kernel
theorem dX5_choose_28 : decode cX5_choose 28 = .ok (.goto 4, 3) := by decide +kernel
theorem dX5_choose_31 : decode cX5_choose 31 = .ok (.iconst 0, 1) := by decide +kernel
theorem dX5_choose_32 : decode cX5_choose 32 = .ok (.istore_n 2, 1) := by decide +kernel
theorem dX5_choose_33 : decode cX5_choose 33 = .ok (.aload_n 0, 1) := by decide +kernel
theorem dX5_choose_34 : decode cX5_choose 34 = .ok (.getfield 88, 3) := by decide +kernel
theorem dX5_choose_37 : decode cX5_choose 37 = .ok (.iload_n 3, 1) := by decide +kernel
theorem dX5_choose_38 : decode cX5_choose 38 = .ok (.baload, 1) := by decide +kernel
theorem dX5_choose_39 : decode cX5_choose 39 = .ok (.ifCond .eq 38, 3) := by decide +kernel
theorem dX5_choose_42 : decode cX5_choose 42 = .ok (.aload_n 0, 1) := by decide +kernel
theorem dX5_choose_43 : decode cX5_choose 43 = .ok (.getfield 85, 3) := by decide +kernel
theorem dX5_choose_46 : decode cX5_choose 46 = .ok (.iload_n 3, 1) := by decide +kernel
theorem dX5_choose_47 : decode cX5_choose 47 = .ok (.iaload, 1) := by decide +kernel
theorem dX5_choose_48 : decode cX5_choose 48 = .ok (.ldc 169, 2) := by decide +kernel
theorem dX5_choose_50 : decode cX5_choose 50 = .ok (.if_icmp .ge 27, 3) := by decide +kernel
theorem dX5_choose_53 : decode cX5_choose 53 = .ok (.iload_n 1, 1) := by decide +kernel
theorem dX5_choose_54 : decode cX5_choose 54 = .ok (.iconst (-1), 1) := by decide +kernel
theorem dX5_choose_55 : decode cX5_choose 55 = .ok (.if_icmp .eq 18, 3) := by decide +kernel
theorem dX5_choose_58 : decode cX5_choose 58 = .ok (.aload_n 0, 1) := by decide +kernel
theorem dX5_choose_59 : decode cX5_choose 59 = .ok (.getfield 85, 3) := by decide +kernel
theorem dX5_choose_62 : decode cX5_choose 62 = .ok (.iload_n 3, 1) := by decide +kernel
theorem dX5_choose_63 : decode cX5_choose 63 = .ok (.iaload, 1) := by decide +kernel
theorem dX5_choose_64 : decode cX5_choose 64 = .ok (.aload_n 0, 1) := by decide +kernel
theorem dX5_choose_65 : decode cX5_choose 65 = .ok (.getfield 85, 3) := by decide +kernel
theorem dX5_choose_68 : decode cX5_choose 68 = .ok (.iload_n 1, 1) := by decide +kernel
theorem dX5_choose_69 : decode cX5_choose 69 = .ok (.iaload, 1) := by decide +kernel
theorem dX5_choose_70 : decode cX5_choose 70 = .ok (.if_icmp .ge 7, 3) := by decide +kernel
theorem dX5_choose_73 : decode cX5_choose 73 = .ok (.iconst 1, 1) := by decide +kernel
theorem dX5_choose_74 : decode cX5_choose 74 = .ok (.goto 4, 3) := by decide +kernel
theorem dX5_choose_77 : decode cX5_choose 77 = .ok (.iconst 0, 1) := by decide +kernel
theorem dX5_choose_78 : decode cX5_choose 78 = .ok (.istore 4, 2) := by decide +kernel
theorem dX5_choose_80 : decode cX5_choose 80 = .ok (.iload 4, 2) := by decide +kernel
theorem dX5_choose_82 : decode cX5_choose 82 = .ok (.ifCond .eq 7, 3) := by decide +kernel
theorem dX5_choose_85 : decode cX5_choose 85 = .ok (.iload_n 3, 1) := by decide +kernel
theorem dX5_choose_86 : decode cX5_choose 86 = .ok (.goto 4, 3) := by decide +kernel
theorem dX5_choose_89 : decode cX5_choose 89 = .ok (.iload_n 1, 1) := by decide +kernel
theorem dX5_choose_90 : decode cX5_choose 90 = .ok (.istore_n 1, 1) := by decide +kernel
theorem dX5_choose_91 : decode cX5_choose 91 = .ok (.iinc 3 1, 3) := by decide +kernel
theorem dX5_choose_94 : decode cX5_choose 94 = .ok (.goto (-88), 3) := by decide +kernel
theorem dX5_choose_97 : decode cX5_choose 97 = .ok (.iload_n 2, 1) := by decide +kernel
theorem dX5_choose_98 : decode cX5_choose 98 = .ok (.ifCond .ne 7, 3) := by decide +kernel
theorem dX5_choose_101 : decode cX5_choose 101 = .ok (.iconst (-1), 1) := by decide +kernel
theorem dX5_choose_102 : decode cX5_choose 102 = .ok (.goto 17, 3) := by decide +kernel
theorem dX5_choose_105 : decode cX5_choose 105 = .ok (.iload_n 1, 1) := by decide +kernel
theorem dX5_choose_106 : decode cX5_choose 106 = .ok (.iconst (-1), 1) := by decide +kernel
theorem dX5_choose_107 : decode cX5_choose 107 = .ok (.if_icmp .eq 7, 3) := by decide +kernel
theorem dX5_choose_110 : decode cX5_choose 110 = .ok (.iload_n 1, 1) := by decide +kernel
theorem dX5_choose_111 : decode cX5_choose 111 = .ok (.goto 8, 3) := by decide +kernel
theorem dX5_choose_114 : decode cX5_choose 114 = .ok (.aload_n 0, 1) := by decide +kernel
theorem dX5_choose_115 : decode cX5_choose 115 = .ok (.iconst 0, 1) := by decide +kernel
theorem dX5_choose_116 : decode cX5_choose 116 = .ok (.invokevirtual 190, 3) := by decide +kernel
theorem dX5_choose_119 : decode cX5_choose 119 = .ok (.ireturn, 1) := by decide +kernel
theorem dX5_chooses_0 : decode cX5_chooses 0 = .ok (.aload_n 0, 1) := by decide +kernel
theorem dX5_chooses_1 : decode cX5_chooses 1 = .ok (.invokevirtual 170, 3) := by decide +kernel
theorem dX5_chooses_4 : decode cX5_chooses 4 = .ok (.iconst 0, 1) := by decide +kernel
theorem dX5_chooses_5 : decode cX5_chooses 5 = .ok (.istore_n 1, 1) := by decide +kernel
theorem dX5_chooses_6 : decode cX5_chooses 6 = .ok (.iload_n 1, 1) := by decide +kernel
theorem dX5_chooses_7 : decode cX5_chooses 7 = .ok (.aload_n 0, 1) := by decide +kernel
theorem dX5_chooses_8 : decode cX5_chooses 8 = .ok (.getfield 117, 3) := by decide +kernel
theorem dX5_chooses_11 : decode cX5_chooses 11 = .ok (.if_icmp .ge 20, 3) := by decide +kernel
theorem dX5_chooses_14 : decode cX5_chooses 14 = .ok (.aload_n 0, 1) := by decide +kernel
theorem dX5_chooses_15 : decode cX5_chooses 15 = .ok (.getfield 88, 3) := by decide +kernel
theorem dX5_chooses_18 : decode cX5_chooses 18 = .ok (.iload_n 1, 1) := by decide +kernel
theorem dX5_chooses_19 : decode cX5_chooses 19 = .ok (.aload_n 0, 1) := by decide +kernel
theorem dX5_chooses_20 : decode cX5_chooses 20 = .ok (.iload_n 1, 1) := by decide +kernel
theorem dX5_chooses_21 : decode cX5_chooses 21 = .ok (.invokevirtual 193, 3) := by decide +kernel
theorem dX5_chooses_24 : decode cX5_chooses 24 = .ok (.bastore, 1) := by decide +kernel
theorem dX5_chooses_25 : decode cX5_chooses 25 = .ok (.iinc 1 1, 3) := by decide +kernel
theorem dX5_chooses_28 : decode cX5_chooses 28 = .ok (.goto (-22), 3) := by decide +kernel
theorem dX5_chooses_31 : decode cX5_chooses 31 = .ok (.iconst 0, 1) := by decide +kernel
theorem dX5_chooses_32 : decode cX5_chooses 32 = .ok (.istore_n 1, 1) := by decide +kernel
theorem dX5_chooses_33 : decode cX5_chooses 33 = .ok (.iconst 0, 1) := by decide +kernel
theorem dX5_chooses_34 : decode cX5_chooses 34 = .ok (.istore_n 2, 1) := by decide +kernel
theorem dX5_chooses_35 : decode cX5_chooses 35 = .ok (.iload_n 2, 1) := by decide +kernel
theorem dX5_chooses_36 : decode cX5_chooses 36 = .ok (.aload_n 0, 1) := by decide +kernel
theorem dX5_chooses_37 : decode cX5_chooses 37 = .ok (.getfield 100, 3) := by decide +kernel
theorem dX5_chooses_40 : decode cX5_chooses 40 = .ok (.if_icmp .ge 67, 3) := by decide +kernel
theorem dX5_chooses_43 : decode cX5_chooses 43 = .ok (.aload_n 0, 1) := by decide +kernel
theorem dX5_chooses_44 : decode cX5_chooses 44 = .ok (.getfield 82, 3) := by decide +kernel
theorem dX5_chooses_47 : decode cX5_chooses 47 = .ok (.iload_n 2, 1) := by decide +kernel
theorem dX5_chooses_48 : decode cX5_chooses 48 = .ok (.iload_n 1, 1) := by decide +kernel
theorem dX5_chooses_49 : decode cX5_chooses 49 = .ok (.aload_n 0, 1) := by decide +kernel
theorem dX5_chooses_50 : decode cX5_chooses 50 = .ok (.iload_n 2, 1) := by decide +kernel
theorem dX5_chooses_51 : decode cX5_chooses 51 = .ok (.invokevirtual 111, 3) := by decide +kernel
theorem dX5_chooses_54 : decode cX5_chooses 54 = .ok (.iadd, 1) := by decide +kernel
theorem dX5_chooses_55 : decode cX5_chooses 55 = .ok (.aload_n 0, 1) := by decide +kernel
theorem dX5_chooses_56 : decode cX5_chooses 56 = .ok (.getfield 20, 3) := by decide +kernel
theorem dX5_chooses_59 : decode cX5_chooses 59 = .ok (.if_icmp .le 7, 3) := by decide +kernel
theorem dX5_chooses_62 : decode cX5_chooses 62 = .ok (.iconst (-1), 1) := by decide +kernel
theorem dX5_chooses_63 : decode cX5_chooses 63 = .ok (.goto 7, 3) := by decide +kernel
theorem dX5_chooses_66 : decode cX5_chooses 66 = .ok (.aload_n 0, 1) := by decide +kernel
theorem dX5_chooses_67 : decode cX5_chooses 67 = .ok (.invokevirtual 196, 3) := by decide +kernel
theorem dX5_chooses_70 : decode cX5_chooses 70 = .ok (.iastore, 1) := by decide +kernel
theorem dX5_chooses_71 : decode cX5_chooses 71 = .ok (.aload_n 0, 1) := by decide +kernel
theorem dX5_chooses_72 : decode cX5_chooses 72 = .ok (.getfield 82, 3) := by decide +kernel
theorem dX5_chooses_75 : decode cX5_chooses 75 = .ok (.iload_n 2, 1) := by decide +kernel
theorem dX5_chooses_76 : decode cX5_chooses 76 = .ok (.iaload, 1) := by decide +kernel
theorem dX5_chooses_77 : decode cX5_chooses 77 = .ok (.iconst (-1), 1) := by decide +kernel
theorem dX5_chooses_78 : decode cX5_chooses 78 = .ok (.if_icmp .eq 23, 3) := by decide +kernel
theorem dX5_chooses_81 : decode cX5_chooses 81 = .ok (.iload_n 1, 1) := by decide +kernel
theorem dX5_chooses_82 : decode cX5_chooses 82 = .ok (.aload_n 0, 1) := by decide +kernel
theorem dX5_chooses_83 : decode cX5_chooses 83 = .ok (.iload_n 2, 1) := by decide +kernel
theorem dX5_chooses_84 : decode cX5_chooses 84 = .ok (.invokevirtual 111, 3) := by decide +kernel
theorem dX5_chooses_87 : decode cX5_chooses 87 = .ok (.iadd, 1) := by decide +kernel
theorem dX5_chooses_88 : decode cX5_chooses 88 = .ok (.istore_n 1, 1) := by decide +kernel
theorem dX5_chooses_89 : decode cX5_chooses 89 = .ok (.aload_n 0, 1) := by decide +kernel
theorem dX5_chooses_90 : decode cX5_chooses 90 = .ok (.getfield 88, 3) := by decide +kernel
theorem dX5_chooses_93 : decode cX5_chooses 93 = .ok (.aload_n 0, 1) := by decide +kernel
theorem dX5_chooses_94 : decode cX5_chooses 94 = .ok (.getfield 82, 3) := by decide +kernel
theorem dX5_chooses_97 : decode cX5_chooses 97 = .ok (.iload_n 2, 1) := by decide +kernel
theorem dX5_chooses_98 : decode cX5_chooses 98 = .ok (.iaload, 1) := by decide +kernel
theorem dX5_chooses_99 : decode cX5_chooses 99 = .ok (.iconst 0, 1) := by decide +kernel
theorem dX5_chooses_100 : decode cX5_chooses 100 = .ok (.bastore, 1) := by decide +kernel
theorem dX5_chooses_101 : decode cX5_chooses 101 = .ok (.iinc 2 1, 3) := by decide +kernel
theorem dX5_chooses_104 : decode cX5_chooses 104 = .ok (.goto (-69), 3) := by decide +kernel
theorem dX5_chooses_107 : decode cX5_chooses 107 = .ok (.return_, 1) := by decide +kernel
theorem dX5_choice_0 : decode cX5_choice 0 = .ok (.aload_n 0, 1) := by decide +kernel
theorem dX5_choice_1 : decode cX5_choice 1 = .ok (.iload_n 1, 1) := by decide +kernel
theorem dX5_choice_2 : decode cX5_choice 2 = .ok (.invokevirtual 107, 3) := by decide +kernel
theorem dX5_choice_5 : decode cX5_choice 5 = .ok (.ifCond .ne 5, 3) := by decide +kernel
theorem dX5_choice_8 : decode cX5_choice 8 = .ok (.iconst (-1), 1) := by decide +kernel
theorem dX5_choice_9 : decode cX5_choice 9 = .ok (.ireturn, 1) := by decide +kernel
theorem dX5_choice_10 : decode cX5_choice 10 = .ok (.aload_n 0, 1) := by decide +kernel
theorem dX5_choice_11 : decode cX5_choice 11 = .ok (.invokevirtual 199, 3) := by decide +kernel
theorem dX5_choice_14 : decode cX5_choice 14 = .ok (.aload_n 0, 1) := by decide +kernel
theorem dX5_choice_15 : decode cX5_choice 15 = .ok (.getfield 82, 3) := by decide +kernel
theorem dX5_choice_18 : decode cX5_choice 18 = .ok (.iload_n 1, 1) := by decide +kernel
theorem dX5_choice_19 : decode cX5_choice 19 = .ok (.iaload, 1) := by decide +kernel
theorem dX5_choice_20 : decode cX5_choice 20 = .ok (.ireturn, 1) := by decide +kernel
theorem dX5_choiceByComparing_0 : decode cX5_choiceByComparing 0 = .ok (.aload_n 0, 1) := by decide +kernel
theorem dX5_choiceByComparing_1 : decode cX5_choiceByComparing 1 = .ok (.iload_n 1, 1) := by decide +kernel
theorem dX5_choiceByComparing_2 : decode cX5_choiceByComparing 2 = .ok (.invokevirtual 202, 3) := by decide +kernel
theorem dX5_choiceByComparing_5 : decode cX5_choiceByComparing 5 = .ok (.ireturn, 1) := by decide +kernel
theorem dX5_works_0 : decode cX5_works 0 = .ok (.aload_n 0, 1) := by decide +kernel
theorem dX5_works_1 : decode cX5_works 1 = .ok (.getfield 66, 3) := by decide +kernel
theorem dX5_works_4 : decode cX5_works 4 = .ok (.iload_n 2, 1) := by decide +kernel
theorem dX5_works_5 : decode cX5_works 5 = .ok (.iaload, 1) := by decide +kernel
theorem dX5_works_6 : decode cX5_works 6 = .ok (.iconst (-1), 1) := by decide +kernel
theorem dX5_works_7 : decode cX5_works 7 = .ok (.if_icmp .eq 17, 3) := by decide +kernel
theorem dX5_works_10 : decode cX5_works 10 = .ok (.aload_n 0, 1) := by decide +kernel
theorem dX5_works_11 : decode cX5_works 11 = .ok (.getfield 66, 3) := by decide +kernel
theorem dX5_works_14 : decode cX5_works 14 = .ok (.iload_n 2, 1) := by decide +kernel
theorem dX5_works_15 : decode cX5_works 15 = .ok (.iaload, 1) := by decide +kernel
theorem dX5_works_16 : decode cX5_works 16 = .ok (.iload_n 1, 1) := by decide +kernel
theorem dX5_works_17 : decode cX5_works 17 = .ok (.if_icmp .eq 7, 3) := by decide +kernel
theorem dX5_works_20 : decode cX5_works 20 = .ok (.iconst 1, 1) := by decide +kernel
theorem dX5_works_21 : decode cX5_works 21 = .ok (.goto 4, 3) := by decide +kernel
theorem dX5_works_24 : decode cX5_works 24 = .ok (.iconst 0, 1) := by decide +kernel
theorem dX5_works_25 : decode cX5_works 25 = .ok (.istore_n 3, 1) := by decide +kernel
theorem dX5_works_26 : decode cX5_works 26 = .ok (.aload_n 0, 1) := by decide +kernel
theorem dX5_works_27 : decode cX5_works 27 = .ok (.iload_n 1, 1) := by decide +kernel
theorem dX5_works_28 : decode cX5_works 28 = .ok (.invokevirtual 111, 3) := by decide +kernel
theorem dX5_works_31 : decode cX5_works 31 = .ok (.iload_n 3, 1) := by decide +kernel
theorem dX5_works_32 : decode cX5_works 32 = .ok (.ifCond .eq 7, 3) := by decide +kernel
theorem dX5_works_35 : decode cX5_works 35 = .ok (.iconst 1, 1) := by decide +kernel
theorem dX5_works_36 : decode cX5_works 36 = .ok (.goto 4, 3) := by decide +kernel
theorem dX5_works_39 : decode cX5_works 39 = .ok (.iconst 0, 1) := by decide +kernel
theorem dX5_works_40 : decode cX5_works 40 = .ok (.isub, 1) := by decide +kernel
theorem dX5_works_41 : decode cX5_works 41 = .ok (.istore 4, 2) := by decide +kernel
theorem dX5_works_43 : decode cX5_works 43 = .ok (.iload 4, 2) := by decide +kernel
theorem dX5_works_45 : decode cX5_works 45 = .ok (.aload_n 0, 1) := by decide +kernel
theorem dX5_works_46 : decode cX5_works 46 = .ok (.getfield 45, 3) := by decide +kernel
theorem dX5_works_49 : decode cX5_works 49 = .ok (.iload_n 2, 1) := by decide +kernel
theorem dX5_works_50 : decode cX5_works 50 = .ok (.iaload, 1) := by decide +kernel
theorem dX5_works_51 : decode cX5_works 51 = .ok (.if_icmp .ge 8, 3) := by decide +kernel
theorem dX5_works_54 : decode cX5_works 54 = .ok (.iload 4, 2) := by decide +kernel
theorem dX5_works_56 : decode cX5_works 56 = .ok (.goto 9, 3) := by decide +kernel
theorem dX5_works_59 : decode cX5_works 59 = .ok (.aload_n 0, 1) := by decide +kernel
theorem dX5_works_60 : decode cX5_works 60 = .ok (.getfield 45, 3) := by decide +kernel
theorem dX5_works_63 : decode cX5_works 63 = .ok (.iload_n 2, 1) := by decide +kernel
theorem dX5_works_64 : decode cX5_works 64 = .ok (.iaload, 1) := by decide +kernel
theorem dX5_works_65 : decode cX5_works 65 = .ok (.istore 4, 2) := by decide +kernel
theorem dX5_works_67 : decode cX5_works 67 = .ok (.aload_n 0, 1) := by decide +kernel
theorem dX5_works_68 : decode cX5_works 68 = .ok (.dup, 1) := by decide +kernel
theorem dX5_works_69 : decode cX5_works 69 = .ok (.getfield 205, 3) := by decide +kernel
theorem dX5_works_72 : decode cX5_works 72 = .ok (.iload_n 3, 1) := by decide +kernel
theorem dX5_works_73 : decode cX5_works 73 = .ok (.ifCond .eq 7, 3) := by decide +kernel
theorem dX5_works_76 : decode cX5_works 76 = .ok (.iconst 1, 1) := by decide +kernel
theorem dX5_works_77 : decode cX5_works 77 = .ok (.goto 4, 3) := by decide +kernel
theorem dX5_works_80 : decode cX5_works 80 = .ok (.iconst 0, 1) := by decide +kernel
theorem dX5_works_81 : decode cX5_works 81 = .ok (.iadd, 1) := by decide +kernel
theorem dX5_works_82 : decode cX5_works 82 = .ok (.putfield 205, 3) := by decide +kernel
theorem dX5_works_85 : decode cX5_works 85 = .ok (.aload_n 0, 1) := by decide +kernel
theorem dX5_works_86 : decode cX5_works 86 = .ok (.getfield 66, 3) := by decide +kernel
theorem dX5_works_89 : decode cX5_works 89 = .ok (.iload_n 2, 1) := by decide +kernel
theorem dX5_works_90 : decode cX5_works 90 = .ok (.iload_n 1, 1) := by decide +kernel
theorem dX5_works_91 : decode cX5_works 91 = .ok (.iastore, 1) := by decide +kernel
theorem dX5_works_92 : decode cX5_works 92 = .ok (.aload_n 0, 1) := by decide +kernel
theorem dX5_works_93 : decode cX5_works 93 = .ok (.getfield 45, 3) := by decide +kernel
theorem dX5_works_96 : decode cX5_works 96 = .ok (.iload_n 2, 1) := by decide +kernel
theorem dX5_works_97 : decode cX5_works 97 = .ok (.dup2, 1) := by decide +kernel
theorem dX5_works_98 : decode cX5_works 98 = .ok (.iaload, 1) := by decide +kernel
theorem dX5_works_99 : decode cX5_works 99 = .ok (.iload 4, 2) := by decide +kernel
theorem dX5_works_101 : decode cX5_works 101 = .ok (.isub, 1) := by decide +kernel
theorem dX5_works_102 : decode cX5_works 102 = .ok (.iastore, 1) := by decide +kernel
theorem dX5_works_103 : decode cX5_works 103 = .ok (.aload_n 0, 1) := by decide +kernel
theorem dX5_works_104 : decode cX5_works 104 = .ok (.getfield 63, 3) := by decide +kernel
theorem dX5_works_107 : decode cX5_works 107 = .ok (.iload_n 2, 1) := by decide +kernel
theorem dX5_works_108 : decode cX5_works 108 = .ok (.dup2, 1) := by decide +kernel
theorem dX5_works_109 : decode cX5_works 109 = .ok (.iaload, 1) := by decide +kernel
theorem dX5_works_110 : decode cX5_works 110 = .ok (.iload 4, 2) := by decide +kernel
theorem dX5_works_112 : decode cX5_works 112 = .ok (.iadd, 1) := by decide +kernel
theorem dX5_works_113 : decode cX5_works 113 = .ok (.iastore, 1) := by decide +kernel
theorem dX5_works_114 : decode cX5_works 114 = .ok (.aload_n 0, 1) := by decide +kernel
theorem dX5_works_115 : decode cX5_works 115 = .ok (.getfield 42, 3) := by decide +kernel
theorem dX5_works_118 : decode cX5_works 118 = .ok (.iload_n 2, 1) := by decide +kernel
theorem dX5_works_119 : decode cX5_works 119 = .ok (.dup2, 1) := by decide +kernel
theorem dX5_works_120 : decode cX5_works 120 = .ok (.laload, 1) := by decide +kernel
theorem dX5_works_121 : decode cX5_works 121 = .ok (.iload 4, 2) := by decide +kernel
theorem dX5_works_123 : decode cX5_works 123 = .ok (.sipush 2520, 3) := by decide +kernel
theorem dX5_works_126 : decode cX5_works 126 = .ok (.aload_n 0, 1) := by decide +kernel
theorem dX5_works_127 : decode cX5_works 127 = .ok (.getfield 39, 3) := by decide +kernel
theorem dX5_works_130 : decode cX5_works 130 = .ok (.iload_n 2, 1) := by decide +kernel
theorem dX5_works_131 : decode cX5_works 131 = .ok (.iaload, 1) := by decide +kernel
theorem dX5_works_132 : decode cX5_works 132 = .ok (.idiv, 1) := by decide +kernel
theorem dX5_works_133 : decode cX5_works 133 = .ok (.imul, 1) := by decide +kernel
theorem dX5_works_134 : decode cX5_works 134 = .ok (.i2l, 1) := by decide +kernel
theorem dX5_works_135 : decode cX5_works 135 = .ok (.ladd, 1) := by decide +kernel
theorem dX5_works_136 : decode cX5_works 136 = .ok (.lastore, 1) := by decide +kernel
theorem dX5_works_137 : decode cX5_works 137 = .ok (.aload_n 0, 1) := by decide +kernel
theorem dX5_works_138 : decode cX5_works 138 = .ok (.getfield 36, 3) := by decide +kernel
theorem dX5_works_141 : decode cX5_works 141 = .ok (.iload_n 2, 1) := by decide +kernel
theorem dX5_works_142 : decode cX5_works 142 = .ok (.iaload, 1) := by decide +kernel
theorem dX5_works_143 : decode cX5_works 143 = .ok (.istore 5, 2) := by decide +kernel
theorem dX5_works_145 : decode cX5_works 145 = .ok (.iload 5, 2) := by decide +kernel
theorem dX5_works_147 : decode cX5_works 147 = .ok (.ifCond .eq 40, 3) := by decide +kernel
theorem dX5_works_150 : decode cX5_works 150 = .ok (.aload_n 0, 1) := by decide +kernel
theorem dX5_works_151 : decode cX5_works 151 = .ok (.getfield 29, 3) := by decide +kernel
theorem dX5_works_154 : decode cX5_works 154 = .ok (.iload 5, 2) := by decide +kernel
theorem dX5_works_156 : decode cX5_works 156 = .ok (.dup2, 1) := by decide +kernel
theorem dX5_works_157 : decode cX5_works 157 = .ok (.laload, 1) := by decide +kernel
theorem dX5_works_158 : decode cX5_works 158 = .ok (.iload 4, 2) := by decide +kernel
theorem dX5_works_160 : decode cX5_works 160 = .ok (.sipush 2520, 3) := by decide +kernel
theorem dX5_works_163 : decode cX5_works 163 = .ok (.aload_n 0, 1) := by decide +kernel
theorem dX5_works_164 : decode cX5_works 164 = .ok (.getfield 26, 3) := by decide +kernel
theorem dX5_works_167 : decode cX5_works 167 = .ok (.iload 5, 2) := by decide +kernel
theorem dX5_works_169 : decode cX5_works 169 = .ok (.iaload, 1) := by decide +kernel
theorem dX5_works_170 : decode cX5_works 170 = .ok (.idiv, 1) := by decide +kernel
theorem dX5_works_171 : decode cX5_works 171 = .ok (.imul, 1) := by decide +kernel
theorem dX5_works_172 : decode cX5_works 172 = .ok (.i2l, 1) := by decide +kernel
theorem dX5_works_173 : decode cX5_works 173 = .ok (.ladd, 1) := by decide +kernel
theorem dX5_works_174 : decode cX5_works 174 = .ok (.lastore, 1) := by decide +kernel
theorem dX5_works_175 : decode cX5_works 175 = .ok (.aload_n 0, 1) := by decide +kernel
theorem dX5_works_176 : decode cX5_works 176 = .ok (.getfield 23, 3) := by decide +kernel
theorem dX5_works_179 : decode cX5_works 179 = .ok (.iload 5, 2) := by decide +kernel
theorem dX5_works_181 : decode cX5_works 181 = .ok (.iaload, 1) := by decide +kernel
theorem dX5_works_182 : decode cX5_works 182 = .ok (.istore 5, 2) := by decide +kernel
theorem dX5_works_184 : decode cX5_works 184 = .ok (.goto (-39), 3) := by decide +kernel
theorem dX5_works_187 : decode cX5_works 187 = .ok (.iload 4, 2) := by decide +kernel
theorem dX5_works_189 : decode cX5_works 189 = .ok (.ireturn, 1) := by decide +kernel
theorem dX5_ticks_0 : decode cX5_ticks 0 = .ok (.iconst 0, 1) := by decide +kernel
theorem dX5_ticks_1 : decode cX5_ticks 1 = .ok (.istore_n 1, 1) := by decide +kernel
theorem dX5_ticks_2 : decode cX5_ticks 2 = .ok (.iload_n 1, 1) := by decide +kernel
theorem dX5_ticks_3 : decode cX5_ticks 3 = .ok (.aload_n 0, 1) := by decide +kernel
theorem dX5_ticks_4 : decode cX5_ticks 4 = .ok (.getfield 117, 3) := by decide +kernel
theorem dX5_ticks_7 : decode cX5_ticks 7 = .ok (.if_icmp .ge 103, 3) := by decide +kernel
theorem dX5_ticks_10 : decode cX5_ticks 10 = .ok (.aload_n 0, 1) := by decide +kernel
theorem dX5_ticks_11 : decode cX5_ticks 11 = .ok (.getfield 48, 3) := by decide +kernel
theorem dX5_ticks_14 : decode cX5_ticks 14 = .ok (.iload_n 1, 1) := by decide +kernel
theorem dX5_ticks_15 : decode cX5_ticks 15 = .ok (.iaload, 1) := by decide +kernel
theorem dX5_ticks_16 : decode cX5_ticks 16 = .ok (.ifCond .le 88, 3) := by decide +kernel
theorem dX5_ticks_19 : decode cX5_ticks 19 = .ok (.aload_n 0, 1) := by decide +kernel
theorem dX5_ticks_20 : decode cX5_ticks 20 = .ok (.getfield 69, 3) := by decide +kernel
theorem dX5_ticks_23 : decode cX5_ticks 23 = .ok (.iload_n 1, 1) := by decide +kernel
theorem dX5_ticks_24 : decode cX5_ticks 24 = .ok (.baload, 1) := by decide +kernel
theorem dX5_ticks_25 : decode cX5_ticks 25 = .ok (.ifCond .ne 79, 3) := by decide +kernel
theorem dX5_ticks_28 : decode cX5_ticks 28 = .ok (.aload_n 0, 1) := by decide +kernel
theorem dX5_ticks_29 : decode cX5_ticks 29 = .ok (.getfield 54, 3) := by decide +kernel
theorem dX5_ticks_32 : decode cX5_ticks 32 = .ok (.iload_n 1, 1) := by decide +kernel
theorem dX5_ticks_33 : decode cX5_ticks 33 = .ok (.iaload, 1) := by decide +kernel
theorem dX5_ticks_34 : decode cX5_ticks 34 = .ok (.aload_n 0, 1) := by decide +kernel
theorem dX5_ticks_35 : decode cX5_ticks 35 = .ok (.getfield 129, 3) := by decide +kernel
theorem dX5_ticks_38 : decode cX5_ticks 38 = .ok (.if_icmp .ne 66, 3) := by decide +kernel
theorem dX5_ticks_41 : decode cX5_ticks 41 = .ok (.aload_n 0, 1) := by decide +kernel
theorem dX5_ticks_42 : decode cX5_ticks 42 = .ok (.getfield 57, 3) := by decide +kernel
theorem dX5_ticks_45 : decode cX5_ticks 45 = .ok (.iload_n 1, 1) := by decide +kernel
theorem dX5_ticks_46 : decode cX5_ticks 46 = .ok (.iaload, 1) := by decide +kernel
theorem dX5_ticks_47 : decode cX5_ticks 47 = .ok (.aload_n 0, 1) := by decide +kernel
theorem dX5_ticks_48 : decode cX5_ticks 48 = .ok (.getfield 129, 3) := by decide +kernel
theorem dX5_ticks_51 : decode cX5_ticks 51 = .ok (.if_icmp .eq 53, 3) := by decide +kernel
theorem dX5_ticks_54 : decode cX5_ticks 54 = .ok (.aload_n 0, 1) := by decide +kernel
theorem dX5_ticks_55 : decode cX5_ticks 55 = .ok (.getfield 60, 3) := by decide +kernel
theorem dX5_ticks_58 : decode cX5_ticks 58 = .ok (.iload_n 1, 1) := by decide +kernel
theorem dX5_ticks_59 : decode cX5_ticks 59 = .ok (.dup2, 1) := by decide +kernel
theorem dX5_ticks_60 : decode cX5_ticks 60 = .ok (.iaload, 1) := by decide +kernel
theorem dX5_ticks_61 : decode cX5_ticks 61 = .ok (.aload_n 0, 1) := by decide +kernel
theorem dX5_ticks_62 : decode cX5_ticks 62 = .ok (.getfield 45, 3) := by decide +kernel
theorem dX5_ticks_65 : decode cX5_ticks 65 = .ok (.iload_n 1, 1) := by decide +kernel
theorem dX5_ticks_66 : decode cX5_ticks 66 = .ok (.iaload, 1) := by decide +kernel
theorem dX5_ticks_67 : decode cX5_ticks 67 = .ok (.ifCond .le 7, 3) := by decide +kernel
theorem dX5_ticks_70 : decode cX5_ticks 70 = .ok (.iconst 1, 1) := by decide +kernel
theorem dX5_ticks_71 : decode cX5_ticks 71 = .ok (.goto 4, 3) := by decide +kernel
theorem dX5_ticks_74 : decode cX5_ticks 74 = .ok (.iconst 0, 1) := by decide +kernel
theorem dX5_ticks_75 : decode cX5_ticks 75 = .ok (.iadd, 1) := by decide +kernel
theorem dX5_ticks_76 : decode cX5_ticks 76 = .ok (.iastore, 1) := by decide +kernel
theorem dX5_ticks_77 : decode cX5_ticks 77 = .ok (.aload_n 0, 1) := by decide +kernel
theorem dX5_ticks_78 : decode cX5_ticks 78 = .ok (.getfield 45, 3) := by decide +kernel
theorem dX5_ticks_81 : decode cX5_ticks 81 = .ok (.iload_n 1, 1) := by decide +kernel
theorem dX5_ticks_82 : decode cX5_ticks 82 = .ok (.aload_n 0, 1) := by decide +kernel
theorem dX5_ticks_83 : decode cX5_ticks 83 = .ok (.getfield 51, 3) := by decide +kernel
theorem dX5_ticks_86 : decode cX5_ticks 86 = .ok (.iload_n 1, 1) := by decide +kernel
theorem dX5_ticks_87 : decode cX5_ticks 87 = .ok (.iaload, 1) := by decide +kernel
theorem dX5_ticks_88 : decode cX5_ticks 88 = .ok (.iastore, 1) := by decide +kernel
theorem dX5_ticks_89 : decode cX5_ticks 89 = .ok (.aload_n 0, 1) := by decide +kernel
theorem dX5_ticks_90 : decode cX5_ticks 90 = .ok (.getfield 54, 3) := by decide +kernel
theorem dX5_ticks_93 : decode cX5_ticks 93 = .ok (.iload_n 1, 1) := by decide +kernel
theorem dX5_ticks_94 : decode cX5_ticks 94 = .ok (.dup2, 1) := by decide +kernel
theorem dX5_ticks_95 : decode cX5_ticks 95 = .ok (.iaload, 1) := by decide +kernel
theorem dX5_ticks_96 : decode cX5_ticks 96 = .ok (.aload_n 0, 1) := by decide +kernel
theorem dX5_ticks_97 : decode cX5_ticks 97 = .ok (.getfield 48, 3) := by decide +kernel
theorem dX5_ticks_100 : decode cX5_ticks 100 = .ok (.iload_n 1, 1) := by decide +kernel
theorem dX5_ticks_101 : decode cX5_ticks 101 = .ok (.iaload, 1) := by decide +kernel
theorem dX5_ticks_102 : decode cX5_ticks 102 = .ok (.iadd, 1) := by decide +kernel
theorem dX5_ticks_103 : decode cX5_ticks 103 = .ok (.iastore, 1) := by decide +kernel
theorem dX5_ticks_104 : decode cX5_ticks 104 = .ok (.iinc 1 1, 3) := by decide +kernel
theorem dX5_ticks_107 : decode cX5_ticks 107 = .ok (.goto (-105), 3) := by decide +kernel
theorem dX5_ticks_110 : decode cX5_ticks 110 = .ok (.aload_n 0, 1) := by decide +kernel
theorem dX5_ticks_111 : decode cX5_ticks 111 = .ok (.invokevirtual 199, 3) := by decide +kernel
theorem dX5_ticks_114 : decode cX5_ticks 114 = .ok (.iconst 0, 1) := by decide +kernel
theorem dX5_ticks_115 : decode cX5_ticks 115 = .ok (.istore_n 1, 1) := by decide +kernel
theorem dX5_ticks_116 : decode cX5_ticks 116 = .ok (.iconst 0, 1) := by decide +kernel
theorem dX5_ticks_117 : decode cX5_ticks 117 = .ok (.istore_n 2, 1) := by decide +kernel
theorem dX5_ticks_118 : decode cX5_ticks 118 = .ok (.iload_n 2, 1) := by decide +kernel
theorem dX5_ticks_119 : decode cX5_ticks 119 = .ok (.aload_n 0, 1) := by decide +kernel
theorem dX5_ticks_120 : decode cX5_ticks 120 = .ok (.getfield 100, 3) := by decide +kernel
theorem dX5_ticks_123 : decode cX5_ticks 123 = .ok (.if_icmp .ge 71, 3) := by decide +kernel
theorem dX5_ticks_126 : decode cX5_ticks 126 = .ok (.iload_n 1, 1) := by decide +kernel
theorem dX5_ticks_127 : decode cX5_ticks 127 = .ok (.aload_n 0, 1) := by decide +kernel
theorem dX5_ticks_128 : decode cX5_ticks 128 = .ok (.getfield 82, 3) := by decide +kernel
theorem dX5_ticks_131 : decode cX5_ticks 131 = .ok (.iload_n 2, 1) := by decide +kernel
theorem dX5_ticks_132 : decode cX5_ticks 132 = .ok (.iaload, 1) := by decide +kernel
theorem dX5_ticks_133 : decode cX5_ticks 133 = .ok (.iconst (-1), 1) := by decide +kernel
theorem dX5_ticks_134 : decode cX5_ticks 134 = .ok (.if_icmp .ne 7, 3) := by decide +kernel
theorem dX5_ticks_137 : decode cX5_ticks 137 = .ok (.iconst 0, 1) := by decide +kernel
theorem dX5_ticks_138 : decode cX5_ticks 138 = .ok (.goto 14, 3) := by decide +kernel
theorem dX5_ticks_141 : decode cX5_ticks 141 = .ok (.aload_n 0, 1) := by decide +kernel
theorem dX5_ticks_142 : decode cX5_ticks 142 = .ok (.iload_n 2, 1) := by decide +kernel
theorem dX5_ticks_143 : decode cX5_ticks 143 = .ok (.aload_n 0, 1) := by decide +kernel
theorem dX5_ticks_144 : decode cX5_ticks 144 = .ok (.getfield 82, 3) := by decide +kernel
theorem dX5_ticks_147 : decode cX5_ticks 147 = .ok (.iload_n 2, 1) := by decide +kernel
theorem dX5_ticks_148 : decode cX5_ticks 148 = .ok (.iaload, 1) := by decide +kernel
theorem dX5_ticks_149 : decode cX5_ticks 149 = .ok (.invokevirtual 208, 3) := by decide +kernel
theorem dX5_ticks_152 : decode cX5_ticks 152 = .ok (.iadd, 1) := by decide +kernel
theorem dX5_ticks_153 : decode cX5_ticks 153 = .ok (.istore_n 1, 1) := by decide +kernel
theorem dX5_ticks_154 : decode cX5_ticks 154 = .ok (.aload_n 0, 1) := by decide +kernel
theorem dX5_ticks_155 : decode cX5_ticks 155 = .ok (.dup, 1) := by decide +kernel
theorem dX5_ticks_156 : decode cX5_ticks 156 = .ok (.getfield 211, 3) := by decide +kernel
theorem dX5_ticks_159 : decode cX5_ticks 159 = .ok (.aload_n 0, 1) := by decide +kernel
theorem dX5_ticks_160 : decode cX5_ticks 160 = .ok (.getfield 82, 3) := by decide +kernel
theorem dX5_ticks_163 : decode cX5_ticks 163 = .ok (.iload_n 2, 1) := by decide +kernel
theorem dX5_ticks_164 : decode cX5_ticks 164 = .ok (.iaload, 1) := by decide +kernel
theorem dX5_ticks_165 : decode cX5_ticks 165 = .ok (.iconst (-1), 1) := by decide +kernel
theorem dX5_ticks_166 : decode cX5_ticks 166 = .ok (.if_icmp .ne 7, 3) := by decide +kernel
theorem dX5_ticks_169 : decode cX5_ticks 169 = .ok (.iconst 0, 1) := by decide +kernel
theorem dX5_ticks_170 : decode cX5_ticks 170 = .ok (.goto 4, 3) := by decide +kernel
theorem dX5_ticks_173 : decode cX5_ticks 173 = .ok (.iconst 1, 1) := by decide +kernel
theorem dX5_ticks_174 : decode cX5_ticks 174 = .ok (.iadd, 1) := by decide +kernel
theorem dX5_ticks_175 : decode cX5_ticks 175 = .ok (.putfield 211, 3) := by decide +kernel
theorem dX5_ticks_178 : decode cX5_ticks 178 = .ok (.aload_n 0, 1) := by decide +kernel
theorem dX5_ticks_179 : decode cX5_ticks 179 = .ok (.dup, 1) := by decide +kernel
theorem dX5_ticks_180 : decode cX5_ticks 180 = .ok (.getfield 214, 3) := by decide +kernel
theorem dX5_ticks_183 : decode cX5_ticks 183 = .ok (.iconst 1, 1) := by decide +kernel
theorem dX5_ticks_184 : decode cX5_ticks 184 = .ok (.iadd, 1) := by decide +kernel
theorem dX5_ticks_185 : decode cX5_ticks 185 = .ok (.putfield 214, 3) := by decide +kernel
theorem dX5_ticks_188 : decode cX5_ticks 188 = .ok (.iinc 2 1, 3) := by decide +kernel
theorem dX5_ticks_191 : decode cX5_ticks 191 = .ok (.goto (-73), 3) := by decide +kernel
theorem dX5_ticks_194 : decode cX5_ticks 194 = .ok (.iconst 0, 1) := by decide +kernel
theorem dX5_ticks_195 : decode cX5_ticks 195 = .ok (.istore_n 2, 1) := by decide +kernel
theorem dX5_ticks_196 : decode cX5_ticks 196 = .ok (.iload_n 2, 1) := by decide +kernel
theorem dX5_ticks_197 : decode cX5_ticks 197 = .ok (.aload_n 0, 1) := by decide +kernel
theorem dX5_ticks_198 : decode cX5_ticks 198 = .ok (.getfield 100, 3) := by decide +kernel
theorem dX5_ticks_201 : decode cX5_ticks 201 = .ok (.if_icmp .ge 64, 3) := by decide +kernel
theorem dX5_ticks_204 : decode cX5_ticks 204 = .ok (.aload_n 0, 1) := by decide +kernel
theorem dX5_ticks_205 : decode cX5_ticks 205 = .ok (.getfield 13, 3) := by decide +kernel
theorem dX5_ticks_208 : decode cX5_ticks 208 = .ok (.iload_n 2, 1) := by decide +kernel
theorem dX5_ticks_209 : decode cX5_ticks 209 = .ok (.iaload, 1) := by decide +kernel
theorem dX5_ticks_210 : decode cX5_ticks 210 = .ok (.iconst 3, 1) := by decide +kernel
theorem dX5_ticks_211 : decode cX5_ticks 211 = .ok (.if_icmp .le 14, 3) := by decide +kernel
theorem dX5_ticks_214 : decode cX5_ticks 214 = .ok (.aload_n 0, 1) := by decide +kernel
theorem dX5_ticks_215 : decode cX5_ticks 215 = .ok (.getfield 13, 3) := by decide +kernel
theorem dX5_ticks_218 : decode cX5_ticks 218 = .ok (.iload_n 2, 1) := by decide +kernel
theorem dX5_ticks_219 : decode cX5_ticks 219 = .ok (.iaload, 1) := by decide +kernel
theorem dX5_ticks_220 : decode cX5_ticks 220 = .ok (.iconst 3, 1) := by decide +kernel
theorem dX5_ticks_221 : decode cX5_ticks 221 = .ok (.isub, 1) := by decide +kernel
theorem dX5_ticks_222 : decode cX5_ticks 222 = .ok (.goto 4, 3) := by decide +kernel
theorem dX5_ticks_225 : decode cX5_ticks 225 = .ok (.iconst 0, 1) := by decide +kernel
theorem dX5_ticks_226 : decode cX5_ticks 226 = .ok (.istore_n 3, 1) := by decide +kernel
theorem dX5_ticks_227 : decode cX5_ticks 227 = .ok (.aload_n 0, 1) := by decide +kernel
theorem dX5_ticks_228 : decode cX5_ticks 228 = .ok (.getfield 13, 3) := by decide +kernel
theorem dX5_ticks_231 : decode cX5_ticks 231 = .ok (.iload_n 2, 1) := by decide +kernel
theorem dX5_ticks_232 : decode cX5_ticks 232 = .ok (.aload_n 0, 1) := by decide +kernel
theorem dX5_ticks_233 : decode cX5_ticks 233 = .ok (.getfield 82, 3) := by decide +kernel
theorem dX5_ticks_236 : decode cX5_ticks 236 = .ok (.iload_n 2, 1) := by decide +kernel
theorem dX5_ticks_237 : decode cX5_ticks 237 = .ok (.iaload, 1) := by decide +kernel
theorem dX5_ticks_238 : decode cX5_ticks 238 = .ok (.iconst (-1), 1) := by decide +kernel
theorem dX5_ticks_239 : decode cX5_ticks 239 = .ok (.if_icmp .ne 7, 3) := by decide +kernel
theorem dX5_ticks_242 : decode cX5_ticks 242 = .ok (.iload_n 3, 1) := by decide +kernel
theorem dX5_ticks_243 : decode cX5_ticks 243 = .ok (.goto 15, 3) := by decide +kernel
theorem dX5_ticks_246 : decode cX5_ticks 246 = .ok (.aload_n 0, 1) := by decide +kernel
theorem dX5_ticks_247 : decode cX5_ticks 247 = .ok (.getfield 13, 3) := by decide +kernel
theorem dX5_ticks_250 : decode cX5_ticks 250 = .ok (.iload_n 2, 1) := by decide +kernel
theorem dX5_ticks_251 : decode cX5_ticks 251 = .ok (.iaload, 1) := by decide +kernel
theorem dX5_ticks_252 : decode cX5_ticks 252 = .ok (.aload_n 0, 1) := by decide +kernel
theorem dX5_ticks_253 : decode cX5_ticks 253 = .ok (.iload_n 2, 1) := by decide +kernel
theorem dX5_ticks_254 : decode cX5_ticks 254 = .ok (.invokevirtual 111, 3) := by decide +kernel
theorem dX5_ticks_257 : decode cX5_ticks 257 = .ok (.iadd, 1) := by decide +kernel
theorem dX5_ticks_258 : decode cX5_ticks 258 = .ok (.iastore, 1) := by decide +kernel
theorem dX5_ticks_259 : decode cX5_ticks 259 = .ok (.iinc 2 1, 3) := by decide +kernel
theorem dX5_ticks_262 : decode cX5_ticks 262 = .ok (.goto (-66), 3) := by decide +kernel
theorem dX5_ticks_265 : decode cX5_ticks 265 = .ok (.aload_n 0, 1) := by decide +kernel
theorem dX5_ticks_266 : decode cX5_ticks 266 = .ok (.dup, 1) := by decide +kernel
theorem dX5_ticks_267 : decode cX5_ticks 267 = .ok (.getfield 129, 3) := by decide +kernel
theorem dX5_ticks_270 : decode cX5_ticks 270 = .ok (.iconst 1, 1) := by decide +kernel
theorem dX5_ticks_271 : decode cX5_ticks 271 = .ok (.iadd, 1) := by decide +kernel
theorem dX5_ticks_272 : decode cX5_ticks 272 = .ok (.putfield 129, 3) := by decide +kernel
theorem dX5_ticks_275 : decode cX5_ticks 275 = .ok (.iload_n 1, 1) := by decide +kernel
theorem dX5_ticks_276 : decode cX5_ticks 276 = .ok (.ireturn, 1) := by decide +kernel
theorem dX5_pass_0 : decode cX5_pass 0 = .ok (.aload_n 0, 1) := by decide +kernel
theorem dX5_pass_1 : decode cX5_pass 1 = .ok (.iload_n 1, 1) := by decide +kernel
theorem dX5_pass_2 : decode cX5_pass 2 = .ok (.i2l, 1) := by decide +kernel
theorem dX5_pass_3 : decode cX5_pass 3 = .ok (.lconst 1, 1) := by decide +kernel
theorem dX5_pass_4 : decode cX5_pass 4 = .ok (.ldc2_w 217, 3) := by decide +kernel
theorem dX5_pass_7 : decode cX5_pass 7 = .ok (.invokestatic 96, 3) := by decide +kernel
theorem dX5_pass_10 : decode cX5_pass 10 = .ok (.ifCond .ne 7, 3) := by decide +kernel
theorem dX5_pass_13 : decode cX5_pass 13 = .ok (.iconst 1, 1) := by decide +kernel
theorem dX5_pass_14 : decode cX5_pass 14 = .ok (.goto 20, 3) := by decide +kernel
theorem dX5_pass_17 : decode cX5_pass 17 = .ok (.aload_n 0, 1) := by decide +kernel
theorem dX5_pass_18 : decode cX5_pass 18 = .ok (.getfield 129, 3) := by decide +kernel
theorem dX5_pass_21 : decode cX5_pass 21 = .ok (.iload_n 1, 1) := by decide +kernel
theorem dX5_pass_22 : decode cX5_pass 22 = .ok (.iadd, 1) := by decide +kernel
theorem dX5_pass_23 : decode cX5_pass 23 = .ok (.sipush 900, 3) := by decide +kernel
theorem dX5_pass_26 : decode cX5_pass 26 = .ok (.if_icmp .le 7, 3) := by decide +kernel
theorem dX5_pass_29 : decode cX5_pass 29 = .ok (.iconst 2, 1) := by decide +kernel
theorem dX5_pass_30 : decode cX5_pass 30 = .ok (.goto 4, 3) := by decide +kernel
theorem dX5_pass_33 : decode cX5_pass 33 = .ok (.iconst 0, 1) := by decide +kernel
theorem dX5_pass_34 : decode cX5_pass 34 = .ok (.putfield 91, 3) := by decide +kernel
theorem dX5_pass_37 : decode cX5_pass 37 = .ok (.aload_n 0, 1) := by decide +kernel
theorem dX5_pass_38 : decode cX5_pass 38 = .ok (.getfield 91, 3) := by decide +kernel
theorem dX5_pass_41 : decode cX5_pass 41 = .ok (.ifCond .le 5, 3) := by decide +kernel
theorem dX5_pass_44 : decode cX5_pass 44 = .ok (.iconst (-1), 1) := by decide +kernel
theorem dX5_pass_45 : decode cX5_pass 45 = .ok (.ireturn, 1) := by decide +kernel
theorem dX5_pass_46 : decode cX5_pass 46 = .ok (.iconst 0, 1) := by decide +kernel
theorem dX5_pass_47 : decode cX5_pass 47 = .ok (.istore_n 2, 1) := by decide +kernel
theorem dX5_pass_48 : decode cX5_pass 48 = .ok (.iconst 0, 1) := by decide +kernel
theorem dX5_pass_49 : decode cX5_pass 49 = .ok (.istore_n 3, 1) := by decide +kernel
theorem dX5_pass_50 : decode cX5_pass 50 = .ok (.iload_n 3, 1) := by decide +kernel
theorem dX5_pass_51 : decode cX5_pass 51 = .ok (.iload_n 1, 1) := by decide +kernel
theorem dX5_pass_52 : decode cX5_pass 52 = .ok (.if_icmp .ge 16, 3) := by decide +kernel
theorem dX5_pass_55 : decode cX5_pass 55 = .ok (.iload_n 2, 1) := by decide +kernel
theorem dX5_pass_56 : decode cX5_pass 56 = .ok (.aload_n 0, 1) := by decide +kernel
theorem dX5_pass_57 : decode cX5_pass 57 = .ok (.invokevirtual 219, 3) := by decide +kernel
theorem dX5_pass_60 : decode cX5_pass 60 = .ok (.iadd, 1) := by decide +kernel
theorem dX5_pass_61 : decode cX5_pass 61 = .ok (.istore_n 2, 1) := by decide +kernel
theorem dX5_pass_62 : decode cX5_pass 62 = .ok (.iinc 3 1, 3) := by decide +kernel
theorem dX5_pass_65 : decode cX5_pass 65 = .ok (.goto (-15), 3) := by decide +kernel
theorem dX5_pass_68 : decode cX5_pass 68 = .ok (.iload_n 2, 1) := by decide +kernel
theorem dX5_pass_69 : decode cX5_pass 69 = .ok (.ireturn, 1) := by decide +kernel
theorem dX5_now_0 : decode cX5_now 0 = .ok (.aload_n 0, 1) := by decide +kernel
theorem dX5_now_1 : decode cX5_now 1 = .ok (.iconst 0, 1) := by decide +kernel
theorem dX5_now_2 : decode cX5_now 2 = .ok (.putfield 91, 3) := by decide +kernel
theorem dX5_now_5 : decode cX5_now 5 = .ok (.aload_n 0, 1) := by decide +kernel
theorem dX5_now_6 : decode cX5_now 6 = .ok (.getfield 129, 3) := by decide +kernel
theorem dX5_now_9 : decode cX5_now 9 = .ok (.ireturn, 1) := by decide +kernel
theorem dX5_moves_0 : decode cX5_moves 0 = .ok (.aload_n 0, 1) := by decide +kernel
theorem dX5_moves_1 : decode cX5_moves 1 = .ok (.iconst 0, 1) := by decide +kernel
theorem dX5_moves_2 : decode cX5_moves 2 = .ok (.putfield 91, 3) := by decide +kernel
theorem dX5_moves_5 : decode cX5_moves 5 = .ok (.aload_n 0, 1) := by decide +kernel
theorem dX5_moves_6 : decode cX5_moves 6 = .ok (.getfield 205, 3) := by decide +kernel
theorem dX5_moves_9 : decode cX5_moves 9 = .ok (.ireturn, 1) := by decide +kernel
theorem dX5_usedShare_0 : decode cX5_usedShare 0 = .ok (.aload_n 0, 1) := by decide +kernel
theorem dX5_usedShare_1 : decode cX5_usedShare 1 = .ok (.aload_n 0, 1) := by decide +kernel
theorem dX5_usedShare_2 : decode cX5_usedShare 2 = .ok (.getfield 214, 3) := by decide +kernel
theorem dX5_usedShare_5 : decode cX5_usedShare 5 = .ok (.ifCond .ne 7, 3) := by decide +kernel
theorem dX5_usedShare_8 : decode cX5_usedShare 8 = .ok (.iconst 1, 1) := by decide +kernel
theorem dX5_usedShare_9 : decode cX5_usedShare 9 = .ok (.goto 4, 3) := by decide +kernel
theorem dX5_usedShare_12 : decode cX5_usedShare 12 = .ok (.iconst 0, 1) := by decide +kernel
theorem dX5_usedShare_13 : decode cX5_usedShare 13 = .ok (.putfield 91, 3) := by decide +kernel
theorem dX5_usedShare_16 : decode cX5_usedShare 16 = .ok (.aload_n 0, 1) := by decide +kernel
theorem dX5_usedShare_17 : decode cX5_usedShare 17 = .ok (.getfield 91, 3) := by decide +kernel
theorem dX5_usedShare_20 : decode cX5_usedShare 20 = .ok (.ifCond .ne 17, 3) := by decide +kernel
theorem dX5_usedShare_23 : decode cX5_usedShare 23 = .ok (.aload_n 0, 1) := by decide +kernel
theorem dX5_usedShare_24 : decode cX5_usedShare 24 = .ok (.getfield 211, 3) := by decide +kernel
theorem dX5_usedShare_27 : decode cX5_usedShare 27 = .ok (.i2f, 1) := by decide +kernel
theorem dX5_usedShare_28 : decode cX5_usedShare 28 = .ok (.aload_n 0, 1) := by decide +kernel
theorem dX5_usedShare_29 : decode cX5_usedShare 29 = .ok (.getfield 214, 3) := by decide +kernel
theorem dX5_usedShare_32 : decode cX5_usedShare 32 = .ok (.i2f, 1) := by decide +kernel
theorem dX5_usedShare_33 : decode cX5_usedShare 33 = .ok (.fdiv, 1) := by decide +kernel
theorem dX5_usedShare_34 : decode cX5_usedShare 34 = .ok (.goto 4, 3) := by decide +kernel
theorem dX5_usedShare_37 : decode cX5_usedShare 37 = .ok (.fconst 0, 1) := by decide +kernel
theorem dX5_usedShare_38 : decode cX5_usedShare 38 = .ok (.freturn, 1) := by decide +kernel
theorem dX5_meanHeat_0 : decode cX5_meanHeat 0 = .ok (.iconst 0, 1) := by decide +kernel
theorem dX5_meanHeat_1 : decode cX5_meanHeat 1 = .ok (.istore_n 1, 1) := by decide +kernel
theorem dX5_meanHeat_2 : decode cX5_meanHeat 2 = .ok (.iconst 0, 1) := by decide +kernel
theorem dX5_meanHeat_3 : decode cX5_meanHeat 3 = .ok (.istore_n 2, 1) := by decide +kernel
theorem dX5_meanHeat_4 : decode cX5_meanHeat 4 = .ok (.iload_n 2, 1) := by decide +kernel
theorem dX5_meanHeat_5 : decode cX5_meanHeat 5 = .ok (.aload_n 0, 1) := by decide +kernel
theorem dX5_meanHeat_6 : decode cX5_meanHeat 6 = .ok (.getfield 100, 3) := by decide +kernel
theorem dX5_meanHeat_9 : decode cX5_meanHeat 9 = .ok (.if_icmp .ge 18, 3) := by decide +kernel
theorem dX5_meanHeat_12 : decode cX5_meanHeat 12 = .ok (.iload_n 1, 1) := by decide +kernel
theorem dX5_meanHeat_13 : decode cX5_meanHeat 13 = .ok (.aload_n 0, 1) := by decide +kernel
theorem dX5_meanHeat_14 : decode cX5_meanHeat 14 = .ok (.getfield 13, 3) := by decide +kernel
theorem dX5_meanHeat_17 : decode cX5_meanHeat 17 = .ok (.iload_n 2, 1) := by decide +kernel
theorem dX5_meanHeat_18 : decode cX5_meanHeat 18 = .ok (.iaload, 1) := by decide +kernel
theorem dX5_meanHeat_19 : decode cX5_meanHeat 19 = .ok (.iadd, 1) := by decide +kernel
theorem dX5_meanHeat_20 : decode cX5_meanHeat 20 = .ok (.istore_n 1, 1) := by decide +kernel
theorem dX5_meanHeat_21 : decode cX5_meanHeat 21 = .ok (.iinc 2 1, 3) := by decide +kernel
theorem dX5_meanHeat_24 : decode cX5_meanHeat 24 = .ok (.goto (-20), 3) := by decide +kernel
theorem dX5_meanHeat_27 : decode cX5_meanHeat 27 = .ok (.aload_n 0, 1) := by decide +kernel
theorem dX5_meanHeat_28 : decode cX5_meanHeat 28 = .ok (.aload_n 0, 1) := by decide +kernel
theorem dX5_meanHeat_29 : decode cX5_meanHeat 29 = .ok (.getfield 100, 3) := by decide +kernel
theorem dX5_meanHeat_32 : decode cX5_meanHeat 32 = .ok (.ifCond .ne 7, 3) := by decide +kernel
theorem dX5_meanHeat_35 : decode cX5_meanHeat 35 = .ok (.iconst 1, 1) := by decide +kernel
theorem dX5_meanHeat_36 : decode cX5_meanHeat 36 = .ok (.goto 4, 3) := by decide +kernel
theorem dX5_meanHeat_39 : decode cX5_meanHeat 39 = .ok (.iconst 0, 1) := by decide +kernel
theorem dX5_meanHeat_40 : decode cX5_meanHeat 40 = .ok (.putfield 91, 3) := by decide +kernel
theorem dX5_meanHeat_43 : decode cX5_meanHeat 43 = .ok (.aload_n 0, 1) := by decide +kernel
theorem dX5_meanHeat_44 : decode cX5_meanHeat 44 = .ok (.getfield 91, 3) := by decide +kernel
theorem dX5_meanHeat_47 : decode cX5_meanHeat 47 = .ok (.ifCond .ne 14, 3) := by decide +kernel
theorem dX5_meanHeat_50 : decode cX5_meanHeat 50 = .ok (.iload_n 1, 1) := by decide +kernel
theorem dX5_meanHeat_51 : decode cX5_meanHeat 51 = .ok (.i2d, 1) := by decide +kernel
theorem dX5_meanHeat_52 : decode cX5_meanHeat 52 = .ok (.aload_n 0, 1) := by decide +kernel
theorem dX5_meanHeat_53 : decode cX5_meanHeat 53 = .ok (.getfield 100, 3) := by decide +kernel
theorem dX5_meanHeat_56 : decode cX5_meanHeat 56 = .ok (.i2d, 1) := by decide +kernel
theorem dX5_meanHeat_57 : decode cX5_meanHeat 57 = .ok (.ddiv, 1) := by decide +kernel
theorem dX5_meanHeat_58 : decode cX5_meanHeat 58 = .ok (.goto 4, 3) := by decide +kernel
theorem dX5_meanHeat_61 : decode cX5_meanHeat 61 = .ok (.dconst 0, 1) := by decide +kernel
theorem dX5_meanHeat_62 : decode cX5_meanHeat 62 = .ok (.dreturn, 1) := by decide +kernel
theorem dX5_isSound_0 : decode cX5_isSound 0 = .ok (.aload_n 0, 1) := by decide +kernel
theorem dX5_isSound_1 : decode cX5_isSound 1 = .ok (.iconst 0, 1) := by decide +kernel
theorem dX5_isSound_2 : decode cX5_isSound 2 = .ok (.putfield 91, 3) := by decide +kernel
theorem dX5_isSound_5 : decode cX5_isSound 5 = .ok (.iconst 1, 1) := by decide +kernel
theorem dX5_isSound_6 : decode cX5_isSound 6 = .ok (.ireturn, 1) := by decide +kernel
theorem dJx00060_init_a7421_0 : decode cJx00060_init_a7421 0 = .ok (.aload_n 0, 1) := by decide +kernel
theorem dJx00060_init_a7421_1 : decode cJx00060_init_a7421 1 = .ok (.aload_n 1, 1) := by decide +kernel
theorem dJx00060_init_a7421_2 : decode cJx00060_init_a7421 2 = .ok (.invokespecial 7, 3) := by decide +kernel
theorem dJx00060_init_a7421_5 : decode cJx00060_init_a7421 5 = .ok (.return_, 1) := by decide +kernel
theorem dJ9_max_7cf53_0 : decode cJ9_max_7cf53 0 = .ok (.iload_n 0, 1) := by decide +kernel
theorem dJ9_max_7cf53_1 : decode cJ9_max_7cf53 1 = .ok (.iload_n 1, 1) := by decide +kernel
theorem dJ9_max_7cf53_2 : decode cJ9_max_7cf53 2 = .ok (.if_icmp .lt 7, 3) := by decide +kernel
theorem dJ9_max_7cf53_5 : decode cJ9_max_7cf53 5 = .ok (.iload_n 0, 1) := by decide +kernel
theorem dJ9_max_7cf53_6 : decode cJ9_max_7cf53 6 = .ok (.goto 4, 3) := by decide +kernel
theorem dJ9_max_7cf53_9 : decode cJ9_max_7cf53 9 = .ok (.iload_n 1, 1) := by decide +kernel
theorem dJ9_max_7cf53_10 : decode cJ9_max_7cf53 10 = .ok (.ireturn, 1) := by decide +kernel
theorem dJ9_min_7cf53_0 : decode cJ9_min_7cf53 0 = .ok (.iload_n 0, 1) := by decide +kernel
theorem dJ9_min_7cf53_1 : decode cJ9_min_7cf53 1 = .ok (.iload_n 1, 1) := by decide +kernel
theorem dJ9_min_7cf53_2 : decode cJ9_min_7cf53 2 = .ok (.if_icmp .gt 7, 3) := by decide +kernel
theorem dJ9_min_7cf53_5 : decode cJ9_min_7cf53 5 = .ok (.iload_n 0, 1) := by decide +kernel
theorem dJ9_min_7cf53_6 : decode cJ9_min_7cf53 6 = .ok (.goto 4, 3) := by decide +kernel
theorem dJ9_min_7cf53_9 : decode cJ9_min_7cf53 9 = .ok (.iload_n 1, 1) := by decide +kernel
theorem dJ9_min_7cf53_10 : decode cJ9_min_7cf53 10 = .ok (.ireturn, 1) := by decide +kernel
theorem dJ9_min_f86c9_0 : decode cJ9_min_f86c9 0 = .ok (.lload_n 0, 1) := by decide +kernel
theorem dJ9_min_f86c9_1 : decode cJ9_min_f86c9 1 = .ok (.lload_n 2, 1) := by decide +kernel
theorem dJ9_min_f86c9_2 : decode cJ9_min_f86c9 2 = .ok (.lcmp, 1) := by decide +kernel
theorem dJ9_min_f86c9_3 : decode cJ9_min_f86c9 3 = .ok (.ifCond .gt 7, 3) := by decide +kernel
theorem dJ9_min_f86c9_6 : decode cJ9_min_f86c9 6 = .ok (.lload_n 0, 1) := by decide +kernel
theorem dJ9_min_f86c9_7 : decode cJ9_min_f86c9 7 = .ok (.goto 4, 3) := by decide +kernel
theorem dJ9_min_f86c9_10 : decode cJ9_min_f86c9 10 = .ok (.lload_n 2, 1) := by decide +kernel
theorem dJ9_min_f86c9_11 : decode cJ9_min_f86c9 11 = .ok (.lreturn, 1) := by decide +kernel
theorem dJxa1e45_init_da8c8_0 : decode cJxa1e45_init_da8c8 0 = .ok (.aload_n 0, 1) := by decide +kernel
theorem dJxa1e45_init_da8c8_1 : decode cJxa1e45_init_da8c8 1 = .ok (.invokespecial 1, 3) := by decide +kernel
theorem dJxa1e45_init_da8c8_4 : decode cJxa1e45_init_da8c8 4 = .ok (.return_, 1) := by decide +kernel
theorem dJxc12de_init_da8c8_0 : decode cJxc12de_init_da8c8 0 = .ok (.aload_n 0, 1) := by decide +kernel
theorem dJxc12de_init_da8c8_1 : decode cJxc12de_init_da8c8 1 = .ok (.invokespecial 1, 3) := by decide +kernel
theorem dJxc12de_init_da8c8_4 : decode cJxc12de_init_da8c8 4 = .ok (.aload_n 0, 1) := by decide +kernel
theorem dJxc12de_init_da8c8_5 : decode cJxc12de_init_da8c8 5 = .ok (.iconst 0, 1) := by decide +kernel
theorem dJxc12de_init_da8c8_6 : decode cJxc12de_init_da8c8 6 = .ok (.putfield 7, 3) := by decide +kernel
theorem dJxc12de_init_da8c8_9 : decode cJxc12de_init_da8c8 9 = .ok (.return_, 1) := by decide +kernel
theorem dJx4a65c_init_da8c8_0 : decode cJx4a65c_init_da8c8 0 = .ok (.aload_n 0, 1) := by decide +kernel
theorem dJx4a65c_init_da8c8_1 : decode cJx4a65c_init_da8c8 1 = .ok (.invokespecial 1, 3) := by decide +kernel
theorem dJx4a65c_init_da8c8_4 : decode cJx4a65c_init_da8c8 4 = .ok (.aload_n 0, 1) := by decide +kernel
theorem dJx4a65c_init_da8c8_5 : decode cJx4a65c_init_da8c8 5 = .ok (.getstatic 39, 3) := by decide +kernel
theorem dJx4a65c_init_da8c8_8 : decode cJx4a65c_init_da8c8 8 = .ok (.putfield 9, 3) := by decide +kernel
theorem dJx4a65c_init_da8c8_11 : decode cJx4a65c_init_da8c8 11 = .ok (.return_, 1) := by decide +kernel
theorem dJx4a65c_grow_92f84_0 : decode cJx4a65c_grow_92f84 0 = .ok (.aload_n 0, 1) := by decide +kernel
theorem dJx4a65c_grow_92f84_1 : decode cJx4a65c_grow_92f84 1 = .ok (.getfield 9, 3) := by decide +kernel
theorem dJx4a65c_grow_92f84_4 : decode cJx4a65c_grow_92f84 4 = .ok (.arraylength, 1) := by decide +kernel
theorem dJx4a65c_grow_92f84_5 : decode cJx4a65c_grow_92f84 5 = .ok (.istore_n 2, 1) := by decide +kernel
theorem dJx4a65c_grow_92f84_6 : decode cJx4a65c_grow_92f84 6 = .ok (.iload_n 2, 1) := by decide +kernel
theorem dJx4a65c_grow_92f84_7 : decode cJx4a65c_grow_92f84 7 = .ok (.ifCond .gt 13, 3) := by decide +kernel
theorem dJx4a65c_grow_92f84_10 : decode cJx4a65c_grow_92f84 10 = .ok (.aload_n 0, 1) := by decide +kernel
theorem dJx4a65c_grow_92f84_11 : decode cJx4a65c_grow_92f84 11 = .ok (.getfield 9, 3) := by decide +kernel
theorem dJx4a65c_grow_92f84_14 : decode cJx4a65c_grow_92f84 14 = .ok (.getstatic 39, 3) := by decide +kernel
theorem dJx4a65c_grow_92f84_17 : decode cJx4a65c_grow_92f84 17 = .ok (.if_acmp .eq 28, 3) := by decide +kernel
theorem dJx4a65c_grow_92f84_20 : decode cJx4a65c_grow_92f84 20 = .ok (.iload_n 2, 1) := by decide +kernel
theorem dJx4a65c_grow_92f84_21 : decode cJx4a65c_grow_92f84 21 = .ok (.iload_n 1, 1) := by decide +kernel
theorem dJx4a65c_grow_92f84_22 : decode cJx4a65c_grow_92f84 22 = .ok (.iload_n 2, 1) := by decide +kernel
theorem dJx4a65c_grow_92f84_23 : decode cJx4a65c_grow_92f84 23 = .ok (.isub, 1) := by decide +kernel
theorem dJx4a65c_grow_92f84_24 : decode cJx4a65c_grow_92f84 24 = .ok (.iload_n 2, 1) := by decide +kernel
theorem dJx4a65c_grow_92f84_25 : decode cJx4a65c_grow_92f84 25 = .ok (.iconst 1, 1) := by decide +kernel
theorem dJx4a65c_grow_92f84_26 : decode cJx4a65c_grow_92f84 26 = .ok (.ishr, 1) := by decide +kernel
theorem dJx4a65c_grow_92f84_27 : decode cJx4a65c_grow_92f84 27 = .ok (.invokestatic 73, 3) := by decide +kernel
theorem dJx4a65c_grow_92f84_30 : decode cJx4a65c_grow_92f84 30 = .ok (.istore_n 3, 1) := by decide +kernel
theorem dJx4a65c_grow_92f84_31 : decode cJx4a65c_grow_92f84 31 = .ok (.aload_n 0, 1) := by decide +kernel
theorem dJx4a65c_grow_92f84_32 : decode cJx4a65c_grow_92f84 32 = .ok (.aload_n 0, 1) := by decide +kernel
theorem dJx4a65c_grow_92f84_33 : decode cJx4a65c_grow_92f84 33 = .ok (.getfield 9, 3) := by decide +kernel
theorem dJx4a65c_grow_92f84_36 : decode cJx4a65c_grow_92f84 36 = .ok (.iload_n 3, 1) := by decide +kernel
theorem dJx4a65c_grow_92f84_37 : decode cJx4a65c_grow_92f84 37 = .ok (.invokestatic 66, 3) := by decide +kernel
theorem dJx4a65c_grow_92f84_40 : decode cJx4a65c_grow_92f84 40 = .ok (.dup_x1, 1) := by decide +kernel
theorem dJx4a65c_grow_92f84_41 : decode cJx4a65c_grow_92f84 41 = .ok (.putfield 9, 3) := by decide +kernel
theorem dJx4a65c_grow_92f84_44 : decode cJx4a65c_grow_92f84 44 = .ok (.areturn, 1) := by decide +kernel
theorem dJx4a65c_grow_92f84_45 : decode cJx4a65c_grow_92f84 45 = .ok (.aload_n 0, 1) := by decide +kernel
theorem dJx4a65c_grow_92f84_46 : decode cJx4a65c_grow_92f84 46 = .ok (.bipush 10, 2) := by decide +kernel
theorem dJx4a65c_grow_92f84_48 : decode cJx4a65c_grow_92f84 48 = .ok (.iload_n 1, 1) := by decide +kernel
theorem dJx4a65c_grow_92f84_49 : decode cJx4a65c_grow_92f84 49 = .ok (.invokestatic 79, 3) := by decide +kernel
theorem dJx4a65c_grow_92f84_52 : decode cJx4a65c_grow_92f84 52 = .ok (.anewarray 7, 3) := by decide +kernel
theorem dJx4a65c_grow_92f84_55 : decode cJx4a65c_grow_92f84 55 = .ok (.dup_x1, 1) := by decide +kernel
theorem dJx4a65c_grow_92f84_56 : decode cJx4a65c_grow_92f84 56 = .ok (.putfield 9, 3) := by decide +kernel
theorem dJx4a65c_grow_92f84_59 : decode cJx4a65c_grow_92f84 59 = .ok (.areturn, 1) := by decide +kernel
theorem dJx4a65c_grow_d5877_0 : decode cJx4a65c_grow_d5877 0 = .ok (.aload_n 0, 1) := by decide +kernel
theorem dJx4a65c_grow_d5877_1 : decode cJx4a65c_grow_d5877 1 = .ok (.aload_n 0, 1) := by decide +kernel
theorem dJx4a65c_grow_d5877_2 : decode cJx4a65c_grow_d5877 2 = .ok (.getfield 48, 3) := by decide +kernel
theorem dJx4a65c_grow_d5877_5 : decode cJx4a65c_grow_d5877 5 = .ok (.iconst 1, 1) := by decide +kernel
theorem dJx4a65c_grow_d5877_6 : decode cJx4a65c_grow_d5877 6 = .ok (.iadd, 1) := by decide +kernel
theorem dJx4a65c_grow_d5877_7 : decode cJx4a65c_grow_d5877 7 = .ok (.invokevirtual 69, 3) := by decide +kernel
theorem dJx4a65c_grow_d5877_10 : decode cJx4a65c_grow_d5877 10 = .ok (.areturn, 1) := by decide +kernel
theorem dJx4a65c_size_8abf5_0 : decode cJx4a65c_size_8abf5 0 = .ok (.aload_n 0, 1) := by decide +kernel
theorem dJx4a65c_size_8abf5_1 : decode cJx4a65c_size_8abf5 1 = .ok (.getfield 48, 3) := by decide +kernel
theorem dJx4a65c_size_8abf5_4 : decode cJx4a65c_size_8abf5 4 = .ok (.ireturn, 1) := by decide +kernel
theorem dJx4a65c_isEmpty_aae02_0 : decode cJx4a65c_isEmpty_aae02 0 = .ok (.aload_n 0, 1) := by decide +kernel
theorem dJx4a65c_isEmpty_aae02_1 : decode cJx4a65c_isEmpty_aae02 1 = .ok (.getfield 48, 3) := by decide +kernel
theorem dJx4a65c_isEmpty_aae02_4 : decode cJx4a65c_isEmpty_aae02 4 = .ok (.ifCond .ne 7, 3) := by decide +kernel
theorem dJx4a65c_isEmpty_aae02_7 : decode cJx4a65c_isEmpty_aae02 7 = .ok (.iconst 1, 1) := by decide +kernel
theorem dJx4a65c_isEmpty_aae02_8 : decode cJx4a65c_isEmpty_aae02 8 = .ok (.goto 4, 3) := by decide +kernel
theorem dJx4a65c_isEmpty_aae02_11 : decode cJx4a65c_isEmpty_aae02 11 = .ok (.iconst 0, 1) := by decide +kernel
theorem dJx4a65c_isEmpty_aae02_12 : decode cJx4a65c_isEmpty_aae02 12 = .ok (.ireturn, 1) := by decide +kernel
theorem dJx4a65c_elementData_915e3_0 : decode cJx4a65c_elementData_915e3 0 = .ok (.aload_n 0, 1) := by decide +kernel
theorem dJx4a65c_elementData_915e3_1 : decode cJx4a65c_elementData_915e3 1 = .ok (.getfield 9, 3) := by decide +kernel
theorem dJx4a65c_elementData_915e3_4 : decode cJx4a65c_elementData_915e3 4 = .ok (.iload_n 1, 1) := by decide +kernel
theorem dJx4a65c_elementData_915e3_5 : decode cJx4a65c_elementData_915e3 5 = .ok (.aaload, 1) := by decide +kernel
theorem dJx4a65c_elementData_915e3_6 : decode cJx4a65c_elementData_915e3 6 = .ok (.areturn, 1) := by decide +kernel
theorem dJx4a65c_get_915e3_0 : decode cJx4a65c_get_915e3 0 = .ok (.iload_n 1, 1) := by decide +kernel
theorem dJx4a65c_get_915e3_1 : decode cJx4a65c_get_915e3 1 = .ok (.aload_n 0, 1) := by decide +kernel
theorem dJx4a65c_get_915e3_2 : decode cJx4a65c_get_915e3 2 = .ok (.getfield 48, 3) := by decide +kernel
theorem dJx4a65c_get_915e3_5 : decode cJx4a65c_get_915e3 5 = .ok (.invokestatic 118, 3) := by decide +kernel
theorem dJx4a65c_get_915e3_8 : decode cJx4a65c_get_915e3 8 = .ok (.pop, 1) := by decide +kernel
theorem dJx4a65c_get_915e3_9 : decode cJx4a65c_get_915e3 9 = .ok (.aload_n 0, 1) := by decide +kernel
theorem dJx4a65c_get_915e3_10 : decode cJx4a65c_get_915e3 10 = .ok (.iload_n 1, 1) := by decide +kernel
theorem dJx4a65c_get_915e3_11 : decode cJx4a65c_get_915e3 11 = .ok (.invokevirtual 123, 3) := by decide +kernel
theorem dJx4a65c_get_915e3_14 : decode cJx4a65c_get_915e3 14 = .ok (.areturn, 1) := by decide +kernel
theorem dJx4a65c_add_72be8_0 : decode cJx4a65c_add_72be8 0 = .ok (.iload_n 3, 1) := by decide +kernel
theorem dJx4a65c_add_72be8_1 : decode cJx4a65c_add_72be8 1 = .ok (.aload_n 2, 1) := by decide +kernel
theorem dJx4a65c_add_72be8_2 : decode cJx4a65c_add_72be8 2 = .ok (.arraylength, 1) := by decide +kernel
theorem dJx4a65c_add_72be8_3 : decode cJx4a65c_add_72be8 3 = .ok (.if_icmp .ne 8, 3) := by decide +kernel
theorem dJx4a65c_add_72be8_6 : decode cJx4a65c_add_72be8 6 = .ok (.aload_n 0, 1) := by decide +kernel
theorem dJx4a65c_add_72be8_7 : decode cJx4a65c_add_72be8 7 = .ok (.invokevirtual 129, 3) := by decide +kernel
theorem dJx4a65c_add_72be8_10 : decode cJx4a65c_add_72be8 10 = .ok (.astore_n 2, 1) := by decide +kernel
theorem dJx4a65c_add_72be8_11 : decode cJx4a65c_add_72be8 11 = .ok (.aload_n 2, 1) := by decide +kernel
theorem dJx4a65c_add_72be8_12 : decode cJx4a65c_add_72be8 12 = .ok (.iload_n 3, 1) := by decide +kernel
theorem dJx4a65c_add_72be8_13 : decode cJx4a65c_add_72be8 13 = .ok (.aload_n 1, 1) := by decide +kernel
theorem dJx4a65c_add_72be8_14 : decode cJx4a65c_add_72be8 14 = .ok (.aastore, 1) := by decide +kernel
theorem dJx4a65c_add_72be8_15 : decode cJx4a65c_add_72be8 15 = .ok (.aload_n 0, 1) := by decide +kernel
theorem dJx4a65c_add_72be8_16 : decode cJx4a65c_add_72be8 16 = .ok (.iload_n 3, 1) := by decide +kernel
theorem dJx4a65c_add_72be8_17 : decode cJx4a65c_add_72be8 17 = .ok (.iconst 1, 1) := by decide +kernel
theorem dJx4a65c_add_72be8_18 : decode cJx4a65c_add_72be8 18 = .ok (.iadd, 1) := by decide +kernel
theorem dJx4a65c_add_72be8_19 : decode cJx4a65c_add_72be8 19 = .ok (.putfield 48, 3) := by decide +kernel
theorem dJx4a65c_add_72be8_22 : decode cJx4a65c_add_72be8 22 = .ok (.return_, 1) := by decide +kernel
theorem dJx4a65c_add_9ea2d_0 : decode cJx4a65c_add_9ea2d 0 = .ok (.aload_n 0, 1) := by decide +kernel
theorem dJx4a65c_add_9ea2d_1 : decode cJx4a65c_add_9ea2d 1 = .ok (.dup, 1) := by decide +kernel
theorem dJx4a65c_add_9ea2d_2 : decode cJx4a65c_add_9ea2d 2 = .ok (.getfield 63, 3) := by decide +kernel
theorem dJx4a65c_add_9ea2d_5 : decode cJx4a65c_add_9ea2d 5 = .ok (.iconst 1, 1) := by decide +kernel
theorem dJx4a65c_add_9ea2d_6 : decode cJx4a65c_add_9ea2d 6 = .ok (.iadd, 1) := by decide +kernel
theorem dJx4a65c_add_9ea2d_7 : decode cJx4a65c_add_9ea2d 7 = .ok (.putfield 63, 3) := by decide +kernel
theorem dJx4a65c_add_9ea2d_10 : decode cJx4a65c_add_9ea2d 10 = .ok (.aload_n 0, 1) := by decide +kernel
theorem dJx4a65c_add_9ea2d_11 : decode cJx4a65c_add_9ea2d 11 = .ok (.aload_n 1, 1) := by decide +kernel
theorem dJx4a65c_add_9ea2d_12 : decode cJx4a65c_add_9ea2d 12 = .ok (.aload_n 0, 1) := by decide +kernel
theorem dJx4a65c_add_9ea2d_13 : decode cJx4a65c_add_9ea2d 13 = .ok (.getfield 9, 3) := by decide +kernel
theorem dJx4a65c_add_9ea2d_16 : decode cJx4a65c_add_9ea2d 16 = .ok (.aload_n 0, 1) := by decide +kernel
theorem dJx4a65c_add_9ea2d_17 : decode cJx4a65c_add_9ea2d 17 = .ok (.getfield 48, 3) := by decide +kernel
theorem dJx4a65c_add_9ea2d_20 : decode cJx4a65c_add_9ea2d 20 = .ok (.invokevirtual 131, 3) := by decide +kernel
theorem dJx4a65c_add_9ea2d_23 : decode cJx4a65c_add_9ea2d 23 = .ok (.iconst 1, 1) := by decide +kernel
theorem dJx4a65c_add_9ea2d_24 : decode cJx4a65c_add_9ea2d 24 = .ok (.ireturn, 1) := by decide +kernel
theorem dJx4a65c_remove_915e3_0 : decode cJx4a65c_remove_915e3 0 = .ok (.iload_n 1, 1) := by decide +kernel
theorem dJx4a65c_remove_915e3_1 : decode cJx4a65c_remove_915e3 1 = .ok (.aload_n 0, 1) := by decide +kernel
theorem dJx4a65c_remove_915e3_2 : decode cJx4a65c_remove_915e3 2 = .ok (.getfield 48, 3) := by decide +kernel
theorem dJx4a65c_remove_915e3_5 : decode cJx4a65c_remove_915e3 5 = .ok (.invokestatic 118, 3) := by decide +kernel
theorem dJx4a65c_remove_915e3_8 : decode cJx4a65c_remove_915e3 8 = .ok (.pop, 1) := by decide +kernel
theorem dJx4a65c_remove_915e3_9 : decode cJx4a65c_remove_915e3 9 = .ok (.aload_n 0, 1) := by decide +kernel
theorem dJx4a65c_remove_915e3_10 : decode cJx4a65c_remove_915e3 10 = .ok (.getfield 9, 3) := by decide +kernel
theorem dJx4a65c_remove_915e3_13 : decode cJx4a65c_remove_915e3 13 = .ok (.astore_n 2, 1) := by decide +kernel
theorem dJx4a65c_remove_915e3_14 : decode cJx4a65c_remove_915e3 14 = .ok (.aload_n 2, 1) := by decide +kernel
theorem dJx4a65c_remove_915e3_15 : decode cJx4a65c_remove_915e3 15 = .ok (.iload_n 1, 1) := by decide +kernel
theorem dJx4a65c_remove_915e3_16 : decode cJx4a65c_remove_915e3 16 = .ok (.aaload, 1) := by decide +kernel
theorem dJx4a65c_remove_915e3_17 : decode cJx4a65c_remove_915e3 17 = .ok (.astore_n 3, 1) := by decide +kernel
theorem dJx4a65c_remove_915e3_18 : decode cJx4a65c_remove_915e3 18 = .ok (.aload_n 0, 1) := by decide +kernel
theorem dJx4a65c_remove_915e3_19 : decode cJx4a65c_remove_915e3 19 = .ok (.aload_n 2, 1) := by decide +kernel
theorem dJx4a65c_remove_915e3_20 : decode cJx4a65c_remove_915e3 20 = .ok (.iload_n 1, 1) := by decide +kernel
theorem dJx4a65c_remove_915e3_21 : decode cJx4a65c_remove_915e3 21 = .ok (.invokevirtual 144, 3) := by decide +kernel
theorem dJx4a65c_remove_915e3_24 : decode cJx4a65c_remove_915e3 24 = .ok (.aload_n 3, 1) := by decide +kernel
theorem dJx4a65c_remove_915e3_25 : decode cJx4a65c_remove_915e3 25 = .ok (.areturn, 1) := by decide +kernel
theorem dJx4a65c_fastRemove_b59b0_0 : decode cJx4a65c_fastRemove_b59b0 0 = .ok (.aload_n 0, 1) := by decide +kernel
theorem dJx4a65c_fastRemove_b59b0_1 : decode cJx4a65c_fastRemove_b59b0 1 = .ok (.dup, 1) := by decide +kernel
theorem dJx4a65c_fastRemove_b59b0_2 : decode cJx4a65c_fastRemove_b59b0 2 = .ok (.getfield 63, 3) := by decide +kernel
theorem dJx4a65c_fastRemove_b59b0_5 : decode cJx4a65c_fastRemove_b59b0 5 = .ok (.iconst 1, 1) := by decide +kernel
theorem dJx4a65c_fastRemove_b59b0_6 : decode cJx4a65c_fastRemove_b59b0 6 = .ok (.iadd, 1) := by decide +kernel
theorem dJx4a65c_fastRemove_b59b0_7 : decode cJx4a65c_fastRemove_b59b0 7 = .ok (.putfield 63, 3) := by decide +kernel
theorem dJx4a65c_fastRemove_b59b0_10 : decode cJx4a65c_fastRemove_b59b0 10 = .ok (.aload_n 0, 1) := by decide +kernel
theorem dJx4a65c_fastRemove_b59b0_11 : decode cJx4a65c_fastRemove_b59b0 11 = .ok (.getfield 48, 3) := by decide +kernel
theorem dJx4a65c_fastRemove_b59b0_14 : decode cJx4a65c_fastRemove_b59b0 14 = .ok (.iconst 1, 1) := by decide +kernel
theorem dJx4a65c_fastRemove_b59b0_15 : decode cJx4a65c_fastRemove_b59b0 15 = .ok (.isub, 1) := by decide +kernel
theorem dJx4a65c_fastRemove_b59b0_16 : decode cJx4a65c_fastRemove_b59b0 16 = .ok (.dup, 1) := by decide +kernel
theorem dJx4a65c_fastRemove_b59b0_17 : decode cJx4a65c_fastRemove_b59b0 17 = .ok (.istore_n 3, 1) := by decide +kernel
theorem dJx4a65c_fastRemove_b59b0_18 : decode cJx4a65c_fastRemove_b59b0 18 = .ok (.iload_n 2, 1) := by decide +kernel
theorem dJx4a65c_fastRemove_b59b0_19 : decode cJx4a65c_fastRemove_b59b0 19 = .ok (.if_icmp .le 15, 3) := by decide +kernel
theorem dJx4a65c_fastRemove_b59b0_22 : decode cJx4a65c_fastRemove_b59b0 22 = .ok (.aload_n 1, 1) := by decide +kernel
theorem dJx4a65c_fastRemove_b59b0_23 : decode cJx4a65c_fastRemove_b59b0 23 = .ok (.iload_n 2, 1) := by decide +kernel
theorem dJx4a65c_fastRemove_b59b0_24 : decode cJx4a65c_fastRemove_b59b0 24 = .ok (.iconst 1, 1) := by decide +kernel
theorem dJx4a65c_fastRemove_b59b0_25 : decode cJx4a65c_fastRemove_b59b0 25 = .ok (.iadd, 1) := by decide +kernel
theorem dJx4a65c_fastRemove_b59b0_26 : decode cJx4a65c_fastRemove_b59b0 26 = .ok (.aload_n 1, 1) := by decide +kernel
theorem dJx4a65c_fastRemove_b59b0_27 : decode cJx4a65c_fastRemove_b59b0 27 = .ok (.iload_n 2, 1) := by decide +kernel
theorem dJx4a65c_fastRemove_b59b0_28 : decode cJx4a65c_fastRemove_b59b0 28 = .ok (.iload_n 3, 1) := by decide +kernel
theorem dJx4a65c_fastRemove_b59b0_29 : decode cJx4a65c_fastRemove_b59b0 29 = .ok (.iload_n 2, 1) := by decide +kernel
theorem dJx4a65c_fastRemove_b59b0_30 : decode cJx4a65c_fastRemove_b59b0 30 = .ok (.isub, 1) := by decide +kernel
theorem dJx4a65c_fastRemove_b59b0_31 : decode cJx4a65c_fastRemove_b59b0 31 = .ok (.invokestatic 112, 3) := by decide +kernel
theorem dJx4a65c_fastRemove_b59b0_34 : decode cJx4a65c_fastRemove_b59b0 34 = .ok (.aload_n 1, 1) := by decide +kernel
theorem dJx4a65c_fastRemove_b59b0_35 : decode cJx4a65c_fastRemove_b59b0 35 = .ok (.aload_n 0, 1) := by decide +kernel
theorem dJx4a65c_fastRemove_b59b0_36 : decode cJx4a65c_fastRemove_b59b0 36 = .ok (.iload_n 3, 1) := by decide +kernel
theorem dJx4a65c_fastRemove_b59b0_37 : decode cJx4a65c_fastRemove_b59b0 37 = .ok (.dup_x1, 1) := by decide +kernel
theorem dJx4a65c_fastRemove_b59b0_38 : decode cJx4a65c_fastRemove_b59b0 38 = .ok (.putfield 48, 3) := by decide +kernel
theorem dJx4a65c_fastRemove_b59b0_41 : decode cJx4a65c_fastRemove_b59b0 41 = .ok (.aconst_null, 1) := by decide +kernel
theorem dJx4a65c_fastRemove_b59b0_42 : decode cJx4a65c_fastRemove_b59b0 42 = .ok (.aastore, 1) := by decide +kernel
theorem dJx4a65c_fastRemove_b59b0_43 : decode cJx4a65c_fastRemove_b59b0 43 = .ok (.return_, 1) := by decide +kernel
theorem dJ7_copyOf_1904c_0 : decode cJ7_copyOf_1904c 0 = .ok (.aload_n 0, 1) := by decide +kernel
theorem dJ7_copyOf_1904c_1 : decode cJ7_copyOf_1904c 1 = .ok (.iload_n 1, 1) := by decide +kernel
theorem dJ7_copyOf_1904c_2 : decode cJ7_copyOf_1904c 2 = .ok (.aload_n 0, 1) := by decide +kernel
theorem dJ7_copyOf_1904c_3 : decode cJ7_copyOf_1904c 3 = .ok (.invokevirtual 86, 3) := by decide +kernel
theorem dJ7_copyOf_1904c_6 : decode cJ7_copyOf_1904c 6 = .ok (.invokestatic 300, 3) := by decide +kernel
theorem dJ7_copyOf_1904c_9 : decode cJ7_copyOf_1904c 9 = .ok (.areturn, 1) := by decide +kernel
theorem dJ7_copyOf_6403c_0 : decode cJ7_copyOf_6403c 0 = .ok (.aload_n 2, 1) := by decide +kernel
theorem dJ7_copyOf_6403c_1 : decode cJ7_copyOf_6403c 1 = .ok (.ldc 110, 2) := by decide +kernel
theorem dJ7_copyOf_6403c_3 : decode cJ7_copyOf_6403c 3 = .ok (.if_acmp .ne 10, 3) := by decide +kernel
theorem dJ7_copyOf_6403c_6 : decode cJ7_copyOf_6403c 6 = .ok (.iload_n 1, 1) := by decide +kernel
theorem dJ7_copyOf_6403c_7 : decode cJ7_copyOf_6403c 7 = .ok (.anewarray 2, 3) := by decide +kernel
theorem dJ7_copyOf_6403c_10 : decode cJ7_copyOf_6403c 10 = .ok (.goto 14, 3) := by decide +kernel
theorem dJ7_copyOf_6403c_13 : decode cJ7_copyOf_6403c 13 = .ok (.aload_n 2, 1) := by decide +kernel
theorem dJ7_copyOf_6403c_14 : decode cJ7_copyOf_6403c 14 = .ok (.invokevirtual 90, 3) := by decide +kernel
theorem dJ7_copyOf_6403c_17 : decode cJ7_copyOf_6403c 17 = .ok (.iload_n 1, 1) := by decide +kernel
theorem dJ7_copyOf_6403c_18 : decode cJ7_copyOf_6403c 18 = .ok (.invokestatic 95, 3) := by decide +kernel
theorem dJ7_copyOf_6403c_21 : decode cJ7_copyOf_6403c 21 = .ok (.checkcast 110, 3) := by decide +kernel
theorem dJ7_copyOf_6403c_24 : decode cJ7_copyOf_6403c 24 = .ok (.astore_n 3, 1) := by decide +kernel
theorem dJ7_copyOf_6403c_25 : decode cJ7_copyOf_6403c 25 = .ok (.aload_n 0, 1) := by decide +kernel
theorem dJ7_copyOf_6403c_26 : decode cJ7_copyOf_6403c 26 = .ok (.iconst 0, 1) := by decide +kernel
theorem dJ7_copyOf_6403c_27 : decode cJ7_copyOf_6403c 27 = .ok (.aload_n 3, 1) := by decide +kernel
theorem dJ7_copyOf_6403c_28 : decode cJ7_copyOf_6403c 28 = .ok (.iconst 0, 1) := by decide +kernel
theorem dJ7_copyOf_6403c_29 : decode cJ7_copyOf_6403c 29 = .ok (.aload_n 0, 1) := by decide +kernel
theorem dJ7_copyOf_6403c_30 : decode cJ7_copyOf_6403c 30 = .ok (.arraylength, 1) := by decide +kernel
theorem dJ7_copyOf_6403c_31 : decode cJ7_copyOf_6403c 31 = .ok (.iload_n 1, 1) := by decide +kernel
theorem dJ7_copyOf_6403c_32 : decode cJ7_copyOf_6403c 32 = .ok (.invokestatic 304, 3) := by decide +kernel
theorem dJ7_copyOf_6403c_35 : decode cJ7_copyOf_6403c 35 = .ok (.invokestatic 150, 3) := by decide +kernel
theorem dJ7_copyOf_6403c_38 : decode cJ7_copyOf_6403c 38 = .ok (.aload_n 3, 1) := by decide +kernel
theorem dJ7_copyOf_6403c_39 : decode cJ7_copyOf_6403c 39 = .ok (.areturn, 1) := by decide +kernel
theorem dJ15_checkIndex_7cf53_0 : decode cJ15_checkIndex_7cf53 0 = .ok (.iload_n 0, 1) := by decide +kernel
theorem dJ15_checkIndex_7cf53_1 : decode cJ15_checkIndex_7cf53 1 = .ok (.iload_n 1, 1) := by decide +kernel
theorem dJ15_checkIndex_7cf53_2 : decode cJ15_checkIndex_7cf53 2 = .ok (.aconst_null, 1) := by decide +kernel
theorem dJ15_checkIndex_7cf53_3 : decode cJ15_checkIndex_7cf53 3 = .ok (.invokestatic 105, 3) := by decide +kernel
theorem dJ15_checkIndex_7cf53_6 : decode cJ15_checkIndex_7cf53 6 = .ok (.ireturn, 1) := by decide +kernel
theorem dJ8_newLength_cabcc_0 : decode cJ8_newLength_cabcc 0 = .ok (.iload_n 0, 1) := by decide +kernel
theorem dJ8_newLength_cabcc_1 : decode cJ8_newLength_cabcc 1 = .ok (.iload_n 1, 1) := by decide +kernel
theorem dJ8_newLength_cabcc_2 : decode cJ8_newLength_cabcc 2 = .ok (.iload_n 2, 1) := by decide +kernel
theorem dJ8_newLength_cabcc_3 : decode cJ8_newLength_cabcc 3 = .ok (.invokestatic 194, 3) := by decide +kernel
theorem dJ8_newLength_cabcc_6 : decode cJ8_newLength_cabcc 6 = .ok (.iadd, 1) := by decide +kernel
theorem dJ8_newLength_cabcc_7 : decode cJ8_newLength_cabcc 7 = .ok (.istore_n 3, 1) := by decide +kernel
theorem dJ8_newLength_cabcc_8 : decode cJ8_newLength_cabcc 8 = .ok (.iconst 0, 1) := by decide +kernel
theorem dJ8_newLength_cabcc_9 : decode cJ8_newLength_cabcc 9 = .ok (.iload_n 3, 1) := by decide +kernel
theorem dJ8_newLength_cabcc_10 : decode cJ8_newLength_cabcc 10 = .ok (.if_icmp .ge 11, 3) := by decide +kernel
theorem dJ8_newLength_cabcc_13 : decode cJ8_newLength_cabcc 13 = .ok (.iload_n 3, 1) := by decide +kernel
theorem dJ8_newLength_cabcc_14 : decode cJ8_newLength_cabcc 14 = .ok (.ldc 200, 2) := by decide +kernel
theorem dJ8_newLength_cabcc_16 : decode cJ8_newLength_cabcc 16 = .ok (.if_icmp .gt 5, 3) := by decide +kernel
theorem dJ8_newLength_cabcc_19 : decode cJ8_newLength_cabcc 19 = .ok (.iload_n 3, 1) := by decide +kernel
theorem dJ8_newLength_cabcc_20 : decode cJ8_newLength_cabcc 20 = .ok (.ireturn, 1) := by decide +kernel
theorem dJ8_newLength_cabcc_21 : decode cJ8_newLength_cabcc 21 = .ok (.iload_n 0, 1) := by decide +kernel
theorem dJ8_newLength_cabcc_22 : decode cJ8_newLength_cabcc 22 = .ok (.iload_n 1, 1) := by decide +kernel
theorem dJ8_newLength_cabcc_23 : decode cJ8_newLength_cabcc 23 = .ok (.invokestatic 201, 3) := by decide +kernel
theorem dJ8_newLength_cabcc_26 : decode cJ8_newLength_cabcc 26 = .ok (.ireturn, 1) := by decide +kernel
theorem dJ8_hugeLength_7cf53_0 : decode cJ8_hugeLength_7cf53 0 = .ok (.iload_n 0, 1) := by decide +kernel
theorem dJ8_hugeLength_7cf53_1 : decode cJ8_hugeLength_7cf53 1 = .ok (.iload_n 1, 1) := by decide +kernel
theorem dJ8_hugeLength_7cf53_2 : decode cJ8_hugeLength_7cf53 2 = .ok (.iadd, 1) := by decide +kernel
theorem dJ8_hugeLength_7cf53_3 : decode cJ8_hugeLength_7cf53 3 = .ok (.istore_n 2, 1) := by decide +kernel
theorem dJ8_hugeLength_7cf53_4 : decode cJ8_hugeLength_7cf53 4 = .ok (.iload_n 2, 1) := by decide +kernel
theorem dJ8_hugeLength_7cf53_5 : decode cJ8_hugeLength_7cf53 5 = .ok (.ifCond .ge 44, 3) := by decide +kernel
theorem dJ8_hugeLength_7cf53_8 : decode cJ8_hugeLength_7cf53 8 = .ok (.new 204, 3) := by decide +kernel
theorem dJ8_hugeLength_7cf53_11 : decode cJ8_hugeLength_7cf53 11 = .ok (.dup, 1) := by decide +kernel
theorem dJ8_hugeLength_7cf53_12 : decode cJ8_hugeLength_7cf53 12 = .ok (.new 89, 3) := by decide +kernel
theorem dJ8_hugeLength_7cf53_15 : decode cJ8_hugeLength_7cf53 15 = .ok (.dup, 1) := by decide +kernel
theorem dJ8_hugeLength_7cf53_16 : decode cJ8_hugeLength_7cf53 16 = .ok (.invokespecial 91, 3) := by decide +kernel
theorem dJ8_hugeLength_7cf53_19 : decode cJ8_hugeLength_7cf53 19 = .ok (.ldc 206, 2) := by decide +kernel
theorem dJ8_hugeLength_7cf53_21 : decode cJ8_hugeLength_7cf53 21 = .ok (.invokevirtual 94, 3) := by decide +kernel
theorem dJ8_hugeLength_7cf53_24 : decode cJ8_hugeLength_7cf53 24 = .ok (.iload_n 0, 1) := by decide +kernel
theorem dJ8_hugeLength_7cf53_25 : decode cJ8_hugeLength_7cf53 25 = .ok (.invokevirtual 98, 3) := by decide +kernel
theorem dJ8_hugeLength_7cf53_28 : decode cJ8_hugeLength_7cf53 28 = .ok (.ldc 208, 2) := by decide +kernel
theorem dJ8_hugeLength_7cf53_30 : decode cJ8_hugeLength_7cf53 30 = .ok (.invokevirtual 94, 3) := by decide +kernel
theorem dJ8_hugeLength_7cf53_33 : decode cJ8_hugeLength_7cf53 33 = .ok (.iload_n 1, 1) := by decide +kernel
theorem dJ8_hugeLength_7cf53_34 : decode cJ8_hugeLength_7cf53 34 = .ok (.invokevirtual 98, 3) := by decide +kernel
theorem dJ8_hugeLength_7cf53_37 : decode cJ8_hugeLength_7cf53 37 = .ok (.ldc 210, 2) := by decide +kernel
theorem dJ8_hugeLength_7cf53_39 : decode cJ8_hugeLength_7cf53 39 = .ok (.invokevirtual 94, 3) := by decide +kernel
theorem dJ8_hugeLength_7cf53_42 : decode cJ8_hugeLength_7cf53 42 = .ok (.invokevirtual 101, 3) := by decide +kernel
theorem dJ8_hugeLength_7cf53_45 : decode cJ8_hugeLength_7cf53 45 = .ok (.invokespecial 212, 3) := by decide +kernel
theorem dJ8_hugeLength_7cf53_48 : decode cJ8_hugeLength_7cf53 48 = .ok (.athrow, 1) := by decide +kernel
theorem dJ8_hugeLength_7cf53_49 : decode cJ8_hugeLength_7cf53 49 = .ok (.iload_n 2, 1) := by decide +kernel
theorem dJ8_hugeLength_7cf53_50 : decode cJ8_hugeLength_7cf53 50 = .ok (.ldc 200, 2) := by decide +kernel
theorem dJ8_hugeLength_7cf53_52 : decode cJ8_hugeLength_7cf53 52 = .ok (.if_icmp .gt 6, 3) := by decide +kernel
theorem dJ8_hugeLength_7cf53_55 : decode cJ8_hugeLength_7cf53 55 = .ok (.ldc 200, 2) := by decide +kernel
theorem dJ8_hugeLength_7cf53_57 : decode cJ8_hugeLength_7cf53 57 = .ok (.ireturn, 1) := by decide +kernel
theorem dJ8_hugeLength_7cf53_58 : decode cJ8_hugeLength_7cf53 58 = .ok (.iload_n 2, 1) := by decide +kernel
theorem dJ8_hugeLength_7cf53_59 : decode cJ8_hugeLength_7cf53 59 = .ok (.ireturn, 1) := by decide +kernel
theorem dJ3_checkIndex_8e157_0 : decode cJ3_checkIndex_8e157 0 = .ok (.iload_n 0, 1) := by decide +kernel
theorem dJ3_checkIndex_8e157_1 : decode cJ3_checkIndex_8e157 1 = .ok (.ifCond .lt 8, 3) := by decide +kernel
theorem dJ3_checkIndex_8e157_4 : decode cJ3_checkIndex_8e157 4 = .ok (.iload_n 0, 1) := by decide +kernel
theorem dJ3_checkIndex_8e157_5 : decode cJ3_checkIndex_8e157 5 = .ok (.iload_n 1, 1) := by decide +kernel
theorem dJ3_checkIndex_8e157_6 : decode cJ3_checkIndex_8e157 6 = .ok (.if_icmp .lt 10, 3) := by decide +kernel
theorem dJ3_checkIndex_8e157_9 : decode cJ3_checkIndex_8e157 9 = .ok (.aload_n 2, 1) := by decide +kernel
theorem dJ3_checkIndex_8e157_10 : decode cJ3_checkIndex_8e157 10 = .ok (.iload_n 0, 1) := by decide +kernel
theorem dJ3_checkIndex_8e157_11 : decode cJ3_checkIndex_8e157 11 = .ok (.iload_n 1, 1) := by decide +kernel
theorem dJ3_checkIndex_8e157_12 : decode cJ3_checkIndex_8e157 12 = .ok (.invokestatic 95, 3) := by decide +kernel
theorem dJ3_checkIndex_8e157_15 : decode cJ3_checkIndex_8e157 15 = .ok (.athrow, 1) := by decide +kernel
theorem dJ3_checkIndex_8e157_16 : decode cJ3_checkIndex_8e157 16 = .ok (.iload_n 0, 1) := by decide +kernel
theorem dJ3_checkIndex_8e157_17 : decode cJ3_checkIndex_8e157 17 = .ok (.ireturn, 1) := by decide +kernel
theorem dL_addCore_0 : decode cL_addCore 0 = .ok (.aload_n 2, 1) := by decide +kernel
theorem dL_addCore_1 : decode cL_addCore 1 = .ok (.iconst 0, 1) := by decide +kernel
theorem dL_addCore_2 : decode cL_addCore 2 = .ok (.aload_n 0, 1) := by decide +kernel
theorem dL_addCore_3 : decode cL_addCore 3 = .ok (.iload_n 1, 1) := by decide +kernel
theorem dL_addCore_4 : decode cL_addCore 4 = .ok (.invokevirtual 7, 3) := by decide +kernel
theorem dL_addCore_7 : decode cL_addCore 7 = .ok (.i2l, 1) := by decide +kernel
theorem dL_addCore_8 : decode cL_addCore 8 = .ok (.lastore, 1) := by decide +kernel
theorem dL_addCore_9 : decode cL_addCore 9 = .ok (.goto 9, 3) := by decide +kernel
theorem dL_addCore_12 : decode cL_addCore 12 = .ok (.astore_n 3, 1) := by decide +kernel
theorem dL_addCore_13 : decode cL_addCore 13 = .ok (.iconst 1, 1) := by decide +kernel
theorem dL_addCore_14 : decode cL_addCore 14 = .ok (.ireturn, 1) := by decide +kernel
theorem dL_addCore_15 : decode cL_addCore 15 = .ok (.astore_n 3, 1) := by decide +kernel
theorem dL_addCore_16 : decode cL_addCore 16 = .ok (.iconst 2, 1) := by decide +kernel
theorem dL_addCore_17 : decode cL_addCore 17 = .ok (.ireturn, 1) := by decide +kernel
theorem dL_addCore_18 : decode cL_addCore 18 = .ok (.iconst 0, 1) := by decide +kernel
theorem dL_addCore_19 : decode cL_addCore 19 = .ok (.ireturn, 1) := by decide +kernel
theorem dL_setLimit_0 : decode cL_setLimit 0 = .ok (.aload_n 2, 1) := by decide +kernel
theorem dL_setLimit_1 : decode cL_setLimit 1 = .ok (.iconst 0, 1) := by decide +kernel
theorem dL_setLimit_2 : decode cL_setLimit 2 = .ok (.aload_n 0, 1) := by decide +kernel
theorem dL_setLimit_3 : decode cL_setLimit 3 = .ok (.iload_n 1, 1) := by decide +kernel
theorem dL_setLimit_4 : decode cL_setLimit 4 = .ok (.invokevirtual 17, 3) := by decide +kernel
theorem dL_setLimit_7 : decode cL_setLimit 7 = .ok (.i2l, 1) := by decide +kernel
theorem dL_setLimit_8 : decode cL_setLimit 8 = .ok (.lastore, 1) := by decide +kernel
theorem dL_setLimit_9 : decode cL_setLimit 9 = .ok (.goto 6, 3) := by decide +kernel
theorem dL_setLimit_12 : decode cL_setLimit 12 = .ok (.astore_n 3, 1) := by decide +kernel
theorem dL_setLimit_13 : decode cL_setLimit 13 = .ok (.iconst 1, 1) := by decide +kernel
theorem dL_setLimit_14 : decode cL_setLimit 14 = .ok (.ireturn, 1) := by decide +kernel
theorem dL_setLimit_15 : decode cL_setLimit 15 = .ok (.iconst 0, 1) := by decide +kernel
theorem dL_setLimit_16 : decode cL_setLimit 16 = .ok (.ireturn, 1) := by decide +kernel
theorem dL_setCap_0 : decode cL_setCap 0 = .ok (.aload_n 2, 1) := by decide +kernel
theorem dL_setCap_1 : decode cL_setCap 1 = .ok (.iconst 0, 1) := by decide +kernel
theorem dL_setCap_2 : decode cL_setCap 2 = .ok (.aload_n 0, 1) := by decide +kernel
theorem dL_setCap_3 : decode cL_setCap 3 = .ok (.iload_n 1, 1) := by decide +kernel
theorem dL_setCap_4 : decode cL_setCap 4 = .ok (.invokevirtual 20, 3) := by decide +kernel
theorem dL_setCap_7 : decode cL_setCap 7 = .ok (.i2l, 1) := by decide +kernel
theorem dL_setCap_8 : decode cL_setCap 8 = .ok (.lastore, 1) := by decide +kernel
theorem dL_setCap_9 : decode cL_setCap 9 = .ok (.goto 6, 3) := by decide +kernel
theorem dL_setCap_12 : decode cL_setCap 12 = .ok (.astore_n 3, 1) := by decide +kernel
theorem dL_setCap_13 : decode cL_setCap 13 = .ok (.iconst 1, 1) := by decide +kernel
theorem dL_setCap_14 : decode cL_setCap 14 = .ok (.ireturn, 1) := by decide +kernel
theorem dL_setCap_15 : decode cL_setCap 15 = .ok (.iconst 0, 1) := by decide +kernel
theorem dL_setCap_16 : decode cL_setCap 16 = .ok (.ireturn, 1) := by decide +kernel
theorem dL_heat_0 : decode cL_heat 0 = .ok (.aload_n 2, 1) := by decide +kernel
theorem dL_heat_1 : decode cL_heat 1 = .ok (.iconst 0, 1) := by decide +kernel
theorem dL_heat_2 : decode cL_heat 2 = .ok (.aload_n 0, 1) := by decide +kernel
theorem dL_heat_3 : decode cL_heat 3 = .ok (.iload_n 1, 1) := by decide +kernel
theorem dL_heat_4 : decode cL_heat 4 = .ok (.invokevirtual 23, 3) := by decide +kernel
theorem dL_heat_7 : decode cL_heat 7 = .ok (.i2l, 1) := by decide +kernel
theorem dL_heat_8 : decode cL_heat 8 = .ok (.lastore, 1) := by decide +kernel
theorem dL_heat_9 : decode cL_heat 9 = .ok (.goto 6, 3) := by decide +kernel
theorem dL_heat_12 : decode cL_heat 12 = .ok (.astore_n 3, 1) := by decide +kernel
theorem dL_heat_13 : decode cL_heat 13 = .ok (.iconst 1, 1) := by decide +kernel
theorem dL_heat_14 : decode cL_heat 14 = .ok (.ireturn, 1) := by decide +kernel
theorem dL_heat_15 : decode cL_heat 15 = .ok (.iconst 0, 1) := by decide +kernel
theorem dL_heat_16 : decode cL_heat 16 = .ok (.ireturn, 1) := by decide +kernel
theorem dL_pace_0 : decode cL_pace 0 = .ok (.aload_n 2, 1) := by decide +kernel
theorem dL_pace_1 : decode cL_pace 1 = .ok (.iconst 0, 1) := by decide +kernel
theorem dL_pace_2 : decode cL_pace 2 = .ok (.aload_n 0, 1) := by decide +kernel
theorem dL_pace_3 : decode cL_pace 3 = .ok (.iload_n 1, 1) := by decide +kernel
theorem dL_pace_4 : decode cL_pace 4 = .ok (.invokevirtual 28, 3) := by decide +kernel
theorem dL_pace_7 : decode cL_pace 7 = .ok (.i2l, 1) := by decide +kernel
theorem dL_pace_8 : decode cL_pace 8 = .ok (.lastore, 1) := by decide +kernel
theorem dL_pace_9 : decode cL_pace 9 = .ok (.goto 6, 3) := by decide +kernel
theorem dL_pace_12 : decode cL_pace 12 = .ok (.astore_n 3, 1) := by decide +kernel
theorem dL_pace_13 : decode cL_pace 13 = .ok (.iconst 1, 1) := by decide +kernel
theorem dL_pace_14 : decode cL_pace 14 = .ok (.ireturn, 1) := by decide +kernel
theorem dL_pace_15 : decode cL_pace 15 = .ok (.iconst 0, 1) := by decide +kernel
theorem dL_pace_16 : decode cL_pace 16 = .ok (.ireturn, 1) := by decide +kernel
theorem dL_addGroup_0 : decode cL_addGroup 0 = .ok (.aload_n 3, 1) := by decide +kernel
theorem dL_addGroup_1 : decode cL_addGroup 1 = .ok (.iconst 0, 1) := by decide +kernel
theorem dL_addGroup_2 : decode cL_addGroup 2 = .ok (.aload_n 0, 1) := by decide +kernel
theorem dL_addGroup_3 : decode cL_addGroup 3 = .ok (.iload_n 1, 1) := by decide +kernel
theorem dL_addGroup_4 : decode cL_addGroup 4 = .ok (.iload_n 2, 1) := by decide +kernel
theorem dL_addGroup_5 : decode cL_addGroup 5 = .ok (.invokevirtual 31, 3) := by decide +kernel
theorem dL_addGroup_8 : decode cL_addGroup 8 = .ok (.i2l, 1) := by decide +kernel
theorem dL_addGroup_9 : decode cL_addGroup 9 = .ok (.lastore, 1) := by decide +kernel
theorem dL_addGroup_10 : decode cL_addGroup 10 = .ok (.goto 15, 3) := by decide +kernel
theorem dL_addGroup_13 : decode cL_addGroup 13 = .ok (.astore 4, 2) := by decide +kernel
theorem dL_addGroup_15 : decode cL_addGroup 15 = .ok (.iconst 1, 1) := by decide +kernel
theorem dL_addGroup_16 : decode cL_addGroup 16 = .ok (.ireturn, 1) := by decide +kernel
theorem dL_addGroup_17 : decode cL_addGroup 17 = .ok (.astore 4, 2) := by decide +kernel
theorem dL_addGroup_19 : decode cL_addGroup 19 = .ok (.iconst 2, 1) := by decide +kernel
theorem dL_addGroup_20 : decode cL_addGroup 20 = .ok (.ireturn, 1) := by decide +kernel
theorem dL_addGroup_21 : decode cL_addGroup 21 = .ok (.astore 4, 2) := by decide +kernel
theorem dL_addGroup_23 : decode cL_addGroup 23 = .ok (.iconst 3, 1) := by decide +kernel
theorem dL_addGroup_24 : decode cL_addGroup 24 = .ok (.ireturn, 1) := by decide +kernel
theorem dL_addGroup_25 : decode cL_addGroup 25 = .ok (.iconst 0, 1) := by decide +kernel
theorem dL_addGroup_26 : decode cL_addGroup 26 = .ok (.ireturn, 1) := by decide +kernel
theorem dL_addPlain_0 : decode cL_addPlain 0 = .ok (.aload 4, 2) := by decide +kernel
theorem dL_addPlain_2 : decode cL_addPlain 2 = .ok (.iconst 0, 1) := by decide +kernel
theorem dL_addPlain_3 : decode cL_addPlain 3 = .ok (.aload_n 0, 1) := by decide +kernel
theorem dL_addPlain_4 : decode cL_addPlain 4 = .ok (.iload_n 1, 1) := by decide +kernel
theorem dL_addPlain_5 : decode cL_addPlain 5 = .ok (.iload_n 2, 1) := by decide +kernel
theorem dL_addPlain_6 : decode cL_addPlain 6 = .ok (.iload_n 3, 1) := by decide +kernel
theorem dL_addPlain_7 : decode cL_addPlain 7 = .ok (.invokevirtual 35, 3) := by decide +kernel
theorem dL_addPlain_10 : decode cL_addPlain 10 = .ok (.i2l, 1) := by decide +kernel
theorem dL_addPlain_11 : decode cL_addPlain 11 = .ok (.lastore, 1) := by decide +kernel
theorem dL_addPlain_12 : decode cL_addPlain 12 = .ok (.goto 15, 3) := by decide +kernel
theorem dL_addPlain_15 : decode cL_addPlain 15 = .ok (.astore 5, 2) := by decide +kernel
theorem dL_addPlain_17 : decode cL_addPlain 17 = .ok (.iconst 1, 1) := by decide +kernel
theorem dL_addPlain_18 : decode cL_addPlain 18 = .ok (.ireturn, 1) := by decide +kernel
theorem dL_addPlain_19 : decode cL_addPlain 19 = .ok (.astore 5, 2) := by decide +kernel
theorem dL_addPlain_21 : decode cL_addPlain 21 = .ok (.iconst 2, 1) := by decide +kernel
theorem dL_addPlain_22 : decode cL_addPlain 22 = .ok (.ireturn, 1) := by decide +kernel
theorem dL_addPlain_23 : decode cL_addPlain 23 = .ok (.astore 5, 2) := by decide +kernel
theorem dL_addPlain_25 : decode cL_addPlain 25 = .ok (.iconst 3, 1) := by decide +kernel
theorem dL_addPlain_26 : decode cL_addPlain 26 = .ok (.ireturn, 1) := by decide +kernel
theorem dL_addPlain_27 : decode cL_addPlain 27 = .ok (.iconst 0, 1) := by decide +kernel
theorem dL_addPlain_28 : decode cL_addPlain 28 = .ok (.ireturn, 1) := by decide +kernel
theorem dL_addTimed_0 : decode cL_addTimed 0 = .ok (.aload 5, 2) := by decide +kernel
theorem dL_addTimed_2 : decode cL_addTimed 2 = .ok (.iconst 0, 1) := by decide +kernel
theorem dL_addTimed_3 : decode cL_addTimed 3 = .ok (.aload_n 0, 1) := by decide +kernel
theorem dL_addTimed_4 : decode cL_addTimed 4 = .ok (.iload_n 1, 1) := by decide +kernel
theorem dL_addTimed_5 : decode cL_addTimed 5 = .ok (.iload_n 2, 1) := by decide +kernel
theorem dL_addTimed_6 : decode cL_addTimed 6 = .ok (.iload_n 3, 1) := by decide +kernel
theorem dL_addTimed_7 : decode cL_addTimed 7 = .ok (.iload 4, 2) := by decide +kernel
theorem dL_addTimed_9 : decode cL_addTimed 9 = .ok (.invokevirtual 39, 3) := by decide +kernel
theorem dL_addTimed_12 : decode cL_addTimed 12 = .ok (.i2l, 1) := by decide +kernel
theorem dL_addTimed_13 : decode cL_addTimed 13 = .ok (.lastore, 1) := by decide +kernel
theorem dL_addTimed_14 : decode cL_addTimed 14 = .ok (.goto 19, 3) := by decide +kernel
theorem dL_addTimed_17 : decode cL_addTimed 17 = .ok (.astore 6, 2) := by decide +kernel
theorem dL_addTimed_19 : decode cL_addTimed 19 = .ok (.iconst 1, 1) := by decide +kernel
theorem dL_addTimed_20 : decode cL_addTimed 20 = .ok (.ireturn, 1) := by decide +kernel
theorem dL_addTimed_21 : decode cL_addTimed 21 = .ok (.astore 6, 2) := by decide +kernel
theorem dL_addTimed_23 : decode cL_addTimed 23 = .ok (.iconst 2, 1) := by decide +kernel
theorem dL_addTimed_24 : decode cL_addTimed 24 = .ok (.ireturn, 1) := by decide +kernel
theorem dL_addTimed_25 : decode cL_addTimed 25 = .ok (.astore 6, 2) := by decide +kernel
theorem dL_addTimed_27 : decode cL_addTimed 27 = .ok (.iconst 3, 1) := by decide +kernel
theorem dL_addTimed_28 : decode cL_addTimed 28 = .ok (.ireturn, 1) := by decide +kernel
theorem dL_addTimed_29 : decode cL_addTimed 29 = .ok (.astore 6, 2) := by decide +kernel
theorem dL_addTimed_31 : decode cL_addTimed 31 = .ok (.iconst 4, 1) := by decide +kernel
theorem dL_addTimed_32 : decode cL_addTimed 32 = .ok (.ireturn, 1) := by decide +kernel
theorem dL_addTimed_33 : decode cL_addTimed 33 = .ok (.iconst 0, 1) := by decide +kernel
theorem dL_addTimed_34 : decode cL_addTimed 34 = .ok (.ireturn, 1) := by decide +kernel
theorem dL_end_0 : decode cL_end 0 = .ok (.aload_n 2, 1) := by decide +kernel
theorem dL_end_1 : decode cL_end 1 = .ok (.iconst 0, 1) := by decide +kernel
theorem dL_end_2 : decode cL_end 2 = .ok (.aload_n 0, 1) := by decide +kernel
theorem dL_end_3 : decode cL_end 3 = .ok (.iload_n 1, 1) := by decide +kernel
theorem dL_end_4 : decode cL_end 4 = .ok (.invokevirtual 45, 3) := by decide +kernel
theorem dL_end_7 : decode cL_end 7 = .ok (.i2l, 1) := by decide +kernel
theorem dL_end_8 : decode cL_end 8 = .ok (.lastore, 1) := by decide +kernel
theorem dL_end_9 : decode cL_end 9 = .ok (.goto 9, 3) := by decide +kernel
theorem dL_end_12 : decode cL_end 12 = .ok (.astore_n 3, 1) := by decide +kernel
theorem dL_end_13 : decode cL_end 13 = .ok (.iconst 1, 1) := by decide +kernel
theorem dL_end_14 : decode cL_end 14 = .ok (.ireturn, 1) := by decide +kernel
theorem dL_end_15 : decode cL_end 15 = .ok (.astore_n 3, 1) := by decide +kernel
theorem dL_end_16 : decode cL_end 16 = .ok (.iconst 2, 1) := by decide +kernel
theorem dL_end_17 : decode cL_end 17 = .ok (.ireturn, 1) := by decide +kernel
theorem dL_end_18 : decode cL_end 18 = .ok (.iconst 0, 1) := by decide +kernel
theorem dL_end_19 : decode cL_end 19 = .ok (.ireturn, 1) := by decide +kernel
theorem dL_left_0 : decode cL_left 0 = .ok (.aload_n 2, 1) := by decide +kernel
theorem dL_left_1 : decode cL_left 1 = .ok (.iconst 0, 1) := by decide +kernel
theorem dL_left_2 : decode cL_left 2 = .ok (.aload_n 0, 1) := by decide +kernel
theorem dL_left_3 : decode cL_left 3 = .ok (.iload_n 1, 1) := by decide +kernel
theorem dL_left_4 : decode cL_left 4 = .ok (.invokevirtual 50, 3) := by decide +kernel
theorem dL_left_7 : decode cL_left 7 = .ok (.i2l, 1) := by decide +kernel
theorem dL_left_8 : decode cL_left 8 = .ok (.lastore, 1) := by decide +kernel
theorem dL_left_9 : decode cL_left 9 = .ok (.goto 6, 3) := by decide +kernel
theorem dL_left_12 : decode cL_left 12 = .ok (.astore_n 3, 1) := by decide +kernel
theorem dL_left_13 : decode cL_left 13 = .ok (.iconst 1, 1) := by decide +kernel
theorem dL_left_14 : decode cL_left 14 = .ok (.ireturn, 1) := by decide +kernel
theorem dL_left_15 : decode cL_left 15 = .ok (.iconst 0, 1) := by decide +kernel
theorem dL_left_16 : decode cL_left 16 = .ok (.ireturn, 1) := by decide +kernel
theorem dL_stateOf_0 : decode cL_stateOf 0 = .ok (.aload_n 2, 1) := by decide +kernel
theorem dL_stateOf_1 : decode cL_stateOf 1 = .ok (.iconst 0, 1) := by decide +kernel
theorem dL_stateOf_2 : decode cL_stateOf 2 = .ok (.aload_n 0, 1) := by decide +kernel
theorem dL_stateOf_3 : decode cL_stateOf 3 = .ok (.iload_n 1, 1) := by decide +kernel
theorem dL_stateOf_4 : decode cL_stateOf 4 = .ok (.invokevirtual 53, 3) := by decide +kernel
theorem dL_stateOf_7 : decode cL_stateOf 7 = .ok (.i2l, 1) := by decide +kernel
theorem dL_stateOf_8 : decode cL_stateOf 8 = .ok (.lastore, 1) := by decide +kernel
theorem dL_stateOf_9 : decode cL_stateOf 9 = .ok (.goto 6, 3) := by decide +kernel
theorem dL_stateOf_12 : decode cL_stateOf 12 = .ok (.astore_n 3, 1) := by decide +kernel
theorem dL_stateOf_13 : decode cL_stateOf 13 = .ok (.iconst 1, 1) := by decide +kernel
theorem dL_stateOf_14 : decode cL_stateOf 14 = .ok (.ireturn, 1) := by decide +kernel
theorem dL_stateOf_15 : decode cL_stateOf 15 = .ok (.iconst 0, 1) := by decide +kernel
theorem dL_stateOf_16 : decode cL_stateOf 16 = .ok (.ireturn, 1) := by decide +kernel
theorem dL_timeOf_0 : decode cL_timeOf 0 = .ok (.aload_n 2, 1) := by decide +kernel
theorem dL_timeOf_1 : decode cL_timeOf 1 = .ok (.iconst 0, 1) := by decide +kernel
theorem dL_timeOf_2 : decode cL_timeOf 2 = .ok (.aload_n 0, 1) := by decide +kernel
theorem dL_timeOf_3 : decode cL_timeOf 3 = .ok (.iload_n 1, 1) := by decide +kernel
theorem dL_timeOf_4 : decode cL_timeOf 4 = .ok (.invokevirtual 57, 3) := by decide +kernel
theorem dL_timeOf_7 : decode cL_timeOf 7 = .ok (.lastore, 1) := by decide +kernel
theorem dL_timeOf_8 : decode cL_timeOf 8 = .ok (.goto 6, 3) := by decide +kernel
theorem dL_timeOf_11 : decode cL_timeOf 11 = .ok (.astore_n 3, 1) := by decide +kernel
theorem dL_timeOf_12 : decode cL_timeOf 12 = .ok (.iconst 1, 1) := by decide +kernel
theorem dL_timeOf_13 : decode cL_timeOf 13 = .ok (.ireturn, 1) := by decide +kernel
theorem dL_timeOf_14 : decode cL_timeOf 14 = .ok (.iconst 0, 1) := by decide +kernel
theorem dL_timeOf_15 : decode cL_timeOf 15 = .ok (.ireturn, 1) := by decide +kernel
theorem dL_timeOfGroup_0 : decode cL_timeOfGroup 0 = .ok (.aload_n 2, 1) := by decide +kernel
theorem dL_timeOfGroup_1 : decode cL_timeOfGroup 1 = .ok (.iconst 0, 1) := by decide +kernel
theorem dL_timeOfGroup_2 : decode cL_timeOfGroup 2 = .ok (.aload_n 0, 1) := by decide +kernel
theorem dL_timeOfGroup_3 : decode cL_timeOfGroup 3 = .ok (.iload_n 1, 1) := by decide +kernel
theorem dL_timeOfGroup_4 : decode cL_timeOfGroup 4 = .ok (.invokevirtual 61, 3) := by decide +kernel
theorem dL_timeOfGroup_7 : decode cL_timeOfGroup 7 = .ok (.lastore, 1) := by decide +kernel
theorem dL_timeOfGroup_8 : decode cL_timeOfGroup 8 = .ok (.goto 6, 3) := by decide +kernel
theorem dL_timeOfGroup_11 : decode cL_timeOfGroup 11 = .ok (.astore_n 3, 1) := by decide +kernel
theorem dL_timeOfGroup_12 : decode cL_timeOfGroup 12 = .ok (.iconst 1, 1) := by decide +kernel
theorem dL_timeOfGroup_13 : decode cL_timeOfGroup 13 = .ok (.ireturn, 1) := by decide +kernel
theorem dL_timeOfGroup_14 : decode cL_timeOfGroup 14 = .ok (.iconst 0, 1) := by decide +kernel
theorem dL_timeOfGroup_15 : decode cL_timeOfGroup 15 = .ok (.ireturn, 1) := by decide +kernel
theorem dL_doneBy_0 : decode cL_doneBy 0 = .ok (.aload_n 2, 1) := by decide +kernel
theorem dL_doneBy_1 : decode cL_doneBy 1 = .ok (.iconst 0, 1) := by decide +kernel
theorem dL_doneBy_2 : decode cL_doneBy 2 = .ok (.aload_n 0, 1) := by decide +kernel
theorem dL_doneBy_3 : decode cL_doneBy 3 = .ok (.iload_n 1, 1) := by decide +kernel
theorem dL_doneBy_4 : decode cL_doneBy 4 = .ok (.invokevirtual 64, 3) := by decide +kernel
theorem dL_doneBy_7 : decode cL_doneBy 7 = .ok (.i2l, 1) := by decide +kernel
theorem dL_doneBy_8 : decode cL_doneBy 8 = .ok (.lastore, 1) := by decide +kernel
theorem dL_doneBy_9 : decode cL_doneBy 9 = .ok (.goto 6, 3) := by decide +kernel
theorem dL_doneBy_12 : decode cL_doneBy 12 = .ok (.astore_n 3, 1) := by decide +kernel
theorem dL_doneBy_13 : decode cL_doneBy 13 = .ok (.iconst 1, 1) := by decide +kernel
theorem dL_doneBy_14 : decode cL_doneBy 14 = .ok (.ireturn, 1) := by decide +kernel
theorem dL_doneBy_15 : decode cL_doneBy 15 = .ok (.iconst 0, 1) := by decide +kernel
theorem dL_doneBy_16 : decode cL_doneBy 16 = .ok (.ireturn, 1) := by decide +kernel
theorem dL_doneIn_0 : decode cL_doneIn 0 = .ok (.aload_n 2, 1) := by decide +kernel
theorem dL_doneIn_1 : decode cL_doneIn 1 = .ok (.iconst 0, 1) := by decide +kernel
theorem dL_doneIn_2 : decode cL_doneIn 2 = .ok (.aload_n 0, 1) := by decide +kernel
theorem dL_doneIn_3 : decode cL_doneIn 3 = .ok (.iload_n 1, 1) := by decide +kernel
theorem dL_doneIn_4 : decode cL_doneIn 4 = .ok (.invokevirtual 67, 3) := by decide +kernel
theorem dL_doneIn_7 : decode cL_doneIn 7 = .ok (.i2l, 1) := by decide +kernel
theorem dL_doneIn_8 : decode cL_doneIn 8 = .ok (.lastore, 1) := by decide +kernel
theorem dL_doneIn_9 : decode cL_doneIn 9 = .ok (.goto 6, 3) := by decide +kernel
theorem dL_doneIn_12 : decode cL_doneIn 12 = .ok (.astore_n 3, 1) := by decide +kernel
theorem dL_doneIn_13 : decode cL_doneIn 13 = .ok (.iconst 1, 1) := by decide +kernel
theorem dL_doneIn_14 : decode cL_doneIn 14 = .ok (.ireturn, 1) := by decide +kernel
theorem dL_doneIn_15 : decode cL_doneIn 15 = .ok (.iconst 0, 1) := by decide +kernel
theorem dL_doneIn_16 : decode cL_doneIn 16 = .ok (.ireturn, 1) := by decide +kernel
theorem dL_deadlineOf_0 : decode cL_deadlineOf 0 = .ok (.aload_n 2, 1) := by decide +kernel
theorem dL_deadlineOf_1 : decode cL_deadlineOf 1 = .ok (.iconst 0, 1) := by decide +kernel
theorem dL_deadlineOf_2 : decode cL_deadlineOf 2 = .ok (.aload_n 0, 1) := by decide +kernel
theorem dL_deadlineOf_3 : decode cL_deadlineOf 3 = .ok (.iload_n 1, 1) := by decide +kernel
theorem dL_deadlineOf_4 : decode cL_deadlineOf 4 = .ok (.invokevirtual 70, 3) := by decide +kernel
theorem dL_deadlineOf_7 : decode cL_deadlineOf 7 = .ok (.i2l, 1) := by decide +kernel
theorem dL_deadlineOf_8 : decode cL_deadlineOf 8 = .ok (.lastore, 1) := by decide +kernel
theorem dL_deadlineOf_9 : decode cL_deadlineOf 9 = .ok (.goto 9, 3) := by decide +kernel
theorem dL_deadlineOf_12 : decode cL_deadlineOf 12 = .ok (.astore_n 3, 1) := by decide +kernel
theorem dL_deadlineOf_13 : decode cL_deadlineOf 13 = .ok (.iconst 1, 1) := by decide +kernel
theorem dL_deadlineOf_14 : decode cL_deadlineOf 14 = .ok (.ireturn, 1) := by decide +kernel
theorem dL_deadlineOf_15 : decode cL_deadlineOf 15 = .ok (.astore_n 3, 1) := by decide +kernel
theorem dL_deadlineOf_16 : decode cL_deadlineOf 16 = .ok (.iconst 2, 1) := by decide +kernel
theorem dL_deadlineOf_17 : decode cL_deadlineOf 17 = .ok (.ireturn, 1) := by decide +kernel
theorem dL_deadlineOf_18 : decode cL_deadlineOf 18 = .ok (.iconst 0, 1) := by decide +kernel
theorem dL_deadlineOf_19 : decode cL_deadlineOf 19 = .ok (.ireturn, 1) := by decide +kernel
theorem dL_urgencyOf_0 : decode cL_urgencyOf 0 = .ok (.aload_n 2, 1) := by decide +kernel
theorem dL_urgencyOf_1 : decode cL_urgencyOf 1 = .ok (.iconst 0, 1) := by decide +kernel
theorem dL_urgencyOf_2 : decode cL_urgencyOf 2 = .ok (.aload_n 0, 1) := by decide +kernel
theorem dL_urgencyOf_3 : decode cL_urgencyOf 3 = .ok (.iload_n 1, 1) := by decide +kernel
theorem dL_urgencyOf_4 : decode cL_urgencyOf 4 = .ok (.invokevirtual 73, 3) := by decide +kernel
theorem dL_urgencyOf_7 : decode cL_urgencyOf 7 = .ok (.i2l, 1) := by decide +kernel
theorem dL_urgencyOf_8 : decode cL_urgencyOf 8 = .ok (.lastore, 1) := by decide +kernel
theorem dL_urgencyOf_9 : decode cL_urgencyOf 9 = .ok (.goto 6, 3) := by decide +kernel
theorem dL_urgencyOf_12 : decode cL_urgencyOf 12 = .ok (.astore_n 3, 1) := by decide +kernel
theorem dL_urgencyOf_13 : decode cL_urgencyOf 13 = .ok (.iconst 1, 1) := by decide +kernel
theorem dL_urgencyOf_14 : decode cL_urgencyOf 14 = .ok (.ireturn, 1) := by decide +kernel
theorem dL_urgencyOf_15 : decode cL_urgencyOf 15 = .ok (.iconst 0, 1) := by decide +kernel
theorem dL_urgencyOf_16 : decode cL_urgencyOf 16 = .ok (.ireturn, 1) := by decide +kernel
theorem dL_missesOf_0 : decode cL_missesOf 0 = .ok (.aload_n 2, 1) := by decide +kernel
theorem dL_missesOf_1 : decode cL_missesOf 1 = .ok (.iconst 0, 1) := by decide +kernel
theorem dL_missesOf_2 : decode cL_missesOf 2 = .ok (.aload_n 0, 1) := by decide +kernel
theorem dL_missesOf_3 : decode cL_missesOf 3 = .ok (.iload_n 1, 1) := by decide +kernel
theorem dL_missesOf_4 : decode cL_missesOf 4 = .ok (.invokevirtual 76, 3) := by decide +kernel
theorem dL_missesOf_7 : decode cL_missesOf 7 = .ok (.i2l, 1) := by decide +kernel
theorem dL_missesOf_8 : decode cL_missesOf 8 = .ok (.lastore, 1) := by decide +kernel
theorem dL_missesOf_9 : decode cL_missesOf 9 = .ok (.goto 6, 3) := by decide +kernel
theorem dL_missesOf_12 : decode cL_missesOf 12 = .ok (.astore_n 3, 1) := by decide +kernel
theorem dL_missesOf_13 : decode cL_missesOf 13 = .ok (.iconst 1, 1) := by decide +kernel
theorem dL_missesOf_14 : decode cL_missesOf 14 = .ok (.ireturn, 1) := by decide +kernel
theorem dL_missesOf_15 : decode cL_missesOf 15 = .ok (.iconst 0, 1) := by decide +kernel
theorem dL_missesOf_16 : decode cL_missesOf 16 = .ok (.ireturn, 1) := by decide +kernel
theorem dL_take_0 : decode cL_take 0 = .ok (.aload_n 3, 1) := by decide +kernel
theorem dL_take_1 : decode cL_take 1 = .ok (.iconst 0, 1) := by decide +kernel
theorem dL_take_2 : decode cL_take 2 = .ok (.aload_n 0, 1) := by decide +kernel
theorem dL_take_3 : decode cL_take 3 = .ok (.iload_n 1, 1) := by decide +kernel
theorem dL_take_4 : decode cL_take 4 = .ok (.iload_n 2, 1) := by decide +kernel
theorem dL_take_5 : decode cL_take 5 = .ok (.invokevirtual 79, 3) := by decide +kernel
theorem dL_take_8 : decode cL_take 8 = .ok (.ifCond .eq 7, 3) := by decide +kernel
theorem dL_take_11 : decode cL_take 11 = .ok (.lconst 1, 1) := by decide +kernel
theorem dL_take_12 : decode cL_take 12 = .ok (.goto 4, 3) := by decide +kernel
theorem dL_take_15 : decode cL_take 15 = .ok (.lconst 0, 1) := by decide +kernel
theorem dL_take_16 : decode cL_take 16 = .ok (.lastore, 1) := by decide +kernel
theorem dL_take_17 : decode cL_take 17 = .ok (.goto 19, 3) := by decide +kernel
theorem dL_take_20 : decode cL_take 20 = .ok (.astore 4, 2) := by decide +kernel
theorem dL_take_22 : decode cL_take 22 = .ok (.iconst 1, 1) := by decide +kernel
theorem dL_take_23 : decode cL_take 23 = .ok (.ireturn, 1) := by decide +kernel
theorem dL_take_24 : decode cL_take 24 = .ok (.astore 4, 2) := by decide +kernel
theorem dL_take_26 : decode cL_take 26 = .ok (.iconst 2, 1) := by decide +kernel
theorem dL_take_27 : decode cL_take 27 = .ok (.ireturn, 1) := by decide +kernel
theorem dL_take_28 : decode cL_take 28 = .ok (.astore 4, 2) := by decide +kernel
theorem dL_take_30 : decode cL_take 30 = .ok (.iconst 3, 1) := by decide +kernel
theorem dL_take_31 : decode cL_take 31 = .ok (.ireturn, 1) := by decide +kernel
theorem dL_take_32 : decode cL_take 32 = .ok (.astore 4, 2) := by decide +kernel
theorem dL_take_34 : decode cL_take 34 = .ok (.iconst 4, 1) := by decide +kernel
theorem dL_take_35 : decode cL_take 35 = .ok (.ireturn, 1) := by decide +kernel
theorem dL_take_36 : decode cL_take 36 = .ok (.iconst 0, 1) := by decide +kernel
theorem dL_take_37 : decode cL_take 37 = .ok (.ireturn, 1) := by decide +kernel
theorem dL_release_0 : decode cL_release 0 = .ok (.aload_n 2, 1) := by decide +kernel
theorem dL_release_1 : decode cL_release 1 = .ok (.iconst 0, 1) := by decide +kernel
theorem dL_release_2 : decode cL_release 2 = .ok (.aload_n 0, 1) := by decide +kernel
theorem dL_release_3 : decode cL_release 3 = .ok (.iload_n 1, 1) := by decide +kernel
theorem dL_release_4 : decode cL_release 4 = .ok (.invokevirtual 83, 3) := by decide +kernel
theorem dL_release_7 : decode cL_release 7 = .ok (.i2l, 1) := by decide +kernel
theorem dL_release_8 : decode cL_release 8 = .ok (.lastore, 1) := by decide +kernel
theorem dL_release_9 : decode cL_release 9 = .ok (.goto 9, 3) := by decide +kernel
theorem dL_release_12 : decode cL_release 12 = .ok (.astore_n 3, 1) := by decide +kernel
theorem dL_release_13 : decode cL_release 13 = .ok (.iconst 1, 1) := by decide +kernel
theorem dL_release_14 : decode cL_release 14 = .ok (.ireturn, 1) := by decide +kernel
theorem dL_release_15 : decode cL_release 15 = .ok (.astore_n 3, 1) := by decide +kernel
theorem dL_release_16 : decode cL_release 16 = .ok (.iconst 2, 1) := by decide +kernel
theorem dL_release_17 : decode cL_release 17 = .ok (.ireturn, 1) := by decide +kernel
theorem dL_release_18 : decode cL_release 18 = .ok (.iconst 0, 1) := by decide +kernel
theorem dL_release_19 : decode cL_release 19 = .ok (.ireturn, 1) := by decide +kernel
theorem dL_holderOf_0 : decode cL_holderOf 0 = .ok (.aload_n 2, 1) := by decide +kernel
theorem dL_holderOf_1 : decode cL_holderOf 1 = .ok (.iconst 0, 1) := by decide +kernel
theorem dL_holderOf_2 : decode cL_holderOf 2 = .ok (.aload_n 0, 1) := by decide +kernel
theorem dL_holderOf_3 : decode cL_holderOf 3 = .ok (.iload_n 1, 1) := by decide +kernel
theorem dL_holderOf_4 : decode cL_holderOf 4 = .ok (.invokevirtual 86, 3) := by decide +kernel
theorem dL_holderOf_7 : decode cL_holderOf 7 = .ok (.i2l, 1) := by decide +kernel
theorem dL_holderOf_8 : decode cL_holderOf 8 = .ok (.lastore, 1) := by decide +kernel
theorem dL_holderOf_9 : decode cL_holderOf 9 = .ok (.goto 6, 3) := by decide +kernel
theorem dL_holderOf_12 : decode cL_holderOf 12 = .ok (.astore_n 3, 1) := by decide +kernel
theorem dL_holderOf_13 : decode cL_holderOf 13 = .ok (.iconst 1, 1) := by decide +kernel
theorem dL_holderOf_14 : decode cL_holderOf 14 = .ok (.ireturn, 1) := by decide +kernel
theorem dL_holderOf_15 : decode cL_holderOf 15 = .ok (.iconst 0, 1) := by decide +kernel
theorem dL_holderOf_16 : decode cL_holderOf 16 = .ok (.ireturn, 1) := by decide +kernel
theorem dL_waiterAt_0 : decode cL_waiterAt 0 = .ok (.aload_n 3, 1) := by decide +kernel
theorem dL_waiterAt_1 : decode cL_waiterAt 1 = .ok (.iconst 0, 1) := by decide +kernel
theorem dL_waiterAt_2 : decode cL_waiterAt 2 = .ok (.aload_n 0, 1) := by decide +kernel
theorem dL_waiterAt_3 : decode cL_waiterAt 3 = .ok (.iload_n 1, 1) := by decide +kernel
theorem dL_waiterAt_4 : decode cL_waiterAt 4 = .ok (.iload_n 2, 1) := by decide +kernel
theorem dL_waiterAt_5 : decode cL_waiterAt 5 = .ok (.invokevirtual 89, 3) := by decide +kernel
theorem dL_waiterAt_8 : decode cL_waiterAt 8 = .ok (.i2l, 1) := by decide +kernel
theorem dL_waiterAt_9 : decode cL_waiterAt 9 = .ok (.lastore, 1) := by decide +kernel
theorem dL_waiterAt_10 : decode cL_waiterAt 10 = .ok (.goto 11, 3) := by decide +kernel
theorem dL_waiterAt_13 : decode cL_waiterAt 13 = .ok (.astore 4, 2) := by decide +kernel
theorem dL_waiterAt_15 : decode cL_waiterAt 15 = .ok (.iconst 1, 1) := by decide +kernel
theorem dL_waiterAt_16 : decode cL_waiterAt 16 = .ok (.ireturn, 1) := by decide +kernel
theorem dL_waiterAt_17 : decode cL_waiterAt 17 = .ok (.astore 4, 2) := by decide +kernel
theorem dL_waiterAt_19 : decode cL_waiterAt 19 = .ok (.iconst 2, 1) := by decide +kernel
theorem dL_waiterAt_20 : decode cL_waiterAt 20 = .ok (.ireturn, 1) := by decide +kernel
theorem dL_waiterAt_21 : decode cL_waiterAt 21 = .ok (.iconst 0, 1) := by decide +kernel
theorem dL_waiterAt_22 : decode cL_waiterAt 22 = .ok (.ireturn, 1) := by decide +kernel
theorem dL_choice_0 : decode cL_choice 0 = .ok (.aload_n 2, 1) := by decide +kernel
theorem dL_choice_1 : decode cL_choice 1 = .ok (.iconst 0, 1) := by decide +kernel
theorem dL_choice_2 : decode cL_choice 2 = .ok (.aload_n 0, 1) := by decide +kernel
theorem dL_choice_3 : decode cL_choice 3 = .ok (.iload_n 1, 1) := by decide +kernel
theorem dL_choice_4 : decode cL_choice 4 = .ok (.invokevirtual 92, 3) := by decide +kernel
theorem dL_choice_7 : decode cL_choice 7 = .ok (.i2l, 1) := by decide +kernel
theorem dL_choice_8 : decode cL_choice 8 = .ok (.lastore, 1) := by decide +kernel
theorem dL_choice_9 : decode cL_choice 9 = .ok (.goto 6, 3) := by decide +kernel
theorem dL_choice_12 : decode cL_choice 12 = .ok (.astore_n 3, 1) := by decide +kernel
theorem dL_choice_13 : decode cL_choice 13 = .ok (.iconst 1, 1) := by decide +kernel
theorem dL_choice_14 : decode cL_choice 14 = .ok (.ireturn, 1) := by decide +kernel
theorem dL_choice_15 : decode cL_choice 15 = .ok (.iconst 0, 1) := by decide +kernel
theorem dL_choice_16 : decode cL_choice 16 = .ok (.ireturn, 1) := by decide +kernel
theorem dL_choiceByComparing_0 : decode cL_choiceByComparing 0 = .ok (.aload_n 2, 1) := by decide +kernel
theorem dL_choiceByComparing_1 : decode cL_choiceByComparing 1 = .ok (.iconst 0, 1) := by decide +kernel
theorem dL_choiceByComparing_2 : decode cL_choiceByComparing 2 = .ok (.aload_n 0, 1) := by decide +kernel
theorem dL_choiceByComparing_3 : decode cL_choiceByComparing 3 = .ok (.iload_n 1, 1) := by decide +kernel
theorem dL_choiceByComparing_4 : decode cL_choiceByComparing 4 = .ok (.invokevirtual 95, 3) := by decide +kernel
theorem dL_choiceByComparing_7 : decode cL_choiceByComparing 7 = .ok (.i2l, 1) := by decide +kernel
theorem dL_choiceByComparing_8 : decode cL_choiceByComparing 8 = .ok (.lastore, 1) := by decide +kernel
theorem dL_choiceByComparing_9 : decode cL_choiceByComparing 9 = .ok (.goto 6, 3) := by decide +kernel
theorem dL_choiceByComparing_12 : decode cL_choiceByComparing 12 = .ok (.astore_n 3, 1) := by decide +kernel
theorem dL_choiceByComparing_13 : decode cL_choiceByComparing 13 = .ok (.iconst 1, 1) := by decide +kernel
theorem dL_choiceByComparing_14 : decode cL_choiceByComparing 14 = .ok (.ireturn, 1) := by decide +kernel
theorem dL_choiceByComparing_15 : decode cL_choiceByComparing 15 = .ok (.iconst 0, 1) := by decide +kernel
theorem dL_choiceByComparing_16 : decode cL_choiceByComparing 16 = .ok (.ireturn, 1) := by decide +kernel
theorem dL_pass_0 : decode cL_pass 0 = .ok (.aload_n 2, 1) := by decide +kernel
theorem dL_pass_1 : decode cL_pass 1 = .ok (.iconst 0, 1) := by decide +kernel
theorem dL_pass_2 : decode cL_pass 2 = .ok (.aload_n 0, 1) := by decide +kernel
theorem dL_pass_3 : decode cL_pass 3 = .ok (.iload_n 1, 1) := by decide +kernel
theorem dL_pass_4 : decode cL_pass 4 = .ok (.invokevirtual 98, 3) := by decide +kernel
theorem dL_pass_7 : decode cL_pass 7 = .ok (.i2l, 1) := by decide +kernel
theorem dL_pass_8 : decode cL_pass 8 = .ok (.lastore, 1) := by decide +kernel
theorem dL_pass_9 : decode cL_pass 9 = .ok (.goto 9, 3) := by decide +kernel
theorem dL_pass_12 : decode cL_pass 12 = .ok (.astore_n 3, 1) := by decide +kernel
theorem dL_pass_13 : decode cL_pass 13 = .ok (.iconst 1, 1) := by decide +kernel
theorem dL_pass_14 : decode cL_pass 14 = .ok (.ireturn, 1) := by decide +kernel
theorem dL_pass_15 : decode cL_pass 15 = .ok (.astore_n 3, 1) := by decide +kernel
theorem dL_pass_16 : decode cL_pass 16 = .ok (.iconst 2, 1) := by decide +kernel
theorem dL_pass_17 : decode cL_pass 17 = .ok (.ireturn, 1) := by decide +kernel
theorem dL_pass_18 : decode cL_pass 18 = .ok (.iconst 0, 1) := by decide +kernel
theorem dL_pass_19 : decode cL_pass 19 = .ok (.ireturn, 1) := by decide +kernel
theorem dL_usedShare_0 : decode cL_usedShare 0 = .ok (.aload_n 1, 1) := by decide +kernel
theorem dL_usedShare_1 : decode cL_usedShare 1 = .ok (.iconst 0, 1) := by decide +kernel
theorem dL_usedShare_2 : decode cL_usedShare 2 = .ok (.aload_n 0, 1) := by decide +kernel
theorem dL_usedShare_3 : decode cL_usedShare 3 = .ok (.invokevirtual 101, 3) := by decide +kernel
theorem dL_usedShare_6 : decode cL_usedShare 6 = .ok (.f2d, 1) := by decide +kernel
theorem dL_usedShare_7 : decode cL_usedShare 7 = .ok (.dastore, 1) := by decide +kernel
theorem dL_usedShare_8 : decode cL_usedShare 8 = .ok (.goto 6, 3) := by decide +kernel
theorem dL_usedShare_11 : decode cL_usedShare 11 = .ok (.astore_n 2, 1) := by decide +kernel
theorem dL_usedShare_12 : decode cL_usedShare 12 = .ok (.iconst 1, 1) := by decide +kernel
theorem dL_usedShare_13 : decode cL_usedShare 13 = .ok (.ireturn, 1) := by decide +kernel
theorem dL_usedShare_14 : decode cL_usedShare 14 = .ok (.iconst 0, 1) := by decide +kernel
theorem dL_usedShare_15 : decode cL_usedShare 15 = .ok (.ireturn, 1) := by decide +kernel
theorem dL_meanHeat_0 : decode cL_meanHeat 0 = .ok (.aload_n 1, 1) := by decide +kernel
theorem dL_meanHeat_1 : decode cL_meanHeat 1 = .ok (.iconst 0, 1) := by decide +kernel
theorem dL_meanHeat_2 : decode cL_meanHeat 2 = .ok (.aload_n 0, 1) := by decide +kernel
theorem dL_meanHeat_3 : decode cL_meanHeat 3 = .ok (.invokevirtual 107, 3) := by decide +kernel
theorem dL_meanHeat_6 : decode cL_meanHeat 6 = .ok (.dastore, 1) := by decide +kernel
theorem dL_meanHeat_7 : decode cL_meanHeat 7 = .ok (.goto 6, 3) := by decide +kernel
theorem dL_meanHeat_10 : decode cL_meanHeat 10 = .ok (.astore_n 2, 1) := by decide +kernel
theorem dL_meanHeat_11 : decode cL_meanHeat 11 = .ok (.iconst 1, 1) := by decide +kernel
theorem dL_meanHeat_12 : decode cL_meanHeat 12 = .ok (.ireturn, 1) := by decide +kernel
theorem dL_meanHeat_13 : decode cL_meanHeat 13 = .ok (.iconst 0, 1) := by decide +kernel
theorem dL_meanHeat_14 : decode cL_meanHeat 14 = .ok (.ireturn, 1) := by decide +kernel
theorem dL_law_0 : decode cL_law 0 = .ok (.new 8, 3) := by decide +kernel
theorem dL_law_3 : decode cL_law 3 = .ok (.dup, 1) := by decide +kernel
theorem dL_law_4 : decode cL_law 4 = .ok (.invokespecial 111, 3) := by decide +kernel
theorem dL_law_7 : decode cL_law 7 = .ok (.astore_n 1, 1) := by decide +kernel
theorem dL_law_8 : decode cL_law 8 = .ok (.new 112, 3) := by decide +kernel
theorem dL_law_11 : decode cL_law 11 = .ok (.dup, 1) := by decide +kernel
theorem dL_law_12 : decode cL_law 12 = .ok (.invokespecial 114, 3) := by decide +kernel
theorem dL_law_15 : decode cL_law 15 = .ok (.astore_n 2, 1) := by decide +kernel
theorem dL_law_16 : decode cL_law 16 = .ok (.iconst 1, 1) := by decide +kernel
theorem dL_law_17 : decode cL_law 17 = .ok (.newarray .long, 2) := by decide +kernel
theorem dL_law_19 : decode cL_law 19 = .ok (.astore_n 3, 1) := by decide +kernel
theorem dL_law_20 : decode cL_law 20 = .ok (.iconst 1, 1) := by decide +kernel
theorem dL_law_21 : decode cL_law 21 = .ok (.newarray .double, 2) := by decide +kernel
theorem dL_law_23 : decode cL_law 23 = .ok (.astore 4, 2) := by decide +kernel
theorem dL_law_25 : decode cL_law 25 = .ok (.iconst 0, 1) := by decide +kernel
theorem dL_law_26 : decode cL_law 26 = .ok (.istore 5, 2) := by decide +kernel
theorem dL_law_28 : decode cL_law 28 = .ok (.iload 5, 2) := by decide +kernel
theorem dL_law_30 : decode cL_law 30 = .ok (.aload_n 0, 1) := by decide +kernel
theorem dL_law_31 : decode cL_law 31 = .ok (.arraylength, 1) := by decide +kernel
theorem dL_law_32 : decode cL_law 32 = .ok (.iconst 5, 1) := by decide +kernel
theorem dL_law_33 : decode cL_law 33 = .ok (.isub, 1) := by decide +kernel
theorem dL_law_34 : decode cL_law 34 = .ok (.if_icmp .gt 1874, 3) := by decide +kernel
theorem dL_law_37 : decode cL_law 37 = .ok (.aload_n 0, 1) := by decide +kernel
theorem dL_law_38 : decode cL_law 38 = .ok (.iload 5, 2) := by decide +kernel
theorem dL_law_40 : decode cL_law 40 = .ok (.iaload, 1) := by decide +kernel
theorem dL_law_41 : decode cL_law 41 = .ok (.bipush 63, 2) := by decide +kernel
theorem dL_law_43 : decode cL_law 43 = .ok (.iand, 1) := by decide +kernel
theorem dL_law_44 : decode cL_law 44 = .ok (.tableswitch 1858 0 32 #[148, 204, 260, 316, 372, 428, 496, 576, 668, 724, 780, 836, 891, 946, 1002, 1058, 1071, 1084, 1140, 1196, 1252, 1265, 1340, 1396, 1452, 1520, 1576, 1632, 1688, 1701, 1714, 1780, 1845], 148) := by decide +kernel
theorem dL_law_192 : decode cL_law 192 = .ok (.aload_n 1, 1) := by decide +kernel
theorem dL_law_193 : decode cL_law 193 = .ok (.aload_n 0, 1) := by decide +kernel
theorem dL_law_194 : decode cL_law 194 = .ok (.iload 5, 2) := by decide +kernel
theorem dL_law_196 : decode cL_law 196 = .ok (.iconst 1, 1) := by decide +kernel
theorem dL_law_197 : decode cL_law 197 = .ok (.iadd, 1) := by decide +kernel
theorem dL_law_198 : decode cL_law 198 = .ok (.iaload, 1) := by decide +kernel
theorem dL_law_199 : decode cL_law 199 = .ok (.aload_n 3, 1) := by decide +kernel
theorem dL_law_200 : decode cL_law 200 = .ok (.invokestatic 115, 3) := by decide +kernel
theorem dL_law_203 : decode cL_law 203 = .ok (.istore 6, 2) := by decide +kernel
theorem dL_law_205 : decode cL_law 205 = .ok (.aload_n 2, 1) := by decide +kernel
theorem dL_law_206 : decode cL_law 206 = .ok (.aload_n 0, 1) := by decide +kernel
theorem dL_law_207 : decode cL_law 207 = .ok (.iload 5, 2) := by decide +kernel
theorem dL_law_209 : decode cL_law 209 = .ok (.iconst 1, 1) := by decide +kernel
theorem dL_law_210 : decode cL_law 210 = .ok (.iadd, 1) := by decide +kernel
theorem dL_law_211 : decode cL_law 211 = .ok (.iaload, 1) := by decide +kernel
theorem dL_law_212 : decode cL_law 212 = .ok (.invokevirtual 120, 3) := by decide +kernel
theorem dL_law_215 : decode cL_law 215 = .ok (.istore 7, 2) := by decide +kernel
theorem dL_law_217 : decode cL_law 217 = .ok (.aload_n 2, 1) := by decide +kernel
theorem dL_law_218 : decode cL_law 218 = .ok (.invokevirtual 121, 3) := by decide +kernel
theorem dL_law_221 : decode cL_law 221 = .ok (.iload 6, 2) := by decide +kernel
theorem dL_law_223 : decode cL_law 223 = .ok (.if_icmp .eq 5, 3) := by decide +kernel
theorem dL_law_226 : decode cL_law 226 = .ok (.iconst 0, 1) := by decide +kernel
theorem dL_law_227 : decode cL_law 227 = .ok (.ireturn, 1) := by decide +kernel
theorem dL_law_228 : decode cL_law 228 = .ok (.iload 6, 2) := by decide +kernel
theorem dL_law_230 : decode cL_law 230 = .ok (.ifCond .ne 15, 3) := by decide +kernel
theorem dL_law_233 : decode cL_law 233 = .ok (.aload_n 3, 1) := by decide +kernel
theorem dL_law_234 : decode cL_law 234 = .ok (.iconst 0, 1) := by decide +kernel
theorem dL_law_235 : decode cL_law 235 = .ok (.laload, 1) := by decide +kernel
theorem dL_law_236 : decode cL_law 236 = .ok (.iload 7, 2) := by decide +kernel
theorem dL_law_238 : decode cL_law 238 = .ok (.i2l, 1) := by decide +kernel
theorem dL_law_239 : decode cL_law 239 = .ok (.lcmp, 1) := by decide +kernel
theorem dL_law_240 : decode cL_law 240 = .ok (.ifCond .eq 5, 3) := by decide +kernel
theorem dL_law_243 : decode cL_law 243 = .ok (.iconst 0, 1) := by decide +kernel
theorem dL_law_244 : decode cL_law 244 = .ok (.ireturn, 1) := by decide +kernel
theorem dL_law_245 : decode cL_law 245 = .ok (.goto 1657, 3) := by decide +kernel
theorem dL_law_248 : decode cL_law 248 = .ok (.aload_n 1, 1) := by decide +kernel
theorem dL_law_249 : decode cL_law 249 = .ok (.aload_n 0, 1) := by decide +kernel
theorem dL_law_250 : decode cL_law 250 = .ok (.iload 5, 2) := by decide +kernel
theorem dL_law_252 : decode cL_law 252 = .ok (.iconst 1, 1) := by decide +kernel
theorem dL_law_253 : decode cL_law 253 = .ok (.iadd, 1) := by decide +kernel
theorem dL_law_254 : decode cL_law 254 = .ok (.iaload, 1) := by decide +kernel
theorem dL_law_255 : decode cL_law 255 = .ok (.aload_n 3, 1) := by decide +kernel
theorem dL_law_256 : decode cL_law 256 = .ok (.invokestatic 125, 3) := by decide +kernel
theorem dL_law_259 : decode cL_law 259 = .ok (.istore 6, 2) := by decide +kernel
theorem dL_law_261 : decode cL_law 261 = .ok (.aload_n 2, 1) := by decide +kernel
theorem dL_law_262 : decode cL_law 262 = .ok (.aload_n 0, 1) := by decide +kernel
theorem dL_law_263 : decode cL_law 263 = .ok (.iload 5, 2) := by decide +kernel
theorem dL_law_265 : decode cL_law 265 = .ok (.iconst 1, 1) := by decide +kernel
theorem dL_law_266 : decode cL_law 266 = .ok (.iadd, 1) := by decide +kernel
theorem dL_law_267 : decode cL_law 267 = .ok (.iaload, 1) := by decide +kernel
theorem dL_law_268 : decode cL_law 268 = .ok (.invokevirtual 127, 3) := by decide +kernel
theorem dL_law_271 : decode cL_law 271 = .ok (.istore 7, 2) := by decide +kernel
theorem dL_law_273 : decode cL_law 273 = .ok (.aload_n 2, 1) := by decide +kernel
theorem dL_law_274 : decode cL_law 274 = .ok (.invokevirtual 121, 3) := by decide +kernel
theorem dL_law_277 : decode cL_law 277 = .ok (.iload 6, 2) := by decide +kernel
theorem dL_law_279 : decode cL_law 279 = .ok (.if_icmp .eq 5, 3) := by decide +kernel
theorem dL_law_282 : decode cL_law 282 = .ok (.iconst 0, 1) := by decide +kernel
theorem dL_law_283 : decode cL_law 283 = .ok (.ireturn, 1) := by decide +kernel
theorem dL_law_284 : decode cL_law 284 = .ok (.iload 6, 2) := by decide +kernel
theorem dL_law_286 : decode cL_law 286 = .ok (.ifCond .ne 15, 3) := by decide +kernel
theorem dL_law_289 : decode cL_law 289 = .ok (.aload_n 3, 1) := by decide +kernel
theorem dL_law_290 : decode cL_law 290 = .ok (.iconst 0, 1) := by decide +kernel
theorem dL_law_291 : decode cL_law 291 = .ok (.laload, 1) := by decide +kernel
theorem dL_law_292 : decode cL_law 292 = .ok (.iload 7, 2) := by decide +kernel
theorem dL_law_294 : decode cL_law 294 = .ok (.i2l, 1) := by decide +kernel
theorem dL_law_295 : decode cL_law 295 = .ok (.lcmp, 1) := by decide +kernel
theorem dL_law_296 : decode cL_law 296 = .ok (.ifCond .eq 5, 3) := by decide +kernel
theorem dL_law_299 : decode cL_law 299 = .ok (.iconst 0, 1) := by decide +kernel
theorem dL_law_300 : decode cL_law 300 = .ok (.ireturn, 1) := by decide +kernel
theorem dL_law_301 : decode cL_law 301 = .ok (.goto 1601, 3) := by decide +kernel
theorem dL_law_304 : decode cL_law 304 = .ok (.aload_n 1, 1) := by decide +kernel
theorem dL_law_305 : decode cL_law 305 = .ok (.aload_n 0, 1) := by decide +kernel
theorem dL_law_306 : decode cL_law 306 = .ok (.iload 5, 2) := by decide +kernel
theorem dL_law_308 : decode cL_law 308 = .ok (.iconst 1, 1) := by decide +kernel
theorem dL_law_309 : decode cL_law 309 = .ok (.iadd, 1) := by decide +kernel
theorem dL_law_310 : decode cL_law 310 = .ok (.iaload, 1) := by decide +kernel
theorem dL_law_311 : decode cL_law 311 = .ok (.aload_n 3, 1) := by decide +kernel
theorem dL_law_312 : decode cL_law 312 = .ok (.invokestatic 128, 3) := by decide +kernel
theorem dL_law_315 : decode cL_law 315 = .ok (.istore 6, 2) := by decide +kernel
theorem dL_law_317 : decode cL_law 317 = .ok (.aload_n 2, 1) := by decide +kernel
theorem dL_law_318 : decode cL_law 318 = .ok (.aload_n 0, 1) := by decide +kernel
theorem dL_law_319 : decode cL_law 319 = .ok (.iload 5, 2) := by decide +kernel
theorem dL_law_321 : decode cL_law 321 = .ok (.iconst 1, 1) := by decide +kernel
theorem dL_law_322 : decode cL_law 322 = .ok (.iadd, 1) := by decide +kernel
theorem dL_law_323 : decode cL_law 323 = .ok (.iaload, 1) := by decide +kernel
theorem dL_law_324 : decode cL_law 324 = .ok (.invokevirtual 130, 3) := by decide +kernel
theorem dL_law_327 : decode cL_law 327 = .ok (.istore 7, 2) := by decide +kernel
theorem dL_law_329 : decode cL_law 329 = .ok (.aload_n 2, 1) := by decide +kernel
theorem dL_law_330 : decode cL_law 330 = .ok (.invokevirtual 121, 3) := by decide +kernel
theorem dL_law_333 : decode cL_law 333 = .ok (.iload 6, 2) := by decide +kernel
theorem dL_law_335 : decode cL_law 335 = .ok (.if_icmp .eq 5, 3) := by decide +kernel
theorem dL_law_338 : decode cL_law 338 = .ok (.iconst 0, 1) := by decide +kernel
theorem dL_law_339 : decode cL_law 339 = .ok (.ireturn, 1) := by decide +kernel
theorem dL_law_340 : decode cL_law 340 = .ok (.iload 6, 2) := by decide +kernel
theorem dL_law_342 : decode cL_law 342 = .ok (.ifCond .ne 15, 3) := by decide +kernel
theorem dL_law_345 : decode cL_law 345 = .ok (.aload_n 3, 1) := by decide +kernel
theorem dL_law_346 : decode cL_law 346 = .ok (.iconst 0, 1) := by decide +kernel
theorem dL_law_347 : decode cL_law 347 = .ok (.laload, 1) := by decide +kernel
theorem dL_law_348 : decode cL_law 348 = .ok (.iload 7, 2) := by decide +kernel
theorem dL_law_350 : decode cL_law 350 = .ok (.i2l, 1) := by decide +kernel
theorem dL_law_351 : decode cL_law 351 = .ok (.lcmp, 1) := by decide +kernel
theorem dL_law_352 : decode cL_law 352 = .ok (.ifCond .eq 5, 3) := by decide +kernel
theorem dL_law_355 : decode cL_law 355 = .ok (.iconst 0, 1) := by decide +kernel
theorem dL_law_356 : decode cL_law 356 = .ok (.ireturn, 1) := by decide +kernel
theorem dL_law_357 : decode cL_law 357 = .ok (.goto 1545, 3) := by decide +kernel
theorem dL_law_360 : decode cL_law 360 = .ok (.aload_n 1, 1) := by decide +kernel
theorem dL_law_361 : decode cL_law 361 = .ok (.aload_n 0, 1) := by decide +kernel
theorem dL_law_362 : decode cL_law 362 = .ok (.iload 5, 2) := by decide +kernel
theorem dL_law_364 : decode cL_law 364 = .ok (.iconst 1, 1) := by decide +kernel
theorem dL_law_365 : decode cL_law 365 = .ok (.iadd, 1) := by decide +kernel
theorem dL_law_366 : decode cL_law 366 = .ok (.iaload, 1) := by decide +kernel
theorem dL_law_367 : decode cL_law 367 = .ok (.aload_n 3, 1) := by decide +kernel
theorem dL_law_368 : decode cL_law 368 = .ok (.invokestatic 131, 3) := by decide +kernel
theorem dL_law_371 : decode cL_law 371 = .ok (.istore 6, 2) := by decide +kernel
theorem dL_law_373 : decode cL_law 373 = .ok (.aload_n 2, 1) := by decide +kernel
theorem dL_law_374 : decode cL_law 374 = .ok (.aload_n 0, 1) := by decide +kernel
theorem dL_law_375 : decode cL_law 375 = .ok (.iload 5, 2) := by decide +kernel
theorem dL_law_377 : decode cL_law 377 = .ok (.iconst 1, 1) := by decide +kernel
theorem dL_law_378 : decode cL_law 378 = .ok (.iadd, 1) := by decide +kernel
theorem dL_law_379 : decode cL_law 379 = .ok (.iaload, 1) := by decide +kernel
theorem dL_law_380 : decode cL_law 380 = .ok (.invokevirtual 133, 3) := by decide +kernel
theorem dL_law_383 : decode cL_law 383 = .ok (.istore 7, 2) := by decide +kernel
theorem dL_law_385 : decode cL_law 385 = .ok (.aload_n 2, 1) := by decide +kernel
theorem dL_law_386 : decode cL_law 386 = .ok (.invokevirtual 121, 3) := by decide +kernel
theorem dL_law_389 : decode cL_law 389 = .ok (.iload 6, 2) := by decide +kernel
theorem dL_law_391 : decode cL_law 391 = .ok (.if_icmp .eq 5, 3) := by decide +kernel
theorem dL_law_394 : decode cL_law 394 = .ok (.iconst 0, 1) := by decide +kernel
theorem dL_law_395 : decode cL_law 395 = .ok (.ireturn, 1) := by decide +kernel
theorem dL_law_396 : decode cL_law 396 = .ok (.iload 6, 2) := by decide +kernel
theorem dL_law_398 : decode cL_law 398 = .ok (.ifCond .ne 15, 3) := by decide +kernel
theorem dL_law_401 : decode cL_law 401 = .ok (.aload_n 3, 1) := by decide +kernel
theorem dL_law_402 : decode cL_law 402 = .ok (.iconst 0, 1) := by decide +kernel
theorem dL_law_403 : decode cL_law 403 = .ok (.laload, 1) := by decide +kernel
theorem dL_law_404 : decode cL_law 404 = .ok (.iload 7, 2) := by decide +kernel
theorem dL_law_406 : decode cL_law 406 = .ok (.i2l, 1) := by decide +kernel
theorem dL_law_407 : decode cL_law 407 = .ok (.lcmp, 1) := by decide +kernel
theorem dL_law_408 : decode cL_law 408 = .ok (.ifCond .eq 5, 3) := by decide +kernel
theorem dL_law_411 : decode cL_law 411 = .ok (.iconst 0, 1) := by decide +kernel
theorem dL_law_412 : decode cL_law 412 = .ok (.ireturn, 1) := by decide +kernel
theorem dL_law_413 : decode cL_law 413 = .ok (.goto 1489, 3) := by decide +kernel
theorem dL_law_416 : decode cL_law 416 = .ok (.aload_n 1, 1) := by decide +kernel
theorem dL_law_417 : decode cL_law 417 = .ok (.aload_n 0, 1) := by decide +kernel
theorem dL_law_418 : decode cL_law 418 = .ok (.iload 5, 2) := by decide +kernel
theorem dL_law_420 : decode cL_law 420 = .ok (.iconst 1, 1) := by decide +kernel
theorem dL_law_421 : decode cL_law 421 = .ok (.iadd, 1) := by decide +kernel
theorem dL_law_422 : decode cL_law 422 = .ok (.iaload, 1) := by decide +kernel
theorem dL_law_423 : decode cL_law 423 = .ok (.aload_n 3, 1) := by decide +kernel
theorem dL_law_424 : decode cL_law 424 = .ok (.invokestatic 134, 3) := by decide +kernel
theorem dL_law_427 : decode cL_law 427 = .ok (.istore 6, 2) := by decide +kernel
theorem dL_law_429 : decode cL_law 429 = .ok (.aload_n 2, 1) := by decide +kernel
theorem dL_law_430 : decode cL_law 430 = .ok (.aload_n 0, 1) := by decide +kernel
theorem dL_law_431 : decode cL_law 431 = .ok (.iload 5, 2) := by decide +kernel
theorem dL_law_433 : decode cL_law 433 = .ok (.iconst 1, 1) := by decide +kernel
theorem dL_law_434 : decode cL_law 434 = .ok (.iadd, 1) := by decide +kernel
theorem dL_law_435 : decode cL_law 435 = .ok (.iaload, 1) := by decide +kernel
theorem dL_law_436 : decode cL_law 436 = .ok (.invokevirtual 136, 3) := by decide +kernel
theorem dL_law_439 : decode cL_law 439 = .ok (.istore 7, 2) := by decide +kernel
theorem dL_law_441 : decode cL_law 441 = .ok (.aload_n 2, 1) := by decide +kernel
theorem dL_law_442 : decode cL_law 442 = .ok (.invokevirtual 121, 3) := by decide +kernel
theorem dL_law_445 : decode cL_law 445 = .ok (.iload 6, 2) := by decide +kernel
theorem dL_law_447 : decode cL_law 447 = .ok (.if_icmp .eq 5, 3) := by decide +kernel
theorem dL_law_450 : decode cL_law 450 = .ok (.iconst 0, 1) := by decide +kernel
theorem dL_law_451 : decode cL_law 451 = .ok (.ireturn, 1) := by decide +kernel
theorem dL_law_452 : decode cL_law 452 = .ok (.iload 6, 2) := by decide +kernel
theorem dL_law_454 : decode cL_law 454 = .ok (.ifCond .ne 15, 3) := by decide +kernel
theorem dL_law_457 : decode cL_law 457 = .ok (.aload_n 3, 1) := by decide +kernel
theorem dL_law_458 : decode cL_law 458 = .ok (.iconst 0, 1) := by decide +kernel
theorem dL_law_459 : decode cL_law 459 = .ok (.laload, 1) := by decide +kernel
theorem dL_law_460 : decode cL_law 460 = .ok (.iload 7, 2) := by decide +kernel
theorem dL_law_462 : decode cL_law 462 = .ok (.i2l, 1) := by decide +kernel
theorem dL_law_463 : decode cL_law 463 = .ok (.lcmp, 1) := by decide +kernel
theorem dL_law_464 : decode cL_law 464 = .ok (.ifCond .eq 5, 3) := by decide +kernel
theorem dL_law_467 : decode cL_law 467 = .ok (.iconst 0, 1) := by decide +kernel
theorem dL_law_468 : decode cL_law 468 = .ok (.ireturn, 1) := by decide +kernel
theorem dL_law_469 : decode cL_law 469 = .ok (.goto 1433, 3) := by decide +kernel
theorem dL_law_472 : decode cL_law 472 = .ok (.aload_n 1, 1) := by decide +kernel
theorem dL_law_473 : decode cL_law 473 = .ok (.aload_n 0, 1) := by decide +kernel
theorem dL_law_474 : decode cL_law 474 = .ok (.iload 5, 2) := by decide +kernel
theorem dL_law_476 : decode cL_law 476 = .ok (.iconst 1, 1) := by decide +kernel
theorem dL_law_477 : decode cL_law 477 = .ok (.iadd, 1) := by decide +kernel
theorem dL_law_478 : decode cL_law 478 = .ok (.iaload, 1) := by decide +kernel
theorem dL_law_479 : decode cL_law 479 = .ok (.aload_n 0, 1) := by decide +kernel
theorem dL_law_480 : decode cL_law 480 = .ok (.iload 5, 2) := by decide +kernel
theorem dL_law_482 : decode cL_law 482 = .ok (.iconst 2, 1) := by decide +kernel
theorem dL_law_483 : decode cL_law 483 = .ok (.iadd, 1) := by decide +kernel
theorem dL_law_484 : decode cL_law 484 = .ok (.iaload, 1) := by decide +kernel
theorem dL_law_485 : decode cL_law 485 = .ok (.aload_n 3, 1) := by decide +kernel
theorem dL_law_486 : decode cL_law 486 = .ok (.invokestatic 137, 3) := by decide +kernel
theorem dL_law_489 : decode cL_law 489 = .ok (.istore 6, 2) := by decide +kernel
theorem dL_law_491 : decode cL_law 491 = .ok (.aload_n 2, 1) := by decide +kernel
theorem dL_law_492 : decode cL_law 492 = .ok (.aload_n 0, 1) := by decide +kernel
theorem dL_law_493 : decode cL_law 493 = .ok (.iload 5, 2) := by decide +kernel
theorem dL_law_495 : decode cL_law 495 = .ok (.iconst 1, 1) := by decide +kernel
theorem dL_law_496 : decode cL_law 496 = .ok (.iadd, 1) := by decide +kernel
theorem dL_law_497 : decode cL_law 497 = .ok (.iaload, 1) := by decide +kernel
theorem dL_law_498 : decode cL_law 498 = .ok (.aload_n 0, 1) := by decide +kernel
theorem dL_law_499 : decode cL_law 499 = .ok (.iload 5, 2) := by decide +kernel
theorem dL_law_501 : decode cL_law 501 = .ok (.iconst 2, 1) := by decide +kernel
theorem dL_law_502 : decode cL_law 502 = .ok (.iadd, 1) := by decide +kernel
theorem dL_law_503 : decode cL_law 503 = .ok (.iaload, 1) := by decide +kernel
theorem dL_law_504 : decode cL_law 504 = .ok (.invokevirtual 140, 3) := by decide +kernel
theorem dL_law_507 : decode cL_law 507 = .ok (.istore 7, 2) := by decide +kernel
theorem dL_law_509 : decode cL_law 509 = .ok (.aload_n 2, 1) := by decide +kernel
theorem dL_law_510 : decode cL_law 510 = .ok (.invokevirtual 121, 3) := by decide +kernel
theorem dL_law_513 : decode cL_law 513 = .ok (.iload 6, 2) := by decide +kernel
theorem dL_law_515 : decode cL_law 515 = .ok (.if_icmp .eq 5, 3) := by decide +kernel
theorem dL_law_518 : decode cL_law 518 = .ok (.iconst 0, 1) := by decide +kernel
theorem dL_law_519 : decode cL_law 519 = .ok (.ireturn, 1) := by decide +kernel
theorem dL_law_520 : decode cL_law 520 = .ok (.iload 6, 2) := by decide +kernel
theorem dL_law_522 : decode cL_law 522 = .ok (.ifCond .ne 15, 3) := by decide +kernel
theorem dL_law_525 : decode cL_law 525 = .ok (.aload_n 3, 1) := by decide +kernel
theorem dL_law_526 : decode cL_law 526 = .ok (.iconst 0, 1) := by decide +kernel
theorem dL_law_527 : decode cL_law 527 = .ok (.laload, 1) := by decide +kernel
theorem dL_law_528 : decode cL_law 528 = .ok (.iload 7, 2) := by decide +kernel
theorem dL_law_530 : decode cL_law 530 = .ok (.i2l, 1) := by decide +kernel
theorem dL_law_531 : decode cL_law 531 = .ok (.lcmp, 1) := by decide +kernel
theorem dL_law_532 : decode cL_law 532 = .ok (.ifCond .eq 5, 3) := by decide +kernel
theorem dL_law_535 : decode cL_law 535 = .ok (.iconst 0, 1) := by decide +kernel
theorem dL_law_536 : decode cL_law 536 = .ok (.ireturn, 1) := by decide +kernel
theorem dL_law_537 : decode cL_law 537 = .ok (.goto 1365, 3) := by decide +kernel
theorem dL_law_540 : decode cL_law 540 = .ok (.aload_n 1, 1) := by decide +kernel
theorem dL_law_541 : decode cL_law 541 = .ok (.aload_n 0, 1) := by decide +kernel
theorem dL_law_542 : decode cL_law 542 = .ok (.iload 5, 2) := by decide +kernel
theorem dL_law_544 : decode cL_law 544 = .ok (.iconst 1, 1) := by decide +kernel
theorem dL_law_545 : decode cL_law 545 = .ok (.iadd, 1) := by decide +kernel
theorem dL_law_546 : decode cL_law 546 = .ok (.iaload, 1) := by decide +kernel
theorem dL_law_547 : decode cL_law 547 = .ok (.aload_n 0, 1) := by decide +kernel
theorem dL_law_548 : decode cL_law 548 = .ok (.iload 5, 2) := by decide +kernel
theorem dL_law_550 : decode cL_law 550 = .ok (.iconst 2, 1) := by decide +kernel
theorem dL_law_551 : decode cL_law 551 = .ok (.iadd, 1) := by decide +kernel
theorem dL_law_552 : decode cL_law 552 = .ok (.iaload, 1) := by decide +kernel
theorem dL_law_553 : decode cL_law 553 = .ok (.aload_n 0, 1) := by decide +kernel
theorem dL_law_554 : decode cL_law 554 = .ok (.iload 5, 2) := by decide +kernel
theorem dL_law_556 : decode cL_law 556 = .ok (.iconst 3, 1) := by decide +kernel
theorem dL_law_557 : decode cL_law 557 = .ok (.iadd, 1) := by decide +kernel
theorem dL_law_558 : decode cL_law 558 = .ok (.iaload, 1) := by decide +kernel
theorem dL_law_559 : decode cL_law 559 = .ok (.aload_n 3, 1) := by decide +kernel
theorem dL_law_560 : decode cL_law 560 = .ok (.invokestatic 141, 3) := by decide +kernel
theorem dL_law_563 : decode cL_law 563 = .ok (.istore 6, 2) := by decide +kernel
theorem dL_law_565 : decode cL_law 565 = .ok (.aload_n 2, 1) := by decide +kernel
theorem dL_law_566 : decode cL_law 566 = .ok (.aload_n 0, 1) := by decide +kernel
theorem dL_law_567 : decode cL_law 567 = .ok (.iload 5, 2) := by decide +kernel
theorem dL_law_569 : decode cL_law 569 = .ok (.iconst 1, 1) := by decide +kernel
theorem dL_law_570 : decode cL_law 570 = .ok (.iadd, 1) := by decide +kernel
theorem dL_law_571 : decode cL_law 571 = .ok (.iaload, 1) := by decide +kernel
theorem dL_law_572 : decode cL_law 572 = .ok (.aload_n 0, 1) := by decide +kernel
theorem dL_law_573 : decode cL_law 573 = .ok (.iload 5, 2) := by decide +kernel
theorem dL_law_575 : decode cL_law 575 = .ok (.iconst 2, 1) := by decide +kernel
theorem dL_law_576 : decode cL_law 576 = .ok (.iadd, 1) := by decide +kernel
theorem dL_law_577 : decode cL_law 577 = .ok (.iaload, 1) := by decide +kernel
theorem dL_law_578 : decode cL_law 578 = .ok (.aload_n 0, 1) := by decide +kernel
theorem dL_law_579 : decode cL_law 579 = .ok (.iload 5, 2) := by decide +kernel
theorem dL_law_581 : decode cL_law 581 = .ok (.iconst 3, 1) := by decide +kernel
theorem dL_law_582 : decode cL_law 582 = .ok (.iadd, 1) := by decide +kernel
theorem dL_law_583 : decode cL_law 583 = .ok (.iaload, 1) := by decide +kernel
theorem dL_law_584 : decode cL_law 584 = .ok (.invokevirtual 144, 3) := by decide +kernel
theorem dL_law_587 : decode cL_law 587 = .ok (.istore 7, 2) := by decide +kernel
theorem dL_law_589 : decode cL_law 589 = .ok (.aload_n 2, 1) := by decide +kernel
theorem dL_law_590 : decode cL_law 590 = .ok (.invokevirtual 121, 3) := by decide +kernel
theorem dL_law_593 : decode cL_law 593 = .ok (.iload 6, 2) := by decide +kernel
theorem dL_law_595 : decode cL_law 595 = .ok (.if_icmp .eq 5, 3) := by decide +kernel
theorem dL_law_598 : decode cL_law 598 = .ok (.iconst 0, 1) := by decide +kernel
theorem dL_law_599 : decode cL_law 599 = .ok (.ireturn, 1) := by decide +kernel
theorem dL_law_600 : decode cL_law 600 = .ok (.iload 6, 2) := by decide +kernel
theorem dL_law_602 : decode cL_law 602 = .ok (.ifCond .ne 15, 3) := by decide +kernel
theorem dL_law_605 : decode cL_law 605 = .ok (.aload_n 3, 1) := by decide +kernel
theorem dL_law_606 : decode cL_law 606 = .ok (.iconst 0, 1) := by decide +kernel
theorem dL_law_607 : decode cL_law 607 = .ok (.laload, 1) := by decide +kernel
theorem dL_law_608 : decode cL_law 608 = .ok (.iload 7, 2) := by decide +kernel
theorem dL_law_610 : decode cL_law 610 = .ok (.i2l, 1) := by decide +kernel
theorem dL_law_611 : decode cL_law 611 = .ok (.lcmp, 1) := by decide +kernel
theorem dL_law_612 : decode cL_law 612 = .ok (.ifCond .eq 5, 3) := by decide +kernel
theorem dL_law_615 : decode cL_law 615 = .ok (.iconst 0, 1) := by decide +kernel
theorem dL_law_616 : decode cL_law 616 = .ok (.ireturn, 1) := by decide +kernel
theorem dL_law_617 : decode cL_law 617 = .ok (.goto 1285, 3) := by decide +kernel
theorem dL_law_620 : decode cL_law 620 = .ok (.aload_n 1, 1) := by decide +kernel
theorem dL_law_621 : decode cL_law 621 = .ok (.aload_n 0, 1) := by decide +kernel
theorem dL_law_622 : decode cL_law 622 = .ok (.iload 5, 2) := by decide +kernel
theorem dL_law_624 : decode cL_law 624 = .ok (.iconst 1, 1) := by decide +kernel
theorem dL_law_625 : decode cL_law 625 = .ok (.iadd, 1) := by decide +kernel
theorem dL_law_626 : decode cL_law 626 = .ok (.iaload, 1) := by decide +kernel
theorem dL_law_627 : decode cL_law 627 = .ok (.aload_n 0, 1) := by decide +kernel
theorem dL_law_628 : decode cL_law 628 = .ok (.iload 5, 2) := by decide +kernel
theorem dL_law_630 : decode cL_law 630 = .ok (.iconst 2, 1) := by decide +kernel
theorem dL_law_631 : decode cL_law 631 = .ok (.iadd, 1) := by decide +kernel
theorem dL_law_632 : decode cL_law 632 = .ok (.iaload, 1) := by decide +kernel
theorem dL_law_633 : decode cL_law 633 = .ok (.aload_n 0, 1) := by decide +kernel
theorem dL_law_634 : decode cL_law 634 = .ok (.iload 5, 2) := by decide +kernel
theorem dL_law_636 : decode cL_law 636 = .ok (.iconst 3, 1) := by decide +kernel
theorem dL_law_637 : decode cL_law 637 = .ok (.iadd, 1) := by decide +kernel
theorem dL_law_638 : decode cL_law 638 = .ok (.iaload, 1) := by decide +kernel
theorem dL_law_639 : decode cL_law 639 = .ok (.aload_n 0, 1) := by decide +kernel
theorem dL_law_640 : decode cL_law 640 = .ok (.iload 5, 2) := by decide +kernel
theorem dL_law_642 : decode cL_law 642 = .ok (.iconst 4, 1) := by decide +kernel
theorem dL_law_643 : decode cL_law 643 = .ok (.iadd, 1) := by decide +kernel
theorem dL_law_644 : decode cL_law 644 = .ok (.iaload, 1) := by decide +kernel
theorem dL_law_645 : decode cL_law 645 = .ok (.aload_n 3, 1) := by decide +kernel
theorem dL_law_646 : decode cL_law 646 = .ok (.invokestatic 145, 3) := by decide +kernel
theorem dL_law_649 : decode cL_law 649 = .ok (.istore 6, 2) := by decide +kernel
theorem dL_law_651 : decode cL_law 651 = .ok (.aload_n 2, 1) := by decide +kernel
theorem dL_law_652 : decode cL_law 652 = .ok (.aload_n 0, 1) := by decide +kernel
theorem dL_law_653 : decode cL_law 653 = .ok (.iload 5, 2) := by decide +kernel
theorem dL_law_655 : decode cL_law 655 = .ok (.iconst 1, 1) := by decide +kernel
theorem dL_law_656 : decode cL_law 656 = .ok (.iadd, 1) := by decide +kernel
theorem dL_law_657 : decode cL_law 657 = .ok (.iaload, 1) := by decide +kernel
theorem dL_law_658 : decode cL_law 658 = .ok (.aload_n 0, 1) := by decide +kernel
theorem dL_law_659 : decode cL_law 659 = .ok (.iload 5, 2) := by decide +kernel
theorem dL_law_661 : decode cL_law 661 = .ok (.iconst 2, 1) := by decide +kernel
theorem dL_law_662 : decode cL_law 662 = .ok (.iadd, 1) := by decide +kernel
theorem dL_law_663 : decode cL_law 663 = .ok (.iaload, 1) := by decide +kernel
theorem dL_law_664 : decode cL_law 664 = .ok (.aload_n 0, 1) := by decide +kernel
theorem dL_law_665 : decode cL_law 665 = .ok (.iload 5, 2) := by decide +kernel
theorem dL_law_667 : decode cL_law 667 = .ok (.iconst 3, 1) := by decide +kernel
theorem dL_law_668 : decode cL_law 668 = .ok (.iadd, 1) := by decide +kernel
theorem dL_law_669 : decode cL_law 669 = .ok (.iaload, 1) := by decide +kernel
theorem dL_law_670 : decode cL_law 670 = .ok (.aload_n 0, 1) := by decide +kernel
theorem dL_law_671 : decode cL_law 671 = .ok (.iload 5, 2) := by decide +kernel
theorem dL_law_673 : decode cL_law 673 = .ok (.iconst 4, 1) := by decide +kernel
theorem dL_law_674 : decode cL_law 674 = .ok (.iadd, 1) := by decide +kernel
theorem dL_law_675 : decode cL_law 675 = .ok (.iaload, 1) := by decide +kernel
theorem dL_law_676 : decode cL_law 676 = .ok (.invokevirtual 148, 3) := by decide +kernel
theorem dL_law_679 : decode cL_law 679 = .ok (.istore 7, 2) := by decide +kernel
theorem dL_law_681 : decode cL_law 681 = .ok (.aload_n 2, 1) := by decide +kernel
theorem dL_law_682 : decode cL_law 682 = .ok (.invokevirtual 121, 3) := by decide +kernel
theorem dL_law_685 : decode cL_law 685 = .ok (.iload 6, 2) := by decide +kernel
theorem dL_law_687 : decode cL_law 687 = .ok (.if_icmp .eq 5, 3) := by decide +kernel
theorem dL_law_690 : decode cL_law 690 = .ok (.iconst 0, 1) := by decide +kernel
theorem dL_law_691 : decode cL_law 691 = .ok (.ireturn, 1) := by decide +kernel
theorem dL_law_692 : decode cL_law 692 = .ok (.iload 6, 2) := by decide +kernel
theorem dL_law_694 : decode cL_law 694 = .ok (.ifCond .ne 15, 3) := by decide +kernel
theorem dL_law_697 : decode cL_law 697 = .ok (.aload_n 3, 1) := by decide +kernel
theorem dL_law_698 : decode cL_law 698 = .ok (.iconst 0, 1) := by decide +kernel
theorem dL_law_699 : decode cL_law 699 = .ok (.laload, 1) := by decide +kernel
theorem dL_law_700 : decode cL_law 700 = .ok (.iload 7, 2) := by decide +kernel
theorem dL_law_702 : decode cL_law 702 = .ok (.i2l, 1) := by decide +kernel
theorem dL_law_703 : decode cL_law 703 = .ok (.lcmp, 1) := by decide +kernel
theorem dL_law_704 : decode cL_law 704 = .ok (.ifCond .eq 5, 3) := by decide +kernel
theorem dL_law_707 : decode cL_law 707 = .ok (.iconst 0, 1) := by decide +kernel
theorem dL_law_708 : decode cL_law 708 = .ok (.ireturn, 1) := by decide +kernel
theorem dL_law_709 : decode cL_law 709 = .ok (.goto 1193, 3) := by decide +kernel
theorem dL_law_712 : decode cL_law 712 = .ok (.aload_n 1, 1) := by decide +kernel
theorem dL_law_713 : decode cL_law 713 = .ok (.aload_n 0, 1) := by decide +kernel
theorem dL_law_714 : decode cL_law 714 = .ok (.iload 5, 2) := by decide +kernel
theorem dL_law_716 : decode cL_law 716 = .ok (.iconst 1, 1) := by decide +kernel
theorem dL_law_717 : decode cL_law 717 = .ok (.iadd, 1) := by decide +kernel
theorem dL_law_718 : decode cL_law 718 = .ok (.iaload, 1) := by decide +kernel
theorem dL_law_719 : decode cL_law 719 = .ok (.aload_n 3, 1) := by decide +kernel
theorem dL_law_720 : decode cL_law 720 = .ok (.invokestatic 149, 3) := by decide +kernel
theorem dL_law_723 : decode cL_law 723 = .ok (.istore 6, 2) := by decide +kernel
theorem dL_law_725 : decode cL_law 725 = .ok (.aload_n 2, 1) := by decide +kernel
theorem dL_law_726 : decode cL_law 726 = .ok (.aload_n 0, 1) := by decide +kernel
theorem dL_law_727 : decode cL_law 727 = .ok (.iload 5, 2) := by decide +kernel
theorem dL_law_729 : decode cL_law 729 = .ok (.iconst 1, 1) := by decide +kernel
theorem dL_law_730 : decode cL_law 730 = .ok (.iadd, 1) := by decide +kernel
theorem dL_law_731 : decode cL_law 731 = .ok (.iaload, 1) := by decide +kernel
theorem dL_law_732 : decode cL_law 732 = .ok (.invokevirtual 151, 3) := by decide +kernel
theorem dL_law_735 : decode cL_law 735 = .ok (.istore 7, 2) := by decide +kernel
theorem dL_law_737 : decode cL_law 737 = .ok (.aload_n 2, 1) := by decide +kernel
theorem dL_law_738 : decode cL_law 738 = .ok (.invokevirtual 121, 3) := by decide +kernel
theorem dL_law_741 : decode cL_law 741 = .ok (.iload 6, 2) := by decide +kernel
theorem dL_law_743 : decode cL_law 743 = .ok (.if_icmp .eq 5, 3) := by decide +kernel
theorem dL_law_746 : decode cL_law 746 = .ok (.iconst 0, 1) := by decide +kernel
theorem dL_law_747 : decode cL_law 747 = .ok (.ireturn, 1) := by decide +kernel
theorem dL_law_748 : decode cL_law 748 = .ok (.iload 6, 2) := by decide +kernel
theorem dL_law_750 : decode cL_law 750 = .ok (.ifCond .ne 15, 3) := by decide +kernel
theorem dL_law_753 : decode cL_law 753 = .ok (.aload_n 3, 1) := by decide +kernel
theorem dL_law_754 : decode cL_law 754 = .ok (.iconst 0, 1) := by decide +kernel
theorem dL_law_755 : decode cL_law 755 = .ok (.laload, 1) := by decide +kernel
theorem dL_law_756 : decode cL_law 756 = .ok (.iload 7, 2) := by decide +kernel
theorem dL_law_758 : decode cL_law 758 = .ok (.i2l, 1) := by decide +kernel
theorem dL_law_759 : decode cL_law 759 = .ok (.lcmp, 1) := by decide +kernel
theorem dL_law_760 : decode cL_law 760 = .ok (.ifCond .eq 5, 3) := by decide +kernel
theorem dL_law_763 : decode cL_law 763 = .ok (.iconst 0, 1) := by decide +kernel
theorem dL_law_764 : decode cL_law 764 = .ok (.ireturn, 1) := by decide +kernel
theorem dL_law_765 : decode cL_law 765 = .ok (.goto 1137, 3) := by decide +kernel
theorem dL_law_768 : decode cL_law 768 = .ok (.aload_n 1, 1) := by decide +kernel
theorem dL_law_769 : decode cL_law 769 = .ok (.aload_n 0, 1) := by decide +kernel
theorem dL_law_770 : decode cL_law 770 = .ok (.iload 5, 2) := by decide +kernel
theorem dL_law_772 : decode cL_law 772 = .ok (.iconst 1, 1) := by decide +kernel
theorem dL_law_773 : decode cL_law 773 = .ok (.iadd, 1) := by decide +kernel
theorem dL_law_774 : decode cL_law 774 = .ok (.iaload, 1) := by decide +kernel
theorem dL_law_775 : decode cL_law 775 = .ok (.aload_n 3, 1) := by decide +kernel
theorem dL_law_776 : decode cL_law 776 = .ok (.invokestatic 152, 3) := by decide +kernel
theorem dL_law_779 : decode cL_law 779 = .ok (.istore 6, 2) := by decide +kernel
theorem dL_law_781 : decode cL_law 781 = .ok (.aload_n 2, 1) := by decide +kernel
theorem dL_law_782 : decode cL_law 782 = .ok (.aload_n 0, 1) := by decide +kernel
theorem dL_law_783 : decode cL_law 783 = .ok (.iload 5, 2) := by decide +kernel
theorem dL_law_785 : decode cL_law 785 = .ok (.iconst 1, 1) := by decide +kernel
theorem dL_law_786 : decode cL_law 786 = .ok (.iadd, 1) := by decide +kernel
theorem dL_law_787 : decode cL_law 787 = .ok (.iaload, 1) := by decide +kernel
theorem dL_law_788 : decode cL_law 788 = .ok (.invokevirtual 154, 3) := by decide +kernel
theorem dL_law_791 : decode cL_law 791 = .ok (.istore 7, 2) := by decide +kernel
theorem dL_law_793 : decode cL_law 793 = .ok (.aload_n 2, 1) := by decide +kernel
theorem dL_law_794 : decode cL_law 794 = .ok (.invokevirtual 121, 3) := by decide +kernel
theorem dL_law_797 : decode cL_law 797 = .ok (.iload 6, 2) := by decide +kernel
theorem dL_law_799 : decode cL_law 799 = .ok (.if_icmp .eq 5, 3) := by decide +kernel
theorem dL_law_802 : decode cL_law 802 = .ok (.iconst 0, 1) := by decide +kernel
theorem dL_law_803 : decode cL_law 803 = .ok (.ireturn, 1) := by decide +kernel
theorem dL_law_804 : decode cL_law 804 = .ok (.iload 6, 2) := by decide +kernel
theorem dL_law_806 : decode cL_law 806 = .ok (.ifCond .ne 15, 3) := by decide +kernel
theorem dL_law_809 : decode cL_law 809 = .ok (.aload_n 3, 1) := by decide +kernel
theorem dL_law_810 : decode cL_law 810 = .ok (.iconst 0, 1) := by decide +kernel
theorem dL_law_811 : decode cL_law 811 = .ok (.laload, 1) := by decide +kernel
theorem dL_law_812 : decode cL_law 812 = .ok (.iload 7, 2) := by decide +kernel
theorem dL_law_814 : decode cL_law 814 = .ok (.i2l, 1) := by decide +kernel
theorem dL_law_815 : decode cL_law 815 = .ok (.lcmp, 1) := by decide +kernel
theorem dL_law_816 : decode cL_law 816 = .ok (.ifCond .eq 5, 3) := by decide +kernel
theorem dL_law_819 : decode cL_law 819 = .ok (.iconst 0, 1) := by decide +kernel
theorem dL_law_820 : decode cL_law 820 = .ok (.ireturn, 1) := by decide +kernel
theorem dL_law_821 : decode cL_law 821 = .ok (.goto 1081, 3) := by decide +kernel
theorem dL_law_824 : decode cL_law 824 = .ok (.aload_n 1, 1) := by decide +kernel
theorem dL_law_825 : decode cL_law 825 = .ok (.aload_n 0, 1) := by decide +kernel
theorem dL_law_826 : decode cL_law 826 = .ok (.iload 5, 2) := by decide +kernel
theorem dL_law_828 : decode cL_law 828 = .ok (.iconst 1, 1) := by decide +kernel
theorem dL_law_829 : decode cL_law 829 = .ok (.iadd, 1) := by decide +kernel
theorem dL_law_830 : decode cL_law 830 = .ok (.iaload, 1) := by decide +kernel
theorem dL_law_831 : decode cL_law 831 = .ok (.aload_n 3, 1) := by decide +kernel
theorem dL_law_832 : decode cL_law 832 = .ok (.invokestatic 155, 3) := by decide +kernel
theorem dL_law_835 : decode cL_law 835 = .ok (.istore 6, 2) := by decide +kernel
theorem dL_law_837 : decode cL_law 837 = .ok (.aload_n 2, 1) := by decide +kernel
theorem dL_law_838 : decode cL_law 838 = .ok (.aload_n 0, 1) := by decide +kernel
theorem dL_law_839 : decode cL_law 839 = .ok (.iload 5, 2) := by decide +kernel
theorem dL_law_841 : decode cL_law 841 = .ok (.iconst 1, 1) := by decide +kernel
theorem dL_law_842 : decode cL_law 842 = .ok (.iadd, 1) := by decide +kernel
theorem dL_law_843 : decode cL_law 843 = .ok (.iaload, 1) := by decide +kernel
theorem dL_law_844 : decode cL_law 844 = .ok (.invokevirtual 157, 3) := by decide +kernel
theorem dL_law_847 : decode cL_law 847 = .ok (.istore 7, 2) := by decide +kernel
theorem dL_law_849 : decode cL_law 849 = .ok (.aload_n 2, 1) := by decide +kernel
theorem dL_law_850 : decode cL_law 850 = .ok (.invokevirtual 121, 3) := by decide +kernel
theorem dL_law_853 : decode cL_law 853 = .ok (.iload 6, 2) := by decide +kernel
theorem dL_law_855 : decode cL_law 855 = .ok (.if_icmp .eq 5, 3) := by decide +kernel
theorem dL_law_858 : decode cL_law 858 = .ok (.iconst 0, 1) := by decide +kernel
theorem dL_law_859 : decode cL_law 859 = .ok (.ireturn, 1) := by decide +kernel
theorem dL_law_860 : decode cL_law 860 = .ok (.iload 6, 2) := by decide +kernel
theorem dL_law_862 : decode cL_law 862 = .ok (.ifCond .ne 15, 3) := by decide +kernel
theorem dL_law_865 : decode cL_law 865 = .ok (.aload_n 3, 1) := by decide +kernel
theorem dL_law_866 : decode cL_law 866 = .ok (.iconst 0, 1) := by decide +kernel
theorem dL_law_867 : decode cL_law 867 = .ok (.laload, 1) := by decide +kernel
theorem dL_law_868 : decode cL_law 868 = .ok (.iload 7, 2) := by decide +kernel
theorem dL_law_870 : decode cL_law 870 = .ok (.i2l, 1) := by decide +kernel
theorem dL_law_871 : decode cL_law 871 = .ok (.lcmp, 1) := by decide +kernel
theorem dL_law_872 : decode cL_law 872 = .ok (.ifCond .eq 5, 3) := by decide +kernel
theorem dL_law_875 : decode cL_law 875 = .ok (.iconst 0, 1) := by decide +kernel
theorem dL_law_876 : decode cL_law 876 = .ok (.ireturn, 1) := by decide +kernel
theorem dL_law_877 : decode cL_law 877 = .ok (.goto 1025, 3) := by decide +kernel
theorem dL_law_880 : decode cL_law 880 = .ok (.aload_n 1, 1) := by decide +kernel
theorem dL_law_881 : decode cL_law 881 = .ok (.aload_n 0, 1) := by decide +kernel
theorem dL_law_882 : decode cL_law 882 = .ok (.iload 5, 2) := by decide +kernel
theorem dL_law_884 : decode cL_law 884 = .ok (.iconst 1, 1) := by decide +kernel
theorem dL_law_885 : decode cL_law 885 = .ok (.iadd, 1) := by decide +kernel
theorem dL_law_886 : decode cL_law 886 = .ok (.iaload, 1) := by decide +kernel
theorem dL_law_887 : decode cL_law 887 = .ok (.aload_n 3, 1) := by decide +kernel
theorem dL_law_888 : decode cL_law 888 = .ok (.invokestatic 158, 3) := by decide +kernel
theorem dL_law_891 : decode cL_law 891 = .ok (.istore 6, 2) := by decide +kernel
theorem dL_law_893 : decode cL_law 893 = .ok (.aload_n 2, 1) := by decide +kernel
theorem dL_law_894 : decode cL_law 894 = .ok (.aload_n 0, 1) := by decide +kernel
theorem dL_law_895 : decode cL_law 895 = .ok (.iload 5, 2) := by decide +kernel
theorem dL_law_897 : decode cL_law 897 = .ok (.iconst 1, 1) := by decide +kernel
theorem dL_law_898 : decode cL_law 898 = .ok (.iadd, 1) := by decide +kernel
theorem dL_law_899 : decode cL_law 899 = .ok (.iaload, 1) := by decide +kernel
theorem dL_law_900 : decode cL_law 900 = .ok (.invokevirtual 160, 3) := by decide +kernel
theorem dL_law_903 : decode cL_law 903 = .ok (.lstore 7, 2) := by decide +kernel
theorem dL_law_905 : decode cL_law 905 = .ok (.aload_n 2, 1) := by decide +kernel
theorem dL_law_906 : decode cL_law 906 = .ok (.invokevirtual 121, 3) := by decide +kernel
theorem dL_law_909 : decode cL_law 909 = .ok (.iload 6, 2) := by decide +kernel
theorem dL_law_911 : decode cL_law 911 = .ok (.if_icmp .eq 5, 3) := by decide +kernel
theorem dL_law_914 : decode cL_law 914 = .ok (.iconst 0, 1) := by decide +kernel
theorem dL_law_915 : decode cL_law 915 = .ok (.ireturn, 1) := by decide +kernel
theorem dL_law_916 : decode cL_law 916 = .ok (.iload 6, 2) := by decide +kernel
theorem dL_law_918 : decode cL_law 918 = .ok (.ifCond .ne 14, 3) := by decide +kernel
theorem dL_law_921 : decode cL_law 921 = .ok (.aload_n 3, 1) := by decide +kernel
theorem dL_law_922 : decode cL_law 922 = .ok (.iconst 0, 1) := by decide +kernel
theorem dL_law_923 : decode cL_law 923 = .ok (.laload, 1) := by decide +kernel
theorem dL_law_924 : decode cL_law 924 = .ok (.lload 7, 2) := by decide +kernel
theorem dL_law_926 : decode cL_law 926 = .ok (.lcmp, 1) := by decide +kernel
theorem dL_law_927 : decode cL_law 927 = .ok (.ifCond .eq 5, 3) := by decide +kernel
theorem dL_law_930 : decode cL_law 930 = .ok (.iconst 0, 1) := by decide +kernel
theorem dL_law_931 : decode cL_law 931 = .ok (.ireturn, 1) := by decide +kernel
theorem dL_law_932 : decode cL_law 932 = .ok (.goto 970, 3) := by decide +kernel
theorem dL_law_935 : decode cL_law 935 = .ok (.aload_n 1, 1) := by decide +kernel
theorem dL_law_936 : decode cL_law 936 = .ok (.aload_n 0, 1) := by decide +kernel
theorem dL_law_937 : decode cL_law 937 = .ok (.iload 5, 2) := by decide +kernel
theorem dL_law_939 : decode cL_law 939 = .ok (.iconst 1, 1) := by decide +kernel
theorem dL_law_940 : decode cL_law 940 = .ok (.iadd, 1) := by decide +kernel
theorem dL_law_941 : decode cL_law 941 = .ok (.iaload, 1) := by decide +kernel
theorem dL_law_942 : decode cL_law 942 = .ok (.aload_n 3, 1) := by decide +kernel
theorem dL_law_943 : decode cL_law 943 = .ok (.invokestatic 161, 3) := by decide +kernel
theorem dL_law_946 : decode cL_law 946 = .ok (.istore 6, 2) := by decide +kernel
theorem dL_law_948 : decode cL_law 948 = .ok (.aload_n 2, 1) := by decide +kernel
theorem dL_law_949 : decode cL_law 949 = .ok (.aload_n 0, 1) := by decide +kernel
theorem dL_law_950 : decode cL_law 950 = .ok (.iload 5, 2) := by decide +kernel
theorem dL_law_952 : decode cL_law 952 = .ok (.iconst 1, 1) := by decide +kernel
theorem dL_law_953 : decode cL_law 953 = .ok (.iadd, 1) := by decide +kernel
theorem dL_law_954 : decode cL_law 954 = .ok (.iaload, 1) := by decide +kernel
theorem dL_law_955 : decode cL_law 955 = .ok (.invokevirtual 163, 3) := by decide +kernel
theorem dL_law_958 : decode cL_law 958 = .ok (.lstore 7, 2) := by decide +kernel
theorem dL_law_960 : decode cL_law 960 = .ok (.aload_n 2, 1) := by decide +kernel
theorem dL_law_961 : decode cL_law 961 = .ok (.invokevirtual 121, 3) := by decide +kernel
theorem dL_law_964 : decode cL_law 964 = .ok (.iload 6, 2) := by decide +kernel
theorem dL_law_966 : decode cL_law 966 = .ok (.if_icmp .eq 5, 3) := by decide +kernel
theorem dL_law_969 : decode cL_law 969 = .ok (.iconst 0, 1) := by decide +kernel
theorem dL_law_970 : decode cL_law 970 = .ok (.ireturn, 1) := by decide +kernel
theorem dL_law_971 : decode cL_law 971 = .ok (.iload 6, 2) := by decide +kernel
theorem dL_law_973 : decode cL_law 973 = .ok (.ifCond .ne 14, 3) := by decide +kernel
theorem dL_law_976 : decode cL_law 976 = .ok (.aload_n 3, 1) := by decide +kernel
theorem dL_law_977 : decode cL_law 977 = .ok (.iconst 0, 1) := by decide +kernel
theorem dL_law_978 : decode cL_law 978 = .ok (.laload, 1) := by decide +kernel
theorem dL_law_979 : decode cL_law 979 = .ok (.lload 7, 2) := by decide +kernel
theorem dL_law_981 : decode cL_law 981 = .ok (.lcmp, 1) := by decide +kernel
theorem dL_law_982 : decode cL_law 982 = .ok (.ifCond .eq 5, 3) := by decide +kernel
theorem dL_law_985 : decode cL_law 985 = .ok (.iconst 0, 1) := by decide +kernel
theorem dL_law_986 : decode cL_law 986 = .ok (.ireturn, 1) := by decide +kernel
theorem dL_law_987 : decode cL_law 987 = .ok (.goto 915, 3) := by decide +kernel
theorem dL_law_990 : decode cL_law 990 = .ok (.aload_n 1, 1) := by decide +kernel
theorem dL_law_991 : decode cL_law 991 = .ok (.aload_n 0, 1) := by decide +kernel
theorem dL_law_992 : decode cL_law 992 = .ok (.iload 5, 2) := by decide +kernel
theorem dL_law_994 : decode cL_law 994 = .ok (.iconst 1, 1) := by decide +kernel
theorem dL_law_995 : decode cL_law 995 = .ok (.iadd, 1) := by decide +kernel
theorem dL_law_996 : decode cL_law 996 = .ok (.iaload, 1) := by decide +kernel
theorem dL_law_997 : decode cL_law 997 = .ok (.aload_n 3, 1) := by decide +kernel
theorem dL_law_998 : decode cL_law 998 = .ok (.invokestatic 164, 3) := by decide +kernel
theorem dL_law_1001 : decode cL_law 1001 = .ok (.istore 6, 2) := by decide +kernel
theorem dL_law_1003 : decode cL_law 1003 = .ok (.aload_n 2, 1) := by decide +kernel
theorem dL_law_1004 : decode cL_law 1004 = .ok (.aload_n 0, 1) := by decide +kernel
theorem dL_law_1005 : decode cL_law 1005 = .ok (.iload 5, 2) := by decide +kernel
theorem dL_law_1007 : decode cL_law 1007 = .ok (.iconst 1, 1) := by decide +kernel
theorem dL_law_1008 : decode cL_law 1008 = .ok (.iadd, 1) := by decide +kernel
theorem dL_law_1009 : decode cL_law 1009 = .ok (.iaload, 1) := by decide +kernel
theorem dL_law_1010 : decode cL_law 1010 = .ok (.invokevirtual 166, 3) := by decide +kernel
theorem dL_law_1013 : decode cL_law 1013 = .ok (.istore 7, 2) := by decide +kernel
theorem dL_law_1015 : decode cL_law 1015 = .ok (.aload_n 2, 1) := by decide +kernel
theorem dL_law_1016 : decode cL_law 1016 = .ok (.invokevirtual 121, 3) := by decide +kernel
theorem dL_law_1019 : decode cL_law 1019 = .ok (.iload 6, 2) := by decide +kernel
theorem dL_law_1021 : decode cL_law 1021 = .ok (.if_icmp .eq 5, 3) := by decide +kernel
theorem dL_law_1024 : decode cL_law 1024 = .ok (.iconst 0, 1) := by decide +kernel
theorem dL_law_1025 : decode cL_law 1025 = .ok (.ireturn, 1) := by decide +kernel
theorem dL_law_1026 : decode cL_law 1026 = .ok (.iload 6, 2) := by decide +kernel
theorem dL_law_1028 : decode cL_law 1028 = .ok (.ifCond .ne 15, 3) := by decide +kernel
theorem dL_law_1031 : decode cL_law 1031 = .ok (.aload_n 3, 1) := by decide +kernel
theorem dL_law_1032 : decode cL_law 1032 = .ok (.iconst 0, 1) := by decide +kernel
theorem dL_law_1033 : decode cL_law 1033 = .ok (.laload, 1) := by decide +kernel
theorem dL_law_1034 : decode cL_law 1034 = .ok (.iload 7, 2) := by decide +kernel
theorem dL_law_1036 : decode cL_law 1036 = .ok (.i2l, 1) := by decide +kernel
theorem dL_law_1037 : decode cL_law 1037 = .ok (.lcmp, 1) := by decide +kernel
theorem dL_law_1038 : decode cL_law 1038 = .ok (.ifCond .eq 5, 3) := by decide +kernel
theorem dL_law_1041 : decode cL_law 1041 = .ok (.iconst 0, 1) := by decide +kernel
theorem dL_law_1042 : decode cL_law 1042 = .ok (.ireturn, 1) := by decide +kernel
theorem dL_law_1043 : decode cL_law 1043 = .ok (.goto 859, 3) := by decide +kernel
theorem dL_law_1046 : decode cL_law 1046 = .ok (.aload_n 1, 1) := by decide +kernel
theorem dL_law_1047 : decode cL_law 1047 = .ok (.aload_n 0, 1) := by decide +kernel
theorem dL_law_1048 : decode cL_law 1048 = .ok (.iload 5, 2) := by decide +kernel
theorem dL_law_1050 : decode cL_law 1050 = .ok (.iconst 1, 1) := by decide +kernel
theorem dL_law_1051 : decode cL_law 1051 = .ok (.iadd, 1) := by decide +kernel
theorem dL_law_1052 : decode cL_law 1052 = .ok (.iaload, 1) := by decide +kernel
theorem dL_law_1053 : decode cL_law 1053 = .ok (.aload_n 3, 1) := by decide +kernel
theorem dL_law_1054 : decode cL_law 1054 = .ok (.invokestatic 167, 3) := by decide +kernel
theorem dL_law_1057 : decode cL_law 1057 = .ok (.istore 6, 2) := by decide +kernel
theorem dL_law_1059 : decode cL_law 1059 = .ok (.aload_n 2, 1) := by decide +kernel
theorem dL_law_1060 : decode cL_law 1060 = .ok (.aload_n 0, 1) := by decide +kernel
theorem dL_law_1061 : decode cL_law 1061 = .ok (.iload 5, 2) := by decide +kernel
theorem dL_law_1063 : decode cL_law 1063 = .ok (.iconst 1, 1) := by decide +kernel
theorem dL_law_1064 : decode cL_law 1064 = .ok (.iadd, 1) := by decide +kernel
theorem dL_law_1065 : decode cL_law 1065 = .ok (.iaload, 1) := by decide +kernel
theorem dL_law_1066 : decode cL_law 1066 = .ok (.invokevirtual 169, 3) := by decide +kernel
theorem dL_law_1069 : decode cL_law 1069 = .ok (.istore 7, 2) := by decide +kernel
theorem dL_law_1071 : decode cL_law 1071 = .ok (.aload_n 2, 1) := by decide +kernel
theorem dL_law_1072 : decode cL_law 1072 = .ok (.invokevirtual 121, 3) := by decide +kernel
theorem dL_law_1075 : decode cL_law 1075 = .ok (.iload 6, 2) := by decide +kernel
theorem dL_law_1077 : decode cL_law 1077 = .ok (.if_icmp .eq 5, 3) := by decide +kernel
theorem dL_law_1080 : decode cL_law 1080 = .ok (.iconst 0, 1) := by decide +kernel
theorem dL_law_1081 : decode cL_law 1081 = .ok (.ireturn, 1) := by decide +kernel
theorem dL_law_1082 : decode cL_law 1082 = .ok (.iload 6, 2) := by decide +kernel
theorem dL_law_1084 : decode cL_law 1084 = .ok (.ifCond .ne 15, 3) := by decide +kernel
theorem dL_law_1087 : decode cL_law 1087 = .ok (.aload_n 3, 1) := by decide +kernel
theorem dL_law_1088 : decode cL_law 1088 = .ok (.iconst 0, 1) := by decide +kernel
theorem dL_law_1089 : decode cL_law 1089 = .ok (.laload, 1) := by decide +kernel
theorem dL_law_1090 : decode cL_law 1090 = .ok (.iload 7, 2) := by decide +kernel
theorem dL_law_1092 : decode cL_law 1092 = .ok (.i2l, 1) := by decide +kernel
theorem dL_law_1093 : decode cL_law 1093 = .ok (.lcmp, 1) := by decide +kernel
theorem dL_law_1094 : decode cL_law 1094 = .ok (.ifCond .eq 5, 3) := by decide +kernel
theorem dL_law_1097 : decode cL_law 1097 = .ok (.iconst 0, 1) := by decide +kernel
theorem dL_law_1098 : decode cL_law 1098 = .ok (.ireturn, 1) := by decide +kernel
theorem dL_law_1099 : decode cL_law 1099 = .ok (.goto 803, 3) := by decide +kernel
theorem dL_law_1102 : decode cL_law 1102 = .ok (.aload_n 1, 1) := by decide +kernel
theorem dL_law_1103 : decode cL_law 1103 = .ok (.invokevirtual 170, 3) := by decide +kernel
theorem dL_law_1106 : decode cL_law 1106 = .ok (.aload_n 2, 1) := by decide +kernel
theorem dL_law_1107 : decode cL_law 1107 = .ok (.invokevirtual 173, 3) := by decide +kernel
theorem dL_law_1110 : decode cL_law 1110 = .ok (.if_icmp .eq 792, 3) := by decide +kernel
theorem dL_law_1113 : decode cL_law 1113 = .ok (.iconst 0, 1) := by decide +kernel
theorem dL_law_1114 : decode cL_law 1114 = .ok (.ireturn, 1) := by decide +kernel
theorem dL_law_1115 : decode cL_law 1115 = .ok (.aload_n 1, 1) := by decide +kernel
theorem dL_law_1116 : decode cL_law 1116 = .ok (.invokevirtual 174, 3) := by decide +kernel
theorem dL_law_1119 : decode cL_law 1119 = .ok (.aload_n 2, 1) := by decide +kernel
theorem dL_law_1120 : decode cL_law 1120 = .ok (.invokevirtual 177, 3) := by decide +kernel
theorem dL_law_1123 : decode cL_law 1123 = .ok (.if_icmp .eq 779, 3) := by decide +kernel
theorem dL_law_1126 : decode cL_law 1126 = .ok (.iconst 0, 1) := by decide +kernel
theorem dL_law_1127 : decode cL_law 1127 = .ok (.ireturn, 1) := by decide +kernel
theorem dL_law_1128 : decode cL_law 1128 = .ok (.aload_n 1, 1) := by decide +kernel
theorem dL_law_1129 : decode cL_law 1129 = .ok (.aload_n 0, 1) := by decide +kernel
theorem dL_law_1130 : decode cL_law 1130 = .ok (.iload 5, 2) := by decide +kernel
theorem dL_law_1132 : decode cL_law 1132 = .ok (.iconst 1, 1) := by decide +kernel
theorem dL_law_1133 : decode cL_law 1133 = .ok (.iadd, 1) := by decide +kernel
theorem dL_law_1134 : decode cL_law 1134 = .ok (.iaload, 1) := by decide +kernel
theorem dL_law_1135 : decode cL_law 1135 = .ok (.aload_n 3, 1) := by decide +kernel
theorem dL_law_1136 : decode cL_law 1136 = .ok (.invokestatic 178, 3) := by decide +kernel
theorem dL_law_1139 : decode cL_law 1139 = .ok (.istore 6, 2) := by decide +kernel
theorem dL_law_1141 : decode cL_law 1141 = .ok (.aload_n 2, 1) := by decide +kernel
theorem dL_law_1142 : decode cL_law 1142 = .ok (.aload_n 0, 1) := by decide +kernel
theorem dL_law_1143 : decode cL_law 1143 = .ok (.iload 5, 2) := by decide +kernel
theorem dL_law_1145 : decode cL_law 1145 = .ok (.iconst 1, 1) := by decide +kernel
theorem dL_law_1146 : decode cL_law 1146 = .ok (.iadd, 1) := by decide +kernel
theorem dL_law_1147 : decode cL_law 1147 = .ok (.iaload, 1) := by decide +kernel
theorem dL_law_1148 : decode cL_law 1148 = .ok (.invokevirtual 180, 3) := by decide +kernel
theorem dL_law_1151 : decode cL_law 1151 = .ok (.istore 7, 2) := by decide +kernel
theorem dL_law_1153 : decode cL_law 1153 = .ok (.aload_n 2, 1) := by decide +kernel
theorem dL_law_1154 : decode cL_law 1154 = .ok (.invokevirtual 121, 3) := by decide +kernel
theorem dL_law_1157 : decode cL_law 1157 = .ok (.iload 6, 2) := by decide +kernel
theorem dL_law_1159 : decode cL_law 1159 = .ok (.if_icmp .eq 5, 3) := by decide +kernel
theorem dL_law_1162 : decode cL_law 1162 = .ok (.iconst 0, 1) := by decide +kernel
theorem dL_law_1163 : decode cL_law 1163 = .ok (.ireturn, 1) := by decide +kernel
theorem dL_law_1164 : decode cL_law 1164 = .ok (.iload 6, 2) := by decide +kernel
theorem dL_law_1166 : decode cL_law 1166 = .ok (.ifCond .ne 15, 3) := by decide +kernel
theorem dL_law_1169 : decode cL_law 1169 = .ok (.aload_n 3, 1) := by decide +kernel
theorem dL_law_1170 : decode cL_law 1170 = .ok (.iconst 0, 1) := by decide +kernel
theorem dL_law_1171 : decode cL_law 1171 = .ok (.laload, 1) := by decide +kernel
theorem dL_law_1172 : decode cL_law 1172 = .ok (.iload 7, 2) := by decide +kernel
theorem dL_law_1174 : decode cL_law 1174 = .ok (.i2l, 1) := by decide +kernel
theorem dL_law_1175 : decode cL_law 1175 = .ok (.lcmp, 1) := by decide +kernel
theorem dL_law_1176 : decode cL_law 1176 = .ok (.ifCond .eq 5, 3) := by decide +kernel
theorem dL_law_1179 : decode cL_law 1179 = .ok (.iconst 0, 1) := by decide +kernel
theorem dL_law_1180 : decode cL_law 1180 = .ok (.ireturn, 1) := by decide +kernel
theorem dL_law_1181 : decode cL_law 1181 = .ok (.goto 721, 3) := by decide +kernel
theorem dL_law_1184 : decode cL_law 1184 = .ok (.aload_n 1, 1) := by decide +kernel
theorem dL_law_1185 : decode cL_law 1185 = .ok (.aload_n 0, 1) := by decide +kernel
theorem dL_law_1186 : decode cL_law 1186 = .ok (.iload 5, 2) := by decide +kernel
theorem dL_law_1188 : decode cL_law 1188 = .ok (.iconst 1, 1) := by decide +kernel
theorem dL_law_1189 : decode cL_law 1189 = .ok (.iadd, 1) := by decide +kernel
theorem dL_law_1190 : decode cL_law 1190 = .ok (.iaload, 1) := by decide +kernel
theorem dL_law_1191 : decode cL_law 1191 = .ok (.aload_n 3, 1) := by decide +kernel
theorem dL_law_1192 : decode cL_law 1192 = .ok (.invokestatic 181, 3) := by decide +kernel
theorem dL_law_1195 : decode cL_law 1195 = .ok (.istore 6, 2) := by decide +kernel
theorem dL_law_1197 : decode cL_law 1197 = .ok (.aload_n 2, 1) := by decide +kernel
theorem dL_law_1198 : decode cL_law 1198 = .ok (.aload_n 0, 1) := by decide +kernel
theorem dL_law_1199 : decode cL_law 1199 = .ok (.iload 5, 2) := by decide +kernel
theorem dL_law_1201 : decode cL_law 1201 = .ok (.iconst 1, 1) := by decide +kernel
theorem dL_law_1202 : decode cL_law 1202 = .ok (.iadd, 1) := by decide +kernel
theorem dL_law_1203 : decode cL_law 1203 = .ok (.iaload, 1) := by decide +kernel
theorem dL_law_1204 : decode cL_law 1204 = .ok (.invokevirtual 183, 3) := by decide +kernel
theorem dL_law_1207 : decode cL_law 1207 = .ok (.istore 7, 2) := by decide +kernel
theorem dL_law_1209 : decode cL_law 1209 = .ok (.aload_n 2, 1) := by decide +kernel
theorem dL_law_1210 : decode cL_law 1210 = .ok (.invokevirtual 121, 3) := by decide +kernel
theorem dL_law_1213 : decode cL_law 1213 = .ok (.iload 6, 2) := by decide +kernel
theorem dL_law_1215 : decode cL_law 1215 = .ok (.if_icmp .eq 5, 3) := by decide +kernel
theorem dL_law_1218 : decode cL_law 1218 = .ok (.iconst 0, 1) := by decide +kernel
theorem dL_law_1219 : decode cL_law 1219 = .ok (.ireturn, 1) := by decide +kernel
theorem dL_law_1220 : decode cL_law 1220 = .ok (.iload 6, 2) := by decide +kernel
theorem dL_law_1222 : decode cL_law 1222 = .ok (.ifCond .ne 15, 3) := by decide +kernel
theorem dL_law_1225 : decode cL_law 1225 = .ok (.aload_n 3, 1) := by decide +kernel
theorem dL_law_1226 : decode cL_law 1226 = .ok (.iconst 0, 1) := by decide +kernel
theorem dL_law_1227 : decode cL_law 1227 = .ok (.laload, 1) := by decide +kernel
theorem dL_law_1228 : decode cL_law 1228 = .ok (.iload 7, 2) := by decide +kernel
theorem dL_law_1230 : decode cL_law 1230 = .ok (.i2l, 1) := by decide +kernel
theorem dL_law_1231 : decode cL_law 1231 = .ok (.lcmp, 1) := by decide +kernel
theorem dL_law_1232 : decode cL_law 1232 = .ok (.ifCond .eq 5, 3) := by decide +kernel
theorem dL_law_1235 : decode cL_law 1235 = .ok (.iconst 0, 1) := by decide +kernel
theorem dL_law_1236 : decode cL_law 1236 = .ok (.ireturn, 1) := by decide +kernel
theorem dL_law_1237 : decode cL_law 1237 = .ok (.goto 665, 3) := by decide +kernel
theorem dL_law_1240 : decode cL_law 1240 = .ok (.aload_n 1, 1) := by decide +kernel
theorem dL_law_1241 : decode cL_law 1241 = .ok (.aload_n 0, 1) := by decide +kernel
theorem dL_law_1242 : decode cL_law 1242 = .ok (.iload 5, 2) := by decide +kernel
theorem dL_law_1244 : decode cL_law 1244 = .ok (.iconst 1, 1) := by decide +kernel
theorem dL_law_1245 : decode cL_law 1245 = .ok (.iadd, 1) := by decide +kernel
theorem dL_law_1246 : decode cL_law 1246 = .ok (.iaload, 1) := by decide +kernel
theorem dL_law_1247 : decode cL_law 1247 = .ok (.aload_n 3, 1) := by decide +kernel
theorem dL_law_1248 : decode cL_law 1248 = .ok (.invokestatic 184, 3) := by decide +kernel
theorem dL_law_1251 : decode cL_law 1251 = .ok (.istore 6, 2) := by decide +kernel
theorem dL_law_1253 : decode cL_law 1253 = .ok (.aload_n 2, 1) := by decide +kernel
theorem dL_law_1254 : decode cL_law 1254 = .ok (.aload_n 0, 1) := by decide +kernel
theorem dL_law_1255 : decode cL_law 1255 = .ok (.iload 5, 2) := by decide +kernel
theorem dL_law_1257 : decode cL_law 1257 = .ok (.iconst 1, 1) := by decide +kernel
theorem dL_law_1258 : decode cL_law 1258 = .ok (.iadd, 1) := by decide +kernel
theorem dL_law_1259 : decode cL_law 1259 = .ok (.iaload, 1) := by decide +kernel
theorem dL_law_1260 : decode cL_law 1260 = .ok (.invokevirtual 186, 3) := by decide +kernel
theorem dL_law_1263 : decode cL_law 1263 = .ok (.istore 7, 2) := by decide +kernel
theorem dL_law_1265 : decode cL_law 1265 = .ok (.aload_n 2, 1) := by decide +kernel
theorem dL_law_1266 : decode cL_law 1266 = .ok (.invokevirtual 121, 3) := by decide +kernel
theorem dL_law_1269 : decode cL_law 1269 = .ok (.iload 6, 2) := by decide +kernel
theorem dL_law_1271 : decode cL_law 1271 = .ok (.if_icmp .eq 5, 3) := by decide +kernel
theorem dL_law_1274 : decode cL_law 1274 = .ok (.iconst 0, 1) := by decide +kernel
theorem dL_law_1275 : decode cL_law 1275 = .ok (.ireturn, 1) := by decide +kernel
theorem dL_law_1276 : decode cL_law 1276 = .ok (.iload 6, 2) := by decide +kernel
theorem dL_law_1278 : decode cL_law 1278 = .ok (.ifCond .ne 15, 3) := by decide +kernel
theorem dL_law_1281 : decode cL_law 1281 = .ok (.aload_n 3, 1) := by decide +kernel
theorem dL_law_1282 : decode cL_law 1282 = .ok (.iconst 0, 1) := by decide +kernel
theorem dL_law_1283 : decode cL_law 1283 = .ok (.laload, 1) := by decide +kernel
theorem dL_law_1284 : decode cL_law 1284 = .ok (.iload 7, 2) := by decide +kernel
theorem dL_law_1286 : decode cL_law 1286 = .ok (.i2l, 1) := by decide +kernel
theorem dL_law_1287 : decode cL_law 1287 = .ok (.lcmp, 1) := by decide +kernel
theorem dL_law_1288 : decode cL_law 1288 = .ok (.ifCond .eq 5, 3) := by decide +kernel
theorem dL_law_1291 : decode cL_law 1291 = .ok (.iconst 0, 1) := by decide +kernel
theorem dL_law_1292 : decode cL_law 1292 = .ok (.ireturn, 1) := by decide +kernel
theorem dL_law_1293 : decode cL_law 1293 = .ok (.goto 609, 3) := by decide +kernel
theorem dL_law_1296 : decode cL_law 1296 = .ok (.aload_n 1, 1) := by decide +kernel
theorem dL_law_1297 : decode cL_law 1297 = .ok (.invokevirtual 187, 3) := by decide +kernel
theorem dL_law_1300 : decode cL_law 1300 = .ok (.aload_n 2, 1) := by decide +kernel
theorem dL_law_1301 : decode cL_law 1301 = .ok (.invokevirtual 190, 3) := by decide +kernel
theorem dL_law_1304 : decode cL_law 1304 = .ok (.if_icmp .eq 598, 3) := by decide +kernel
theorem dL_law_1307 : decode cL_law 1307 = .ok (.iconst 0, 1) := by decide +kernel
theorem dL_law_1308 : decode cL_law 1308 = .ok (.ireturn, 1) := by decide +kernel
theorem dL_law_1309 : decode cL_law 1309 = .ok (.aload_n 1, 1) := by decide +kernel
theorem dL_law_1310 : decode cL_law 1310 = .ok (.aload_n 0, 1) := by decide +kernel
theorem dL_law_1311 : decode cL_law 1311 = .ok (.iload 5, 2) := by decide +kernel
theorem dL_law_1313 : decode cL_law 1313 = .ok (.iconst 1, 1) := by decide +kernel
theorem dL_law_1314 : decode cL_law 1314 = .ok (.iadd, 1) := by decide +kernel
theorem dL_law_1315 : decode cL_law 1315 = .ok (.iaload, 1) := by decide +kernel
theorem dL_law_1316 : decode cL_law 1316 = .ok (.aload_n 0, 1) := by decide +kernel
theorem dL_law_1317 : decode cL_law 1317 = .ok (.iload 5, 2) := by decide +kernel
theorem dL_law_1319 : decode cL_law 1319 = .ok (.iconst 2, 1) := by decide +kernel
theorem dL_law_1320 : decode cL_law 1320 = .ok (.iadd, 1) := by decide +kernel
theorem dL_law_1321 : decode cL_law 1321 = .ok (.iaload, 1) := by decide +kernel
theorem dL_law_1322 : decode cL_law 1322 = .ok (.aload_n 3, 1) := by decide +kernel
theorem dL_law_1323 : decode cL_law 1323 = .ok (.invokestatic 191, 3) := by decide +kernel
theorem dL_law_1326 : decode cL_law 1326 = .ok (.istore 6, 2) := by decide +kernel
theorem dL_law_1328 : decode cL_law 1328 = .ok (.aload_n 2, 1) := by decide +kernel
theorem dL_law_1329 : decode cL_law 1329 = .ok (.aload_n 0, 1) := by decide +kernel
theorem dL_law_1330 : decode cL_law 1330 = .ok (.iload 5, 2) := by decide +kernel
theorem dL_law_1332 : decode cL_law 1332 = .ok (.iconst 1, 1) := by decide +kernel
theorem dL_law_1333 : decode cL_law 1333 = .ok (.iadd, 1) := by decide +kernel
theorem dL_law_1334 : decode cL_law 1334 = .ok (.iaload, 1) := by decide +kernel
theorem dL_law_1335 : decode cL_law 1335 = .ok (.aload_n 0, 1) := by decide +kernel
theorem dL_law_1336 : decode cL_law 1336 = .ok (.iload 5, 2) := by decide +kernel
theorem dL_law_1338 : decode cL_law 1338 = .ok (.iconst 2, 1) := by decide +kernel
theorem dL_law_1339 : decode cL_law 1339 = .ok (.iadd, 1) := by decide +kernel
theorem dL_law_1340 : decode cL_law 1340 = .ok (.iaload, 1) := by decide +kernel
theorem dL_law_1341 : decode cL_law 1341 = .ok (.invokevirtual 193, 3) := by decide +kernel
theorem dL_law_1344 : decode cL_law 1344 = .ok (.istore 7, 2) := by decide +kernel
theorem dL_law_1346 : decode cL_law 1346 = .ok (.aload_n 2, 1) := by decide +kernel
theorem dL_law_1347 : decode cL_law 1347 = .ok (.invokevirtual 121, 3) := by decide +kernel
theorem dL_law_1350 : decode cL_law 1350 = .ok (.iload 6, 2) := by decide +kernel
theorem dL_law_1352 : decode cL_law 1352 = .ok (.if_icmp .eq 5, 3) := by decide +kernel
theorem dL_law_1355 : decode cL_law 1355 = .ok (.iconst 0, 1) := by decide +kernel
theorem dL_law_1356 : decode cL_law 1356 = .ok (.ireturn, 1) := by decide +kernel
theorem dL_law_1357 : decode cL_law 1357 = .ok (.iload 6, 2) := by decide +kernel
theorem dL_law_1359 : decode cL_law 1359 = .ok (.ifCond .ne 22, 3) := by decide +kernel
theorem dL_law_1362 : decode cL_law 1362 = .ok (.aload_n 3, 1) := by decide +kernel
theorem dL_law_1363 : decode cL_law 1363 = .ok (.iconst 0, 1) := by decide +kernel
theorem dL_law_1364 : decode cL_law 1364 = .ok (.laload, 1) := by decide +kernel
theorem dL_law_1365 : decode cL_law 1365 = .ok (.iload 7, 2) := by decide +kernel
theorem dL_law_1367 : decode cL_law 1367 = .ok (.ifCond .eq 7, 3) := by decide +kernel
theorem dL_law_1370 : decode cL_law 1370 = .ok (.lconst 1, 1) := by decide +kernel
theorem dL_law_1371 : decode cL_law 1371 = .ok (.goto 4, 3) := by decide +kernel
theorem dL_law_1374 : decode cL_law 1374 = .ok (.lconst 0, 1) := by decide +kernel
theorem dL_law_1375 : decode cL_law 1375 = .ok (.lcmp, 1) := by decide +kernel
theorem dL_law_1376 : decode cL_law 1376 = .ok (.ifCond .eq 5, 3) := by decide +kernel
theorem dL_law_1379 : decode cL_law 1379 = .ok (.iconst 0, 1) := by decide +kernel
theorem dL_law_1380 : decode cL_law 1380 = .ok (.ireturn, 1) := by decide +kernel
theorem dL_law_1381 : decode cL_law 1381 = .ok (.goto 521, 3) := by decide +kernel
theorem dL_law_1384 : decode cL_law 1384 = .ok (.aload_n 1, 1) := by decide +kernel
theorem dL_law_1385 : decode cL_law 1385 = .ok (.aload_n 0, 1) := by decide +kernel
theorem dL_law_1386 : decode cL_law 1386 = .ok (.iload 5, 2) := by decide +kernel
theorem dL_law_1388 : decode cL_law 1388 = .ok (.iconst 1, 1) := by decide +kernel
theorem dL_law_1389 : decode cL_law 1389 = .ok (.iadd, 1) := by decide +kernel
theorem dL_law_1390 : decode cL_law 1390 = .ok (.iaload, 1) := by decide +kernel
theorem dL_law_1391 : decode cL_law 1391 = .ok (.aload_n 3, 1) := by decide +kernel
theorem dL_law_1392 : decode cL_law 1392 = .ok (.invokestatic 194, 3) := by decide +kernel
theorem dL_law_1395 : decode cL_law 1395 = .ok (.istore 6, 2) := by decide +kernel
theorem dL_law_1397 : decode cL_law 1397 = .ok (.aload_n 2, 1) := by decide +kernel
theorem dL_law_1398 : decode cL_law 1398 = .ok (.aload_n 0, 1) := by decide +kernel
theorem dL_law_1399 : decode cL_law 1399 = .ok (.iload 5, 2) := by decide +kernel
theorem dL_law_1401 : decode cL_law 1401 = .ok (.iconst 1, 1) := by decide +kernel
theorem dL_law_1402 : decode cL_law 1402 = .ok (.iadd, 1) := by decide +kernel
theorem dL_law_1403 : decode cL_law 1403 = .ok (.iaload, 1) := by decide +kernel
theorem dL_law_1404 : decode cL_law 1404 = .ok (.invokevirtual 196, 3) := by decide +kernel
theorem dL_law_1407 : decode cL_law 1407 = .ok (.istore 7, 2) := by decide +kernel
theorem dL_law_1409 : decode cL_law 1409 = .ok (.aload_n 2, 1) := by decide +kernel
theorem dL_law_1410 : decode cL_law 1410 = .ok (.invokevirtual 121, 3) := by decide +kernel
theorem dL_law_1413 : decode cL_law 1413 = .ok (.iload 6, 2) := by decide +kernel
theorem dL_law_1415 : decode cL_law 1415 = .ok (.if_icmp .eq 5, 3) := by decide +kernel
theorem dL_law_1418 : decode cL_law 1418 = .ok (.iconst 0, 1) := by decide +kernel
theorem dL_law_1419 : decode cL_law 1419 = .ok (.ireturn, 1) := by decide +kernel
theorem dL_law_1420 : decode cL_law 1420 = .ok (.iload 6, 2) := by decide +kernel
theorem dL_law_1422 : decode cL_law 1422 = .ok (.ifCond .ne 15, 3) := by decide +kernel
theorem dL_law_1425 : decode cL_law 1425 = .ok (.aload_n 3, 1) := by decide +kernel
theorem dL_law_1426 : decode cL_law 1426 = .ok (.iconst 0, 1) := by decide +kernel
theorem dL_law_1427 : decode cL_law 1427 = .ok (.laload, 1) := by decide +kernel
theorem dL_law_1428 : decode cL_law 1428 = .ok (.iload 7, 2) := by decide +kernel
theorem dL_law_1430 : decode cL_law 1430 = .ok (.i2l, 1) := by decide +kernel
theorem dL_law_1431 : decode cL_law 1431 = .ok (.lcmp, 1) := by decide +kernel
theorem dL_law_1432 : decode cL_law 1432 = .ok (.ifCond .eq 5, 3) := by decide +kernel
theorem dL_law_1435 : decode cL_law 1435 = .ok (.iconst 0, 1) := by decide +kernel
theorem dL_law_1436 : decode cL_law 1436 = .ok (.ireturn, 1) := by decide +kernel
theorem dL_law_1437 : decode cL_law 1437 = .ok (.goto 465, 3) := by decide +kernel
theorem dL_law_1440 : decode cL_law 1440 = .ok (.aload_n 1, 1) := by decide +kernel
theorem dL_law_1441 : decode cL_law 1441 = .ok (.aload_n 0, 1) := by decide +kernel
theorem dL_law_1442 : decode cL_law 1442 = .ok (.iload 5, 2) := by decide +kernel
theorem dL_law_1444 : decode cL_law 1444 = .ok (.iconst 1, 1) := by decide +kernel
theorem dL_law_1445 : decode cL_law 1445 = .ok (.iadd, 1) := by decide +kernel
theorem dL_law_1446 : decode cL_law 1446 = .ok (.iaload, 1) := by decide +kernel
theorem dL_law_1447 : decode cL_law 1447 = .ok (.aload_n 3, 1) := by decide +kernel
theorem dL_law_1448 : decode cL_law 1448 = .ok (.invokestatic 197, 3) := by decide +kernel
theorem dL_law_1451 : decode cL_law 1451 = .ok (.istore 6, 2) := by decide +kernel
theorem dL_law_1453 : decode cL_law 1453 = .ok (.aload_n 2, 1) := by decide +kernel
theorem dL_law_1454 : decode cL_law 1454 = .ok (.aload_n 0, 1) := by decide +kernel
theorem dL_law_1455 : decode cL_law 1455 = .ok (.iload 5, 2) := by decide +kernel
theorem dL_law_1457 : decode cL_law 1457 = .ok (.iconst 1, 1) := by decide +kernel
theorem dL_law_1458 : decode cL_law 1458 = .ok (.iadd, 1) := by decide +kernel
theorem dL_law_1459 : decode cL_law 1459 = .ok (.iaload, 1) := by decide +kernel
theorem dL_law_1460 : decode cL_law 1460 = .ok (.invokevirtual 199, 3) := by decide +kernel
theorem dL_law_1463 : decode cL_law 1463 = .ok (.istore 7, 2) := by decide +kernel
theorem dL_law_1465 : decode cL_law 1465 = .ok (.aload_n 2, 1) := by decide +kernel
theorem dL_law_1466 : decode cL_law 1466 = .ok (.invokevirtual 121, 3) := by decide +kernel
theorem dL_law_1469 : decode cL_law 1469 = .ok (.iload 6, 2) := by decide +kernel
theorem dL_law_1471 : decode cL_law 1471 = .ok (.if_icmp .eq 5, 3) := by decide +kernel
theorem dL_law_1474 : decode cL_law 1474 = .ok (.iconst 0, 1) := by decide +kernel
theorem dL_law_1475 : decode cL_law 1475 = .ok (.ireturn, 1) := by decide +kernel
theorem dL_law_1476 : decode cL_law 1476 = .ok (.iload 6, 2) := by decide +kernel
theorem dL_law_1478 : decode cL_law 1478 = .ok (.ifCond .ne 15, 3) := by decide +kernel
theorem dL_law_1481 : decode cL_law 1481 = .ok (.aload_n 3, 1) := by decide +kernel
theorem dL_law_1482 : decode cL_law 1482 = .ok (.iconst 0, 1) := by decide +kernel
theorem dL_law_1483 : decode cL_law 1483 = .ok (.laload, 1) := by decide +kernel
theorem dL_law_1484 : decode cL_law 1484 = .ok (.iload 7, 2) := by decide +kernel
theorem dL_law_1486 : decode cL_law 1486 = .ok (.i2l, 1) := by decide +kernel
theorem dL_law_1487 : decode cL_law 1487 = .ok (.lcmp, 1) := by decide +kernel
theorem dL_law_1488 : decode cL_law 1488 = .ok (.ifCond .eq 5, 3) := by decide +kernel
theorem dL_law_1491 : decode cL_law 1491 = .ok (.iconst 0, 1) := by decide +kernel
theorem dL_law_1492 : decode cL_law 1492 = .ok (.ireturn, 1) := by decide +kernel
theorem dL_law_1493 : decode cL_law 1493 = .ok (.goto 409, 3) := by decide +kernel
theorem dL_law_1496 : decode cL_law 1496 = .ok (.aload_n 1, 1) := by decide +kernel
theorem dL_law_1497 : decode cL_law 1497 = .ok (.aload_n 0, 1) := by decide +kernel
theorem dL_law_1498 : decode cL_law 1498 = .ok (.iload 5, 2) := by decide +kernel
theorem dL_law_1500 : decode cL_law 1500 = .ok (.iconst 1, 1) := by decide +kernel
theorem dL_law_1501 : decode cL_law 1501 = .ok (.iadd, 1) := by decide +kernel
theorem dL_law_1502 : decode cL_law 1502 = .ok (.iaload, 1) := by decide +kernel
theorem dL_law_1503 : decode cL_law 1503 = .ok (.aload_n 0, 1) := by decide +kernel
theorem dL_law_1504 : decode cL_law 1504 = .ok (.iload 5, 2) := by decide +kernel
theorem dL_law_1506 : decode cL_law 1506 = .ok (.iconst 2, 1) := by decide +kernel
theorem dL_law_1507 : decode cL_law 1507 = .ok (.iadd, 1) := by decide +kernel
theorem dL_law_1508 : decode cL_law 1508 = .ok (.iaload, 1) := by decide +kernel
theorem dL_law_1509 : decode cL_law 1509 = .ok (.aload_n 3, 1) := by decide +kernel
theorem dL_law_1510 : decode cL_law 1510 = .ok (.invokestatic 200, 3) := by decide +kernel
theorem dL_law_1513 : decode cL_law 1513 = .ok (.istore 6, 2) := by decide +kernel
theorem dL_law_1515 : decode cL_law 1515 = .ok (.aload_n 2, 1) := by decide +kernel
theorem dL_law_1516 : decode cL_law 1516 = .ok (.aload_n 0, 1) := by decide +kernel
theorem dL_law_1517 : decode cL_law 1517 = .ok (.iload 5, 2) := by decide +kernel
theorem dL_law_1519 : decode cL_law 1519 = .ok (.iconst 1, 1) := by decide +kernel
theorem dL_law_1520 : decode cL_law 1520 = .ok (.iadd, 1) := by decide +kernel
theorem dL_law_1521 : decode cL_law 1521 = .ok (.iaload, 1) := by decide +kernel
theorem dL_law_1522 : decode cL_law 1522 = .ok (.aload_n 0, 1) := by decide +kernel
theorem dL_law_1523 : decode cL_law 1523 = .ok (.iload 5, 2) := by decide +kernel
theorem dL_law_1525 : decode cL_law 1525 = .ok (.iconst 2, 1) := by decide +kernel
theorem dL_law_1526 : decode cL_law 1526 = .ok (.iadd, 1) := by decide +kernel
theorem dL_law_1527 : decode cL_law 1527 = .ok (.iaload, 1) := by decide +kernel
theorem dL_law_1528 : decode cL_law 1528 = .ok (.invokevirtual 202, 3) := by decide +kernel
theorem dL_law_1531 : decode cL_law 1531 = .ok (.istore 7, 2) := by decide +kernel
theorem dL_law_1533 : decode cL_law 1533 = .ok (.aload_n 2, 1) := by decide +kernel
theorem dL_law_1534 : decode cL_law 1534 = .ok (.invokevirtual 121, 3) := by decide +kernel
theorem dL_law_1537 : decode cL_law 1537 = .ok (.iload 6, 2) := by decide +kernel
theorem dL_law_1539 : decode cL_law 1539 = .ok (.if_icmp .eq 5, 3) := by decide +kernel
theorem dL_law_1542 : decode cL_law 1542 = .ok (.iconst 0, 1) := by decide +kernel
theorem dL_law_1543 : decode cL_law 1543 = .ok (.ireturn, 1) := by decide +kernel
theorem dL_law_1544 : decode cL_law 1544 = .ok (.iload 6, 2) := by decide +kernel
theorem dL_law_1546 : decode cL_law 1546 = .ok (.ifCond .ne 15, 3) := by decide +kernel
theorem dL_law_1549 : decode cL_law 1549 = .ok (.aload_n 3, 1) := by decide +kernel
theorem dL_law_1550 : decode cL_law 1550 = .ok (.iconst 0, 1) := by decide +kernel
theorem dL_law_1551 : decode cL_law 1551 = .ok (.laload, 1) := by decide +kernel
theorem dL_law_1552 : decode cL_law 1552 = .ok (.iload 7, 2) := by decide +kernel
theorem dL_law_1554 : decode cL_law 1554 = .ok (.i2l, 1) := by decide +kernel
theorem dL_law_1555 : decode cL_law 1555 = .ok (.lcmp, 1) := by decide +kernel
theorem dL_law_1556 : decode cL_law 1556 = .ok (.ifCond .eq 5, 3) := by decide +kernel
theorem dL_law_1559 : decode cL_law 1559 = .ok (.iconst 0, 1) := by decide +kernel
theorem dL_law_1560 : decode cL_law 1560 = .ok (.ireturn, 1) := by decide +kernel
theorem dL_law_1561 : decode cL_law 1561 = .ok (.goto 341, 3) := by decide +kernel
theorem dL_law_1564 : decode cL_law 1564 = .ok (.aload_n 1, 1) := by decide +kernel
theorem dL_law_1565 : decode cL_law 1565 = .ok (.aload_n 0, 1) := by decide +kernel
theorem dL_law_1566 : decode cL_law 1566 = .ok (.iload 5, 2) := by decide +kernel
theorem dL_law_1568 : decode cL_law 1568 = .ok (.iconst 1, 1) := by decide +kernel
theorem dL_law_1569 : decode cL_law 1569 = .ok (.iadd, 1) := by decide +kernel
theorem dL_law_1570 : decode cL_law 1570 = .ok (.iaload, 1) := by decide +kernel
theorem dL_law_1571 : decode cL_law 1571 = .ok (.aload_n 3, 1) := by decide +kernel
theorem dL_law_1572 : decode cL_law 1572 = .ok (.invokestatic 203, 3) := by decide +kernel
theorem dL_law_1575 : decode cL_law 1575 = .ok (.istore 6, 2) := by decide +kernel
theorem dL_law_1577 : decode cL_law 1577 = .ok (.aload_n 2, 1) := by decide +kernel
theorem dL_law_1578 : decode cL_law 1578 = .ok (.aload_n 0, 1) := by decide +kernel
theorem dL_law_1579 : decode cL_law 1579 = .ok (.iload 5, 2) := by decide +kernel
theorem dL_law_1581 : decode cL_law 1581 = .ok (.iconst 1, 1) := by decide +kernel
theorem dL_law_1582 : decode cL_law 1582 = .ok (.iadd, 1) := by decide +kernel
theorem dL_law_1583 : decode cL_law 1583 = .ok (.iaload, 1) := by decide +kernel
theorem dL_law_1584 : decode cL_law 1584 = .ok (.invokevirtual 205, 3) := by decide +kernel
theorem dL_law_1587 : decode cL_law 1587 = .ok (.istore 7, 2) := by decide +kernel
theorem dL_law_1589 : decode cL_law 1589 = .ok (.aload_n 2, 1) := by decide +kernel
theorem dL_law_1590 : decode cL_law 1590 = .ok (.invokevirtual 121, 3) := by decide +kernel
theorem dL_law_1593 : decode cL_law 1593 = .ok (.iload 6, 2) := by decide +kernel
theorem dL_law_1595 : decode cL_law 1595 = .ok (.if_icmp .eq 5, 3) := by decide +kernel
theorem dL_law_1598 : decode cL_law 1598 = .ok (.iconst 0, 1) := by decide +kernel
theorem dL_law_1599 : decode cL_law 1599 = .ok (.ireturn, 1) := by decide +kernel
theorem dL_law_1600 : decode cL_law 1600 = .ok (.iload 6, 2) := by decide +kernel
theorem dL_law_1602 : decode cL_law 1602 = .ok (.ifCond .ne 15, 3) := by decide +kernel
theorem dL_law_1605 : decode cL_law 1605 = .ok (.aload_n 3, 1) := by decide +kernel
theorem dL_law_1606 : decode cL_law 1606 = .ok (.iconst 0, 1) := by decide +kernel
theorem dL_law_1607 : decode cL_law 1607 = .ok (.laload, 1) := by decide +kernel
theorem dL_law_1608 : decode cL_law 1608 = .ok (.iload 7, 2) := by decide +kernel
theorem dL_law_1610 : decode cL_law 1610 = .ok (.i2l, 1) := by decide +kernel
theorem dL_law_1611 : decode cL_law 1611 = .ok (.lcmp, 1) := by decide +kernel
theorem dL_law_1612 : decode cL_law 1612 = .ok (.ifCond .eq 5, 3) := by decide +kernel
theorem dL_law_1615 : decode cL_law 1615 = .ok (.iconst 0, 1) := by decide +kernel
theorem dL_law_1616 : decode cL_law 1616 = .ok (.ireturn, 1) := by decide +kernel
theorem dL_law_1617 : decode cL_law 1617 = .ok (.goto 285, 3) := by decide +kernel
theorem dL_law_1620 : decode cL_law 1620 = .ok (.aload_n 1, 1) := by decide +kernel
theorem dL_law_1621 : decode cL_law 1621 = .ok (.aload_n 0, 1) := by decide +kernel
theorem dL_law_1622 : decode cL_law 1622 = .ok (.iload 5, 2) := by decide +kernel
theorem dL_law_1624 : decode cL_law 1624 = .ok (.iconst 1, 1) := by decide +kernel
theorem dL_law_1625 : decode cL_law 1625 = .ok (.iadd, 1) := by decide +kernel
theorem dL_law_1626 : decode cL_law 1626 = .ok (.iaload, 1) := by decide +kernel
theorem dL_law_1627 : decode cL_law 1627 = .ok (.aload_n 3, 1) := by decide +kernel
theorem dL_law_1628 : decode cL_law 1628 = .ok (.invokestatic 206, 3) := by decide +kernel
theorem dL_law_1631 : decode cL_law 1631 = .ok (.istore 6, 2) := by decide +kernel
theorem dL_law_1633 : decode cL_law 1633 = .ok (.aload_n 2, 1) := by decide +kernel
theorem dL_law_1634 : decode cL_law 1634 = .ok (.aload_n 0, 1) := by decide +kernel
theorem dL_law_1635 : decode cL_law 1635 = .ok (.iload 5, 2) := by decide +kernel
theorem dL_law_1637 : decode cL_law 1637 = .ok (.iconst 1, 1) := by decide +kernel
theorem dL_law_1638 : decode cL_law 1638 = .ok (.iadd, 1) := by decide +kernel
theorem dL_law_1639 : decode cL_law 1639 = .ok (.iaload, 1) := by decide +kernel
theorem dL_law_1640 : decode cL_law 1640 = .ok (.invokevirtual 208, 3) := by decide +kernel
theorem dL_law_1643 : decode cL_law 1643 = .ok (.istore 7, 2) := by decide +kernel
theorem dL_law_1645 : decode cL_law 1645 = .ok (.aload_n 2, 1) := by decide +kernel
theorem dL_law_1646 : decode cL_law 1646 = .ok (.invokevirtual 121, 3) := by decide +kernel
theorem dL_law_1649 : decode cL_law 1649 = .ok (.iload 6, 2) := by decide +kernel
theorem dL_law_1651 : decode cL_law 1651 = .ok (.if_icmp .eq 5, 3) := by decide +kernel
theorem dL_law_1654 : decode cL_law 1654 = .ok (.iconst 0, 1) := by decide +kernel
theorem dL_law_1655 : decode cL_law 1655 = .ok (.ireturn, 1) := by decide +kernel
theorem dL_law_1656 : decode cL_law 1656 = .ok (.iload 6, 2) := by decide +kernel
theorem dL_law_1658 : decode cL_law 1658 = .ok (.ifCond .ne 15, 3) := by decide +kernel
theorem dL_law_1661 : decode cL_law 1661 = .ok (.aload_n 3, 1) := by decide +kernel
theorem dL_law_1662 : decode cL_law 1662 = .ok (.iconst 0, 1) := by decide +kernel
theorem dL_law_1663 : decode cL_law 1663 = .ok (.laload, 1) := by decide +kernel
theorem dL_law_1664 : decode cL_law 1664 = .ok (.iload 7, 2) := by decide +kernel
theorem dL_law_1666 : decode cL_law 1666 = .ok (.i2l, 1) := by decide +kernel
theorem dL_law_1667 : decode cL_law 1667 = .ok (.lcmp, 1) := by decide +kernel
theorem dL_law_1668 : decode cL_law 1668 = .ok (.ifCond .eq 5, 3) := by decide +kernel
theorem dL_law_1671 : decode cL_law 1671 = .ok (.iconst 0, 1) := by decide +kernel
theorem dL_law_1672 : decode cL_law 1672 = .ok (.ireturn, 1) := by decide +kernel
theorem dL_law_1673 : decode cL_law 1673 = .ok (.goto 229, 3) := by decide +kernel
theorem dL_law_1676 : decode cL_law 1676 = .ok (.aload_n 1, 1) := by decide +kernel
theorem dL_law_1677 : decode cL_law 1677 = .ok (.aload_n 0, 1) := by decide +kernel
theorem dL_law_1678 : decode cL_law 1678 = .ok (.iload 5, 2) := by decide +kernel
theorem dL_law_1680 : decode cL_law 1680 = .ok (.iconst 1, 1) := by decide +kernel
theorem dL_law_1681 : decode cL_law 1681 = .ok (.iadd, 1) := by decide +kernel
theorem dL_law_1682 : decode cL_law 1682 = .ok (.iaload, 1) := by decide +kernel
theorem dL_law_1683 : decode cL_law 1683 = .ok (.aload_n 3, 1) := by decide +kernel
theorem dL_law_1684 : decode cL_law 1684 = .ok (.invokestatic 209, 3) := by decide +kernel
theorem dL_law_1687 : decode cL_law 1687 = .ok (.istore 6, 2) := by decide +kernel
theorem dL_law_1689 : decode cL_law 1689 = .ok (.aload_n 2, 1) := by decide +kernel
theorem dL_law_1690 : decode cL_law 1690 = .ok (.aload_n 0, 1) := by decide +kernel
theorem dL_law_1691 : decode cL_law 1691 = .ok (.iload 5, 2) := by decide +kernel
theorem dL_law_1693 : decode cL_law 1693 = .ok (.iconst 1, 1) := by decide +kernel
theorem dL_law_1694 : decode cL_law 1694 = .ok (.iadd, 1) := by decide +kernel
theorem dL_law_1695 : decode cL_law 1695 = .ok (.iaload, 1) := by decide +kernel
theorem dL_law_1696 : decode cL_law 1696 = .ok (.invokevirtual 211, 3) := by decide +kernel
theorem dL_law_1699 : decode cL_law 1699 = .ok (.istore 7, 2) := by decide +kernel
theorem dL_law_1701 : decode cL_law 1701 = .ok (.aload_n 2, 1) := by decide +kernel
theorem dL_law_1702 : decode cL_law 1702 = .ok (.invokevirtual 121, 3) := by decide +kernel
theorem dL_law_1705 : decode cL_law 1705 = .ok (.iload 6, 2) := by decide +kernel
theorem dL_law_1707 : decode cL_law 1707 = .ok (.if_icmp .eq 5, 3) := by decide +kernel
theorem dL_law_1710 : decode cL_law 1710 = .ok (.iconst 0, 1) := by decide +kernel
theorem dL_law_1711 : decode cL_law 1711 = .ok (.ireturn, 1) := by decide +kernel
theorem dL_law_1712 : decode cL_law 1712 = .ok (.iload 6, 2) := by decide +kernel
theorem dL_law_1714 : decode cL_law 1714 = .ok (.ifCond .ne 15, 3) := by decide +kernel
theorem dL_law_1717 : decode cL_law 1717 = .ok (.aload_n 3, 1) := by decide +kernel
theorem dL_law_1718 : decode cL_law 1718 = .ok (.iconst 0, 1) := by decide +kernel
theorem dL_law_1719 : decode cL_law 1719 = .ok (.laload, 1) := by decide +kernel
theorem dL_law_1720 : decode cL_law 1720 = .ok (.iload 7, 2) := by decide +kernel
theorem dL_law_1722 : decode cL_law 1722 = .ok (.i2l, 1) := by decide +kernel
theorem dL_law_1723 : decode cL_law 1723 = .ok (.lcmp, 1) := by decide +kernel
theorem dL_law_1724 : decode cL_law 1724 = .ok (.ifCond .eq 5, 3) := by decide +kernel
theorem dL_law_1727 : decode cL_law 1727 = .ok (.iconst 0, 1) := by decide +kernel
theorem dL_law_1728 : decode cL_law 1728 = .ok (.ireturn, 1) := by decide +kernel
theorem dL_law_1729 : decode cL_law 1729 = .ok (.goto 173, 3) := by decide +kernel
theorem dL_law_1732 : decode cL_law 1732 = .ok (.aload_n 1, 1) := by decide +kernel
theorem dL_law_1733 : decode cL_law 1733 = .ok (.invokevirtual 212, 3) := by decide +kernel
theorem dL_law_1736 : decode cL_law 1736 = .ok (.aload_n 2, 1) := by decide +kernel
theorem dL_law_1737 : decode cL_law 1737 = .ok (.invokevirtual 215, 3) := by decide +kernel
theorem dL_law_1740 : decode cL_law 1740 = .ok (.if_icmp .eq 162, 3) := by decide +kernel
theorem dL_law_1743 : decode cL_law 1743 = .ok (.iconst 0, 1) := by decide +kernel
theorem dL_law_1744 : decode cL_law 1744 = .ok (.ireturn, 1) := by decide +kernel
theorem dL_law_1745 : decode cL_law 1745 = .ok (.aload_n 1, 1) := by decide +kernel
theorem dL_law_1746 : decode cL_law 1746 = .ok (.invokevirtual 216, 3) := by decide +kernel
theorem dL_law_1749 : decode cL_law 1749 = .ok (.aload_n 2, 1) := by decide +kernel
theorem dL_law_1750 : decode cL_law 1750 = .ok (.invokevirtual 219, 3) := by decide +kernel
theorem dL_law_1753 : decode cL_law 1753 = .ok (.if_icmp .eq 149, 3) := by decide +kernel
theorem dL_law_1756 : decode cL_law 1756 = .ok (.iconst 0, 1) := by decide +kernel
theorem dL_law_1757 : decode cL_law 1757 = .ok (.ireturn, 1) := by decide +kernel
theorem dL_law_1758 : decode cL_law 1758 = .ok (.aload_n 1, 1) := by decide +kernel
theorem dL_law_1759 : decode cL_law 1759 = .ok (.aload 4, 2) := by decide +kernel
theorem dL_law_1761 : decode cL_law 1761 = .ok (.invokestatic 220, 3) := by decide +kernel
theorem dL_law_1764 : decode cL_law 1764 = .ok (.istore 6, 2) := by decide +kernel
theorem dL_law_1766 : decode cL_law 1766 = .ok (.aload_n 2, 1) := by decide +kernel
theorem dL_law_1767 : decode cL_law 1767 = .ok (.invokevirtual 223, 3) := by decide +kernel
theorem dL_law_1770 : decode cL_law 1770 = .ok (.fstore 7, 2) := by decide +kernel
theorem dL_law_1772 : decode cL_law 1772 = .ok (.aload_n 2, 1) := by decide +kernel
theorem dL_law_1773 : decode cL_law 1773 = .ok (.invokevirtual 121, 3) := by decide +kernel
theorem dL_law_1776 : decode cL_law 1776 = .ok (.iload 6, 2) := by decide +kernel
theorem dL_law_1778 : decode cL_law 1778 = .ok (.if_icmp .eq 5, 3) := by decide +kernel
theorem dL_law_1781 : decode cL_law 1781 = .ok (.iconst 0, 1) := by decide +kernel
theorem dL_law_1782 : decode cL_law 1782 = .ok (.ireturn, 1) := by decide +kernel
theorem dL_law_1783 : decode cL_law 1783 = .ok (.iload 6, 2) := by decide +kernel
theorem dL_law_1785 : decode cL_law 1785 = .ok (.ifCond .ne 36, 3) := by decide +kernel
theorem dL_law_1788 : decode cL_law 1788 = .ok (.aload 4, 2) := by decide +kernel
theorem dL_law_1790 : decode cL_law 1790 = .ok (.iconst 0, 1) := by decide +kernel
theorem dL_law_1791 : decode cL_law 1791 = .ok (.daload, 1) := by decide +kernel
theorem dL_law_1792 : decode cL_law 1792 = .ok (.fload 7, 2) := by decide +kernel
theorem dL_law_1794 : decode cL_law 1794 = .ok (.f2d, 1) := by decide +kernel
theorem dL_law_1795 : decode cL_law 1795 = .ok (.dcmp .l, 1) := by decide +kernel
theorem dL_law_1796 : decode cL_law 1796 = .ok (.ifCond .eq 25, 3) := by decide +kernel
theorem dL_law_1799 : decode cL_law 1799 = .ok (.aload 4, 2) := by decide +kernel
theorem dL_law_1801 : decode cL_law 1801 = .ok (.iconst 0, 1) := by decide +kernel
theorem dL_law_1802 : decode cL_law 1802 = .ok (.daload, 1) := by decide +kernel
theorem dL_law_1803 : decode cL_law 1803 = .ok (.aload 4, 2) := by decide +kernel
theorem dL_law_1805 : decode cL_law 1805 = .ok (.iconst 0, 1) := by decide +kernel
theorem dL_law_1806 : decode cL_law 1806 = .ok (.daload, 1) := by decide +kernel
theorem dL_law_1807 : decode cL_law 1807 = .ok (.dcmp .l, 1) := by decide +kernel
theorem dL_law_1808 : decode cL_law 1808 = .ok (.ifCond .eq 11, 3) := by decide +kernel
theorem dL_law_1811 : decode cL_law 1811 = .ok (.fload 7, 2) := by decide +kernel
theorem dL_law_1813 : decode cL_law 1813 = .ok (.fload 7, 2) := by decide +kernel
theorem dL_law_1815 : decode cL_law 1815 = .ok (.fcmp .l, 1) := by decide +kernel
theorem dL_law_1816 : decode cL_law 1816 = .ok (.ifCond .ne 5, 3) := by decide +kernel
theorem dL_law_1819 : decode cL_law 1819 = .ok (.iconst 0, 1) := by decide +kernel
theorem dL_law_1820 : decode cL_law 1820 = .ok (.ireturn, 1) := by decide +kernel
theorem dL_law_1821 : decode cL_law 1821 = .ok (.goto 81, 3) := by decide +kernel
theorem dL_law_1824 : decode cL_law 1824 = .ok (.aload_n 1, 1) := by decide +kernel
theorem dL_law_1825 : decode cL_law 1825 = .ok (.aload 4, 2) := by decide +kernel
theorem dL_law_1827 : decode cL_law 1827 = .ok (.invokestatic 224, 3) := by decide +kernel
theorem dL_law_1830 : decode cL_law 1830 = .ok (.istore 6, 2) := by decide +kernel
theorem dL_law_1832 : decode cL_law 1832 = .ok (.aload_n 2, 1) := by decide +kernel
theorem dL_law_1833 : decode cL_law 1833 = .ok (.invokevirtual 226, 3) := by decide +kernel
theorem dL_law_1836 : decode cL_law 1836 = .ok (.dstore 7, 2) := by decide +kernel
theorem dL_law_1838 : decode cL_law 1838 = .ok (.aload_n 2, 1) := by decide +kernel
theorem dL_law_1839 : decode cL_law 1839 = .ok (.invokevirtual 121, 3) := by decide +kernel
theorem dL_law_1842 : decode cL_law 1842 = .ok (.iload 6, 2) := by decide +kernel
theorem dL_law_1844 : decode cL_law 1844 = .ok (.if_icmp .eq 5, 3) := by decide +kernel
theorem dL_law_1847 : decode cL_law 1847 = .ok (.iconst 0, 1) := by decide +kernel
theorem dL_law_1848 : decode cL_law 1848 = .ok (.ireturn, 1) := by decide +kernel
theorem dL_law_1849 : decode cL_law 1849 = .ok (.iload 6, 2) := by decide +kernel
theorem dL_law_1851 : decode cL_law 1851 = .ok (.ifCond .ne 35, 3) := by decide +kernel
theorem dL_law_1854 : decode cL_law 1854 = .ok (.aload 4, 2) := by decide +kernel
theorem dL_law_1856 : decode cL_law 1856 = .ok (.iconst 0, 1) := by decide +kernel
theorem dL_law_1857 : decode cL_law 1857 = .ok (.daload, 1) := by decide +kernel
theorem dL_law_1858 : decode cL_law 1858 = .ok (.dload 7, 2) := by decide +kernel
theorem dL_law_1860 : decode cL_law 1860 = .ok (.dcmp .l, 1) := by decide +kernel
theorem dL_law_1861 : decode cL_law 1861 = .ok (.ifCond .eq 25, 3) := by decide +kernel
theorem dL_law_1864 : decode cL_law 1864 = .ok (.aload 4, 2) := by decide +kernel
theorem dL_law_1866 : decode cL_law 1866 = .ok (.iconst 0, 1) := by decide +kernel
theorem dL_law_1867 : decode cL_law 1867 = .ok (.daload, 1) := by decide +kernel
theorem dL_law_1868 : decode cL_law 1868 = .ok (.aload 4, 2) := by decide +kernel
theorem dL_law_1870 : decode cL_law 1870 = .ok (.iconst 0, 1) := by decide +kernel
theorem dL_law_1871 : decode cL_law 1871 = .ok (.daload, 1) := by decide +kernel
theorem dL_law_1872 : decode cL_law 1872 = .ok (.dcmp .l, 1) := by decide +kernel
theorem dL_law_1873 : decode cL_law 1873 = .ok (.ifCond .eq 11, 3) := by decide +kernel
theorem dL_law_1876 : decode cL_law 1876 = .ok (.dload 7, 2) := by decide +kernel
theorem dL_law_1878 : decode cL_law 1878 = .ok (.dload 7, 2) := by decide +kernel
theorem dL_law_1880 : decode cL_law 1880 = .ok (.dcmp .l, 1) := by decide +kernel
theorem dL_law_1881 : decode cL_law 1881 = .ok (.ifCond .ne 5, 3) := by decide +kernel
theorem dL_law_1884 : decode cL_law 1884 = .ok (.iconst 0, 1) := by decide +kernel
theorem dL_law_1885 : decode cL_law 1885 = .ok (.ireturn, 1) := by decide +kernel
theorem dL_law_1886 : decode cL_law 1886 = .ok (.goto 16, 3) := by decide +kernel
theorem dL_law_1889 : decode cL_law 1889 = .ok (.aload_n 1, 1) := by decide +kernel
theorem dL_law_1890 : decode cL_law 1890 = .ok (.invokevirtual 227, 3) := by decide +kernel
theorem dL_law_1893 : decode cL_law 1893 = .ok (.aload_n 2, 1) := by decide +kernel
theorem dL_law_1894 : decode cL_law 1894 = .ok (.invokevirtual 231, 3) := by decide +kernel
theorem dL_law_1897 : decode cL_law 1897 = .ok (.if_icmp .eq 5, 3) := by decide +kernel
theorem dL_law_1900 : decode cL_law 1900 = .ok (.iconst 0, 1) := by decide +kernel
theorem dL_law_1901 : decode cL_law 1901 = .ok (.ireturn, 1) := by decide +kernel
theorem dL_law_1902 : decode cL_law 1902 = .ok (.iinc 5 5, 3) := by decide +kernel
theorem dL_law_1905 : decode cL_law 1905 = .ok (.goto (-1877), 3) := by decide +kernel
theorem dL_law_1908 : decode cL_law 1908 = .ok (.iconst 1, 1) := by decide +kernel
theorem dL_law_1909 : decode cL_law 1909 = .ok (.ireturn, 1) := by decide +kernel
