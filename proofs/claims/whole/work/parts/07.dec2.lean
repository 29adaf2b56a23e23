theorem dX4_failureOfPlace_12 : decode cX4_failureOfPlace 12 = .ok (.iload_n 1, 1) := by decide +kernel
theorem dX4_failureOfPlace_13 : decode cX4_failureOfPlace 13 = .ok (.invokevirtual 174, 3) := by decide +kernel
theorem dX4_failureOfPlace_16 : decode cX4_failureOfPlace 16 = .ok (.ifCond .ne 5, 3) := by decide +kernel
theorem dX4_failureOfPlace_19 : decode cX4_failureOfPlace 19 = .ok (.iconst 2, 1) := by decide +kernel
theorem dX4_failureOfPlace_20 : decode cX4_failureOfPlace 20 = .ok (.ireturn, 1) := by decide +kernel
theorem dX4_failureOfPlace_21 : decode cX4_failureOfPlace 21 = .ok (.aload_n 0, 1) := by decide +kernel
theorem dX4_failureOfPlace_22 : decode cX4_failureOfPlace 22 = .ok (.getfield 47, 3) := by decide +kernel
theorem dX4_failureOfPlace_25 : decode cX4_failureOfPlace 25 = .ok (.iload_n 1, 1) := by decide +kernel
theorem dX4_failureOfPlace_26 : decode cX4_failureOfPlace 26 = .ok (.iload_n 2, 1) := by decide +kernel
theorem dX4_failureOfPlace_27 : decode cX4_failureOfPlace 27 = .ok (.invokevirtual 200, 3) := by decide +kernel
theorem dX4_failureOfPlace_30 : decode cX4_failureOfPlace 30 = .ok (.ifCond .eq 7, 3) := by decide +kernel
theorem dX4_failureOfPlace_33 : decode cX4_failureOfPlace 33 = .ok (.iconst 0, 1) := by decide +kernel
theorem dX4_failureOfPlace_34 : decode cX4_failureOfPlace 34 = .ok (.goto 4, 3) := by decide +kernel
theorem dX4_failureOfPlace_37 : decode cX4_failureOfPlace 37 = .ok (.iconst 3, 1) := by decide +kernel
theorem dX4_failureOfPlace_38 : decode cX4_failureOfPlace 38 = .ok (.ireturn, 1) := by decide +kernel
theorem dX4_cast_0 : decode cX4_cast 0 = .ok (.iload_n 2, 1) := by decide +kernel
theorem dX4_cast_1 : decode cX4_cast 1 = .ok (.bipush (-9), 2) := by decide +kernel
theorem dX4_cast_3 : decode cX4_cast 3 = .ok (.if_icmp .eq 39, 3) := by decide +kernel
theorem dX4_cast_6 : decode cX4_cast 6 = .ok (.aload_n 0, 1) := by decide +kernel
theorem dX4_cast_7 : decode cX4_cast 7 = .ok (.getfield 34, 3) := by decide +kernel
theorem dX4_cast_10 : decode cX4_cast 10 = .ok (.aload_n 0, 1) := by decide +kernel
theorem dX4_cast_11 : decode cX4_cast 11 = .ok (.getfield 47, 3) := by decide +kernel
theorem dX4_cast_14 : decode cX4_cast 14 = .ok (.iload_n 2, 1) := by decide +kernel
theorem dX4_cast_15 : decode cX4_cast 15 = .ok (.invokevirtual 190, 3) := by decide +kernel
theorem dX4_cast_18 : decode cX4_cast 18 = .ok (.aload_n 0, 1) := by decide +kernel
theorem dX4_cast_19 : decode cX4_cast 19 = .ok (.getfield 34, 3) := by decide +kernel
theorem dX4_cast_22 : decode cX4_cast 22 = .ok (.getfield 103, 3) := by decide +kernel
theorem dX4_cast_25 : decode cX4_cast 25 = .ok (.iload_n 1, 1) := by decide +kernel
theorem dX4_cast_26 : decode cX4_cast 26 = .ok (.iaload, 1) := by decide +kernel
theorem dX4_cast_27 : decode cX4_cast 27 = .ok (.invokevirtual 196, 3) := by decide +kernel
theorem dX4_cast_30 : decode cX4_cast 30 = .ok (.ifCond .ne 12, 3) := by decide +kernel
theorem dX4_cast_33 : decode cX4_cast 33 = .ok (.aload_n 0, 1) := by decide +kernel
theorem dX4_cast_34 : decode cX4_cast 34 = .ok (.iconst 5, 1) := by decide +kernel
theorem dX4_cast_35 : decode cX4_cast 35 = .ok (.iload_n 1, 1) := by decide +kernel
theorem dX4_cast_36 : decode cX4_cast 36 = .ok (.invokevirtual 87, 3) := by decide +kernel
theorem dX4_cast_39 : decode cX4_cast 39 = .ok (.goto 17, 3) := by decide +kernel
theorem dX4_cast_42 : decode cX4_cast 42 = .ok (.aload_n 0, 1) := by decide +kernel
theorem dX4_cast_43 : decode cX4_cast 43 = .ok (.aload_n 0, 1) := by decide +kernel
theorem dX4_cast_44 : decode cX4_cast 44 = .ok (.getfield 34, 3) := by decide +kernel
theorem dX4_cast_47 : decode cX4_cast 47 = .ok (.getfield 97, 3) := by decide +kernel
theorem dX4_cast_50 : decode cX4_cast 50 = .ok (.iload_n 1, 1) := by decide +kernel
theorem dX4_cast_51 : decode cX4_cast 51 = .ok (.iaload, 1) := by decide +kernel
theorem dX4_cast_52 : decode cX4_cast 52 = .ok (.iload_n 2, 1) := by decide +kernel
theorem dX4_cast_53 : decode cX4_cast 53 = .ok (.invokevirtual 116, 3) := by decide +kernel
theorem dX4_cast_56 : decode cX4_cast 56 = .ok (.return_, 1) := by decide +kernel
theorem dX4_ask_0 : decode cX4_ask 0 = .ok (.iload_n 2, 1) := by decide +kernel
theorem dX4_ask_1 : decode cX4_ask 1 = .ok (.bipush (-9), 2) := by decide +kernel
theorem dX4_ask_3 : decode cX4_ask 3 = .ok (.if_icmp .ne 10, 3) := by decide +kernel
theorem dX4_ask_6 : decode cX4_ask 6 = .ok (.aload_n 0, 1) := by decide +kernel
theorem dX4_ask_7 : decode cX4_ask 7 = .ok (.iconst 1, 1) := by decide +kernel
theorem dX4_ask_8 : decode cX4_ask 8 = .ok (.iload_n 1, 1) := by decide +kernel
theorem dX4_ask_9 : decode cX4_ask 9 = .ok (.invokevirtual 87, 3) := by decide +kernel
theorem dX4_ask_12 : decode cX4_ask 12 = .ok (.return_, 1) := by decide +kernel
theorem dX4_ask_13 : decode cX4_ask 13 = .ok (.aload_n 0, 1) := by decide +kernel
theorem dX4_ask_14 : decode cX4_ask 14 = .ok (.getfield 34, 3) := by decide +kernel
theorem dX4_ask_17 : decode cX4_ask 17 = .ok (.aload_n 0, 1) := by decide +kernel
theorem dX4_ask_18 : decode cX4_ask 18 = .ok (.getfield 47, 3) := by decide +kernel
theorem dX4_ask_21 : decode cX4_ask 21 = .ok (.iload_n 2, 1) := by decide +kernel
theorem dX4_ask_22 : decode cX4_ask 22 = .ok (.invokevirtual 190, 3) := by decide +kernel
theorem dX4_ask_25 : decode cX4_ask 25 = .ok (.aload_n 0, 1) := by decide +kernel
theorem dX4_ask_26 : decode cX4_ask 26 = .ok (.getfield 34, 3) := by decide +kernel
theorem dX4_ask_29 : decode cX4_ask 29 = .ok (.getfield 103, 3) := by decide +kernel
theorem dX4_ask_32 : decode cX4_ask 32 = .ok (.iload_n 1, 1) := by decide +kernel
theorem dX4_ask_33 : decode cX4_ask 33 = .ok (.iaload, 1) := by decide +kernel
theorem dX4_ask_34 : decode cX4_ask 34 = .ok (.invokevirtual 203, 3) := by decide +kernel
theorem dX4_ask_37 : decode cX4_ask 37 = .ok (.istore_n 3, 1) := by decide +kernel
theorem dX4_ask_38 : decode cX4_ask 38 = .ok (.iload_n 3, 1) := by decide +kernel
theorem dX4_ask_39 : decode cX4_ask 39 = .ok (.ifCond .ge 13, 3) := by decide +kernel
theorem dX4_ask_42 : decode cX4_ask 42 = .ok (.aload_n 0, 1) := by decide +kernel
theorem dX4_ask_43 : decode cX4_ask 43 = .ok (.bipush 6, 2) := by decide +kernel
theorem dX4_ask_45 : decode cX4_ask 45 = .ok (.iload_n 1, 1) := by decide +kernel
theorem dX4_ask_46 : decode cX4_ask 46 = .ok (.invokevirtual 87, 3) := by decide +kernel
theorem dX4_ask_49 : decode cX4_ask 49 = .ok (.goto 60, 3) := by decide +kernel
theorem dX4_ask_52 : decode cX4_ask 52 = .ok (.aload_n 0, 1) := by decide +kernel
theorem dX4_ask_53 : decode cX4_ask 53 = .ok (.getfield 12, 3) := by decide +kernel
theorem dX4_ask_56 : decode cX4_ask 56 = .ok (.invokevirtual 206, 3) := by decide +kernel
theorem dX4_ask_59 : decode cX4_ask 59 = .ok (.ifCond .eq 13, 3) := by decide +kernel
theorem dX4_ask_62 : decode cX4_ask 62 = .ok (.aload_n 0, 1) := by decide +kernel
theorem dX4_ask_63 : decode cX4_ask 63 = .ok (.bipush 8, 2) := by decide +kernel
theorem dX4_ask_65 : decode cX4_ask 65 = .ok (.iload_n 1, 1) := by decide +kernel
theorem dX4_ask_66 : decode cX4_ask 66 = .ok (.invokevirtual 87, 3) := by decide +kernel
theorem dX4_ask_69 : decode cX4_ask 69 = .ok (.goto 40, 3) := by decide +kernel
theorem dX4_ask_72 : decode cX4_ask 72 = .ok (.aload_n 0, 1) := by decide +kernel
theorem dX4_ask_73 : decode cX4_ask 73 = .ok (.iload_n 3, 1) := by decide +kernel
theorem dX4_ask_74 : decode cX4_ask 74 = .ok (.aload_n 0, 1) := by decide +kernel
theorem dX4_ask_75 : decode cX4_ask 75 = .ok (.iload_n 3, 1) := by decide +kernel
theorem dX4_ask_76 : decode cX4_ask 76 = .ok (.iload_n 1, 1) := by decide +kernel
theorem dX4_ask_77 : decode cX4_ask 77 = .ok (.aload_n 0, 1) := by decide +kernel
theorem dX4_ask_78 : decode cX4_ask 78 = .ok (.getfield 47, 3) := by decide +kernel
theorem dX4_ask_81 : decode cX4_ask 81 = .ok (.getfield 210, 3) := by decide +kernel
theorem dX4_ask_84 : decode cX4_ask 84 = .ok (.iload_n 2, 1) := by decide +kernel
theorem dX4_ask_85 : decode cX4_ask 85 = .ok (.iaload, 1) := by decide +kernel
theorem dX4_ask_86 : decode cX4_ask 86 = .ok (.invokevirtual 213, 3) := by decide +kernel
theorem dX4_ask_89 : decode cX4_ask 89 = .ok (.iload_n 2, 1) := by decide +kernel
theorem dX4_ask_90 : decode cX4_ask 90 = .ok (.aload_n 0, 1) := by decide +kernel
theorem dX4_ask_91 : decode cX4_ask 91 = .ok (.getfield 12, 3) := by decide +kernel
theorem dX4_ask_94 : decode cX4_ask 94 = .ok (.aload_n 0, 1) := by decide +kernel
theorem dX4_ask_95 : decode cX4_ask 95 = .ok (.getfield 34, 3) := by decide +kernel
theorem dX4_ask_98 : decode cX4_ask 98 = .ok (.getfield 216, 3) := by decide +kernel
theorem dX4_ask_101 : decode cX4_ask 101 = .ok (.iload_n 1, 1) := by decide +kernel
theorem dX4_ask_102 : decode cX4_ask 102 = .ok (.iaload, 1) := by decide +kernel
theorem dX4_ask_103 : decode cX4_ask 103 = .ok (.invokevirtual 112, 3) := by decide +kernel
theorem dX4_ask_106 : decode cX4_ask 106 = .ok (.invokevirtual 63, 3) := by decide +kernel
theorem dX4_ask_109 : decode cX4_ask 109 = .ok (.return_, 1) := by decide +kernel
theorem dX4_call_0 : decode cX4_call 0 = .ok (.aload_n 0, 1) := by decide +kernel
theorem dX4_call_1 : decode cX4_call 1 = .ok (.getfield 12, 3) := by decide +kernel
theorem dX4_call_4 : decode cX4_call 4 = .ok (.invokevirtual 206, 3) := by decide +kernel
theorem dX4_call_7 : decode cX4_call 7 = .ok (.ifCond .eq 13, 3) := by decide +kernel
theorem dX4_call_10 : decode cX4_call 10 = .ok (.aload_n 0, 1) := by decide +kernel
theorem dX4_call_11 : decode cX4_call 11 = .ok (.bipush 8, 2) := by decide +kernel
theorem dX4_call_13 : decode cX4_call 13 = .ok (.iload_n 1, 1) := by decide +kernel
theorem dX4_call_14 : decode cX4_call 14 = .ok (.invokevirtual 87, 3) := by decide +kernel
theorem dX4_call_17 : decode cX4_call 17 = .ok (.goto 42, 3) := by decide +kernel
theorem dX4_call_20 : decode cX4_call 20 = .ok (.aload_n 0, 1) := by decide +kernel
theorem dX4_call_21 : decode cX4_call 21 = .ok (.getfield 34, 3) := by decide +kernel
theorem dX4_call_24 : decode cX4_call 24 = .ok (.getfield 103, 3) := by decide +kernel
theorem dX4_call_27 : decode cX4_call 27 = .ok (.iload_n 1, 1) := by decide +kernel
theorem dX4_call_28 : decode cX4_call 28 = .ok (.iaload, 1) := by decide +kernel
theorem dX4_call_29 : decode cX4_call 29 = .ok (.istore_n 2, 1) := by decide +kernel
theorem dX4_call_30 : decode cX4_call 30 = .ok (.aload_n 0, 1) := by decide +kernel
theorem dX4_call_31 : decode cX4_call 31 = .ok (.iload_n 2, 1) := by decide +kernel
theorem dX4_call_32 : decode cX4_call 32 = .ok (.aload_n 0, 1) := by decide +kernel
theorem dX4_call_33 : decode cX4_call 33 = .ok (.iload_n 2, 1) := by decide +kernel
theorem dX4_call_34 : decode cX4_call 34 = .ok (.iload_n 1, 1) := by decide +kernel
theorem dX4_call_35 : decode cX4_call 35 = .ok (.invokevirtual 219, 3) := by decide +kernel
theorem dX4_call_38 : decode cX4_call 38 = .ok (.bipush (-9), 2) := by decide +kernel
theorem dX4_call_40 : decode cX4_call 40 = .ok (.aload_n 0, 1) := by decide +kernel
theorem dX4_call_41 : decode cX4_call 41 = .ok (.getfield 12, 3) := by decide +kernel
theorem dX4_call_44 : decode cX4_call 44 = .ok (.aload_n 0, 1) := by decide +kernel
theorem dX4_call_45 : decode cX4_call 45 = .ok (.getfield 34, 3) := by decide +kernel
theorem dX4_call_48 : decode cX4_call 48 = .ok (.getfield 216, 3) := by decide +kernel
theorem dX4_call_51 : decode cX4_call 51 = .ok (.iload_n 1, 1) := by decide +kernel
theorem dX4_call_52 : decode cX4_call 52 = .ok (.iaload, 1) := by decide +kernel
theorem dX4_call_53 : decode cX4_call 53 = .ok (.invokevirtual 112, 3) := by decide +kernel
theorem dX4_call_56 : decode cX4_call 56 = .ok (.invokevirtual 63, 3) := by decide +kernel
theorem dX4_call_59 : decode cX4_call 59 = .ok (.return_, 1) := by decide +kernel
theorem dX4_nodeAsked_0 : decode cX4_nodeAsked 0 = .ok (.aload_n 0, 1) := by decide +kernel
theorem dX4_nodeAsked_1 : decode cX4_nodeAsked 1 = .ok (.getfield 12, 3) := by decide +kernel
theorem dX4_nodeAsked_4 : decode cX4_nodeAsked 4 = .ok (.invokevirtual 153, 3) := by decide +kernel
theorem dX4_nodeAsked_7 : decode cX4_nodeAsked 7 = .ok (.istore 4, 2) := by decide +kernel
theorem dX4_nodeAsked_9 : decode cX4_nodeAsked 9 = .ok (.iload 4, 2) := by decide +kernel
theorem dX4_nodeAsked_11 : decode cX4_nodeAsked 11 = .ok (.ifCond .lt 7, 3) := by decide +kernel
theorem dX4_nodeAsked_14 : decode cX4_nodeAsked 14 = .ok (.iload_n 3, 1) := by decide +kernel
theorem dX4_nodeAsked_15 : decode cX4_nodeAsked 15 = .ok (.ifCond .ge 5, 3) := by decide +kernel
theorem dX4_nodeAsked_18 : decode cX4_nodeAsked 18 = .ok (.iconst (-1), 1) := by decide +kernel
theorem dX4_nodeAsked_19 : decode cX4_nodeAsked 19 = .ok (.ireturn, 1) := by decide +kernel
theorem dX4_nodeAsked_20 : decode cX4_nodeAsked 20 = .ok (.aload_n 0, 1) := by decide +kernel
theorem dX4_nodeAsked_21 : decode cX4_nodeAsked 21 = .ok (.getfield 38, 3) := by decide +kernel
theorem dX4_nodeAsked_24 : decode cX4_nodeAsked 24 = .ok (.getfield 156, 3) := by decide +kernel
theorem dX4_nodeAsked_27 : decode cX4_nodeAsked 27 = .ok (.iload_n 1, 1) := by decide +kernel
theorem dX4_nodeAsked_28 : decode cX4_nodeAsked 28 = .ok (.aload_n 0, 1) := by decide +kernel
theorem dX4_nodeAsked_29 : decode cX4_nodeAsked 29 = .ok (.getfield 38, 3) := by decide +kernel
theorem dX4_nodeAsked_32 : decode cX4_nodeAsked 32 = .ok (.getfield 156, 3) := by decide +kernel
theorem dX4_nodeAsked_35 : decode cX4_nodeAsked 35 = .ok (.iload 4, 2) := by decide +kernel
theorem dX4_nodeAsked_37 : decode cX4_nodeAsked 37 = .ok (.iload_n 2, 1) := by decide +kernel
theorem dX4_nodeAsked_38 : decode cX4_nodeAsked 38 = .ok (.iload_n 3, 1) := by decide +kernel
theorem dX4_nodeAsked_39 : decode cX4_nodeAsked 39 = .ok (.invokevirtual 222, 3) := by decide +kernel
theorem dX4_nodeAsked_42 : decode cX4_nodeAsked 42 = .ok (.invokevirtual 225, 3) := by decide +kernel
theorem dX4_nodeAsked_45 : decode cX4_nodeAsked 45 = .ok (.ireturn, 1) := by decide +kernel
theorem dX4_nodeCalled_0 : decode cX4_nodeCalled 0 = .ok (.aload_n 0, 1) := by decide +kernel
theorem dX4_nodeCalled_1 : decode cX4_nodeCalled 1 = .ok (.getfield 12, 3) := by decide +kernel
theorem dX4_nodeCalled_4 : decode cX4_nodeCalled 4 = .ok (.invokevirtual 153, 3) := by decide +kernel
theorem dX4_nodeCalled_7 : decode cX4_nodeCalled 7 = .ok (.istore_n 3, 1) := by decide +kernel
theorem dX4_nodeCalled_8 : decode cX4_nodeCalled 8 = .ok (.iload_n 3, 1) := by decide +kernel
theorem dX4_nodeCalled_9 : decode cX4_nodeCalled 9 = .ok (.ifCond .ge 7, 3) := by decide +kernel
theorem dX4_nodeCalled_12 : decode cX4_nodeCalled 12 = .ok (.iconst (-1), 1) := by decide +kernel
theorem dX4_nodeCalled_13 : decode cX4_nodeCalled 13 = .ok (.goto 26, 3) := by decide +kernel
theorem dX4_nodeCalled_16 : decode cX4_nodeCalled 16 = .ok (.aload_n 0, 1) := by decide +kernel
theorem dX4_nodeCalled_17 : decode cX4_nodeCalled 17 = .ok (.getfield 38, 3) := by decide +kernel
theorem dX4_nodeCalled_20 : decode cX4_nodeCalled 20 = .ok (.getfield 156, 3) := by decide +kernel
theorem dX4_nodeCalled_23 : decode cX4_nodeCalled 23 = .ok (.iload_n 1, 1) := by decide +kernel
theorem dX4_nodeCalled_24 : decode cX4_nodeCalled 24 = .ok (.aload_n 0, 1) := by decide +kernel
theorem dX4_nodeCalled_25 : decode cX4_nodeCalled 25 = .ok (.getfield 38, 3) := by decide +kernel
theorem dX4_nodeCalled_28 : decode cX4_nodeCalled 28 = .ok (.getfield 156, 3) := by decide +kernel
theorem dX4_nodeCalled_31 : decode cX4_nodeCalled 31 = .ok (.iload_n 3, 1) := by decide +kernel
theorem dX4_nodeCalled_32 : decode cX4_nodeCalled 32 = .ok (.iload_n 2, 1) := by decide +kernel
theorem dX4_nodeCalled_33 : decode cX4_nodeCalled 33 = .ok (.invokevirtual 228, 3) := by decide +kernel
theorem dX4_nodeCalled_36 : decode cX4_nodeCalled 36 = .ok (.invokevirtual 225, 3) := by decide +kernel
theorem dX4_nodeCalled_39 : decode cX4_nodeCalled 39 = .ok (.ireturn, 1) := by decide +kernel
theorem dX4_enter_0 : decode cX4_enter 0 = .ok (.aload_n 0, 1) := by decide +kernel
theorem dX4_enter_1 : decode cX4_enter 1 = .ok (.getfield 12, 3) := by decide +kernel
theorem dX4_enter_4 : decode cX4_enter 4 = .ok (.iload_n 1, 1) := by decide +kernel
theorem dX4_enter_5 : decode cX4_enter 5 = .ok (.iload_n 2, 1) := by decide +kernel
theorem dX4_enter_6 : decode cX4_enter 6 = .ok (.invokevirtual 231, 3) := by decide +kernel
theorem dX4_enter_9 : decode cX4_enter 9 = .ok (.aload_n 0, 1) := by decide +kernel
theorem dX4_enter_10 : decode cX4_enter 10 = .ok (.getfield 18, 3) := by decide +kernel
theorem dX4_enter_13 : decode cX4_enter 13 = .ok (.iconst 5, 1) := by decide +kernel
theorem dX4_enter_14 : decode cX4_enter 14 = .ok (.aload_n 0, 1) := by decide +kernel
theorem dX4_enter_15 : decode cX4_enter 15 = .ok (.getfield 18, 3) := by decide +kernel
theorem dX4_enter_18 : decode cX4_enter 18 = .ok (.iconst 5, 1) := by decide +kernel
theorem dX4_enter_19 : decode cX4_enter 19 = .ok (.iaload, 1) := by decide +kernel
theorem dX4_enter_20 : decode cX4_enter 20 = .ok (.aload_n 0, 1) := by decide +kernel
theorem dX4_enter_21 : decode cX4_enter 21 = .ok (.getfield 12, 3) := by decide +kernel
theorem dX4_enter_24 : decode cX4_enter 24 = .ok (.getfield 60, 3) := by decide +kernel
theorem dX4_enter_27 : decode cX4_enter 27 = .ok (.invokestatic 234, 3) := by decide +kernel
theorem dX4_enter_30 : decode cX4_enter 30 = .ok (.iastore, 1) := by decide +kernel
theorem dX4_enter_31 : decode cX4_enter 31 = .ok (.aload_n 0, 1) := by decide +kernel
theorem dX4_enter_32 : decode cX4_enter 32 = .ok (.iconst 0, 1) := by decide +kernel
theorem dX4_enter_33 : decode cX4_enter 33 = .ok (.iload_n 3, 1) := by decide +kernel
theorem dX4_enter_34 : decode cX4_enter 34 = .ok (.invokevirtual 116, 3) := by decide +kernel
theorem dX4_enter_37 : decode cX4_enter 37 = .ok (.aload_n 0, 1) := by decide +kernel
theorem dX4_enter_38 : decode cX4_enter 38 = .ok (.iconst 1, 1) := by decide +kernel
theorem dX4_enter_39 : decode cX4_enter 39 = .ok (.iload 4, 2) := by decide +kernel
theorem dX4_enter_41 : decode cX4_enter 41 = .ok (.invokevirtual 116, 3) := by decide +kernel
theorem dX4_enter_44 : decode cX4_enter 44 = .ok (.return_, 1) := by decide +kernel
theorem dX4_leave_0 : decode cX4_leave 0 = .ok (.aload_n 0, 1) := by decide +kernel
theorem dX4_leave_1 : decode cX4_leave 1 = .ok (.getfield 12, 3) := by decide +kernel
theorem dX4_leave_4 : decode cX4_leave 4 = .ok (.dup, 1) := by decide +kernel
theorem dX4_leave_5 : decode cX4_leave 5 = .ok (.getfield 60, 3) := by decide +kernel
theorem dX4_leave_8 : decode cX4_leave 8 = .ok (.iconst 1, 1) := by decide +kernel
theorem dX4_leave_9 : decode cX4_leave 9 = .ok (.isub, 1) := by decide +kernel
theorem dX4_leave_10 : decode cX4_leave 10 = .ok (.putfield 60, 3) := by decide +kernel
theorem dX4_leave_13 : decode cX4_leave 13 = .ok (.aload_n 0, 1) := by decide +kernel
theorem dX4_leave_14 : decode cX4_leave 14 = .ok (.getfield 12, 3) := by decide +kernel
theorem dX4_leave_17 : decode cX4_leave 17 = .ok (.getfield 60, 3) := by decide +kernel
theorem dX4_leave_20 : decode cX4_leave 20 = .ok (.ifCond .ne 17, 3) := by decide +kernel
theorem dX4_leave_23 : decode cX4_leave 23 = .ok (.aload_n 0, 1) := by decide +kernel
theorem dX4_leave_24 : decode cX4_leave 24 = .ok (.getfield 18, 3) := by decide +kernel
theorem dX4_leave_27 : decode cX4_leave 27 = .ok (.bipush 7, 2) := by decide +kernel
theorem dX4_leave_29 : decode cX4_leave 29 = .ok (.iload_n 1, 1) := by decide +kernel
theorem dX4_leave_30 : decode cX4_leave 30 = .ok (.iastore, 1) := by decide +kernel
theorem dX4_leave_31 : decode cX4_leave 31 = .ok (.aload_n 0, 1) := by decide +kernel
theorem dX4_leave_32 : decode cX4_leave 32 = .ok (.iconst 0, 1) := by decide +kernel
theorem dX4_leave_33 : decode cX4_leave 33 = .ok (.putfield 30, 3) := by decide +kernel
theorem dX4_leave_36 : decode cX4_leave 36 = .ok (.return_, 1) := by decide +kernel
theorem dX4_leave_37 : decode cX4_leave 37 = .ok (.aload_n 0, 1) := by decide +kernel
theorem dX4_leave_38 : decode cX4_leave 38 = .ok (.getfield 34, 3) := by decide +kernel
theorem dX4_leave_41 : decode cX4_leave 41 = .ok (.aload_n 0, 1) := by decide +kernel
theorem dX4_leave_42 : decode cX4_leave 42 = .ok (.getfield 12, 3) := by decide +kernel
theorem dX4_leave_45 : decode cX4_leave 45 = .ok (.invokevirtual 70, 3) := by decide +kernel
theorem dX4_leave_48 : decode cX4_leave 48 = .ok (.aload_n 0, 1) := by decide +kernel
theorem dX4_leave_49 : decode cX4_leave 49 = .ok (.getfield 12, 3) := by decide +kernel
theorem dX4_leave_52 : decode cX4_leave 52 = .ok (.invokevirtual 74, 3) := by decide +kernel
theorem dX4_leave_55 : decode cX4_leave 55 = .ok (.iconst 1, 1) := by decide +kernel
theorem dX4_leave_56 : decode cX4_leave 56 = .ok (.isub, 1) := by decide +kernel
theorem dX4_leave_57 : decode cX4_leave 57 = .ok (.invokevirtual 77, 3) := by decide +kernel
theorem dX4_leave_60 : decode cX4_leave 60 = .ok (.istore_n 2, 1) := by decide +kernel
theorem dX4_leave_61 : decode cX4_leave 61 = .ok (.iload_n 2, 1) := by decide +kernel
theorem dX4_leave_62 : decode cX4_leave 62 = .ok (.ifCond .lt 17, 3) := by decide +kernel
theorem dX4_leave_65 : decode cX4_leave 65 = .ok (.aload_n 0, 1) := by decide +kernel
theorem dX4_leave_66 : decode cX4_leave 66 = .ok (.aload_n 0, 1) := by decide +kernel
theorem dX4_leave_67 : decode cX4_leave 67 = .ok (.getfield 34, 3) := by decide +kernel
theorem dX4_leave_70 : decode cX4_leave 70 = .ok (.getfield 97, 3) := by decide +kernel
theorem dX4_leave_73 : decode cX4_leave 73 = .ok (.iload_n 2, 1) := by decide +kernel
theorem dX4_leave_74 : decode cX4_leave 74 = .ok (.iaload, 1) := by decide +kernel
theorem dX4_leave_75 : decode cX4_leave 75 = .ok (.iload_n 1, 1) := by decide +kernel
theorem dX4_leave_76 : decode cX4_leave 76 = .ok (.invokevirtual 116, 3) := by decide +kernel
theorem dX4_leave_79 : decode cX4_leave 79 = .ok (.return_, 1) := by decide +kernel
theorem dX4_maybe_0 : decode cX4_maybe 0 = .ok (.aload_n 0, 1) := by decide +kernel
theorem dX4_maybe_1 : decode cX4_maybe 1 = .ok (.getfield 18, 3) := by decide +kernel
theorem dX4_maybe_4 : decode cX4_maybe 4 = .ok (.bipush 8, 2) := by decide +kernel
theorem dX4_maybe_6 : decode cX4_maybe 6 = .ok (.iaload, 1) := by decide +kernel
theorem dX4_maybe_7 : decode cX4_maybe 7 = .ok (.bipush 64, 2) := by decide +kernel
theorem dX4_maybe_9 : decode cX4_maybe 9 = .ok (.if_icmp .ge 26, 3) := by decide +kernel
theorem dX4_maybe_12 : decode cX4_maybe 12 = .ok (.aload_n 0, 1) := by decide +kernel
theorem dX4_maybe_13 : decode cX4_maybe 13 = .ok (.getfield 22, 3) := by decide +kernel
theorem dX4_maybe_16 : decode cX4_maybe 16 = .ok (.aload_n 0, 1) := by decide +kernel
theorem dX4_maybe_17 : decode cX4_maybe 17 = .ok (.getfield 18, 3) := by decide +kernel
theorem dX4_maybe_20 : decode cX4_maybe 20 = .ok (.bipush 8, 2) := by decide +kernel
theorem dX4_maybe_22 : decode cX4_maybe 22 = .ok (.iaload, 1) := by decide +kernel
theorem dX4_maybe_23 : decode cX4_maybe 23 = .ok (.lushr, 1) := by decide +kernel
theorem dX4_maybe_24 : decode cX4_maybe 24 = .ok (.lconst 1, 1) := by decide +kernel
theorem dX4_maybe_25 : decode cX4_maybe 25 = .ok (.land, 1) := by decide +kernel
theorem dX4_maybe_26 : decode cX4_maybe 26 = .ok (.lconst 0, 1) := by decide +kernel
theorem dX4_maybe_27 : decode cX4_maybe 27 = .ok (.lcmp, 1) := by decide +kernel
theorem dX4_maybe_28 : decode cX4_maybe 28 = .ok (.ifCond .eq 7, 3) := by decide +kernel
theorem dX4_maybe_31 : decode cX4_maybe 31 = .ok (.iconst 1, 1) := by decide +kernel
theorem dX4_maybe_32 : decode cX4_maybe 32 = .ok (.goto 4, 3) := by decide +kernel
theorem dX4_maybe_35 : decode cX4_maybe 35 = .ok (.iconst 0, 1) := by decide +kernel
theorem dX4_maybe_36 : decode cX4_maybe 36 = .ok (.istore_n 2, 1) := by decide +kernel
theorem dX4_maybe_37 : decode cX4_maybe 37 = .ok (.aload_n 0, 1) := by decide +kernel
theorem dX4_maybe_38 : decode cX4_maybe 38 = .ok (.getfield 18, 3) := by decide +kernel
theorem dX4_maybe_41 : decode cX4_maybe 41 = .ok (.bipush 8, 2) := by decide +kernel
theorem dX4_maybe_43 : decode cX4_maybe 43 = .ok (.dup2, 1) := by decide +kernel
theorem dX4_maybe_44 : decode cX4_maybe 44 = .ok (.iaload, 1) := by decide +kernel
theorem dX4_maybe_45 : decode cX4_maybe 45 = .ok (.iconst 1, 1) := by decide +kernel
theorem dX4_maybe_46 : decode cX4_maybe 46 = .ok (.iadd, 1) := by decide +kernel
theorem dX4_maybe_47 : decode cX4_maybe 47 = .ok (.iastore, 1) := by decide +kernel
theorem dX4_maybe_48 : decode cX4_maybe 48 = .ok (.iload_n 2, 1) := by decide +kernel
theorem dX4_maybe_49 : decode cX4_maybe 49 = .ok (.ifCond .eq 19, 3) := by decide +kernel
theorem dX4_maybe_52 : decode cX4_maybe 52 = .ok (.aload_n 0, 1) := by decide +kernel
theorem dX4_maybe_53 : decode cX4_maybe 53 = .ok (.getfield 12, 3) := by decide +kernel
theorem dX4_maybe_56 : decode cX4_maybe 56 = .ok (.aload_n 0, 1) := by decide +kernel
theorem dX4_maybe_57 : decode cX4_maybe 57 = .ok (.getfield 12, 3) := by decide +kernel
theorem dX4_maybe_60 : decode cX4_maybe 60 = .ok (.invokevirtual 74, 3) := by decide +kernel
theorem dX4_maybe_63 : decode cX4_maybe 63 = .ok (.iload_n 1, 1) := by decide +kernel
theorem dX4_maybe_64 : decode cX4_maybe 64 = .ok (.iadd, 1) := by decide +kernel
theorem dX4_maybe_65 : decode cX4_maybe 65 = .ok (.invokevirtual 91, 3) := by decide +kernel
theorem dX4_maybe_68 : decode cX4_maybe 68 = .ok (.return_, 1) := by decide +kernel
theorem dX4_raise_0 : decode cX4_raise 0 = .ok (.iload_n 2, 1) := by decide +kernel
theorem dX4_raise_1 : decode cX4_raise 1 = .ok (.bipush (-9), 2) := by decide +kernel
theorem dX4_raise_3 : decode cX4_raise 3 = .ok (.if_icmp .ne 10, 3) := by decide +kernel
theorem dX4_raise_6 : decode cX4_raise 6 = .ok (.aload_n 0, 1) := by decide +kernel
theorem dX4_raise_7 : decode cX4_raise 7 = .ok (.iconst 1, 1) := by decide +kernel
theorem dX4_raise_8 : decode cX4_raise 8 = .ok (.iload_n 1, 1) := by decide +kernel
theorem dX4_raise_9 : decode cX4_raise 9 = .ok (.invokevirtual 87, 3) := by decide +kernel
theorem dX4_raise_12 : decode cX4_raise 12 = .ok (.return_, 1) := by decide +kernel
theorem dX4_raise_13 : decode cX4_raise 13 = .ok (.aload_n 0, 1) := by decide +kernel
theorem dX4_raise_14 : decode cX4_raise 14 = .ok (.getfield 12, 3) := by decide +kernel
theorem dX4_raise_17 : decode cX4_raise 17 = .ok (.getfield 60, 3) := by decide +kernel
theorem dX4_raise_20 : decode cX4_raise 20 = .ok (.istore_n 3, 1) := by decide +kernel
theorem dX4_raise_21 : decode cX4_raise 21 = .ok (.iload_n 3, 1) := by decide +kernel
theorem dX4_raise_22 : decode cX4_raise 22 = .ok (.ifCond .le 87, 3) := by decide +kernel
theorem dX4_raise_25 : decode cX4_raise 25 = .ok (.aload_n 0, 1) := by decide +kernel
theorem dX4_raise_26 : decode cX4_raise 26 = .ok (.aload_n 0, 1) := by decide +kernel
theorem dX4_raise_27 : decode cX4_raise 27 = .ok (.getfield 47, 3) := by decide +kernel
theorem dX4_raise_30 : decode cX4_raise 30 = .ok (.iload_n 2, 1) := by decide +kernel
theorem dX4_raise_31 : decode cX4_raise 31 = .ok (.invokevirtual 190, 3) := by decide +kernel
theorem dX4_raise_34 : decode cX4_raise 34 = .ok (.invokevirtual 239, 3) := by decide +kernel
theorem dX4_raise_37 : decode cX4_raise 37 = .ok (.istore 4, 2) := by decide +kernel
theorem dX4_raise_39 : decode cX4_raise 39 = .ok (.iload 4, 2) := by decide +kernel
theorem dX4_raise_41 : decode cX4_raise 41 = .ok (.ifCond .lt 49, 3) := by decide +kernel
theorem dX4_raise_44 : decode cX4_raise 44 = .ok (.aload_n 0, 1) := by decide +kernel
theorem dX4_raise_45 : decode cX4_raise 45 = .ok (.aload_n 0, 1) := by decide +kernel
theorem dX4_raise_46 : decode cX4_raise 46 = .ok (.getfield 34, 3) := by decide +kernel
theorem dX4_raise_49 : decode cX4_raise 49 = .ok (.getfield 97, 3) := by decide +kernel
theorem dX4_raise_52 : decode cX4_raise 52 = .ok (.iload 4, 2) := by decide +kernel
theorem dX4_raise_54 : decode cX4_raise 54 = .ok (.iaload, 1) := by decide +kernel
theorem dX4_raise_55 : decode cX4_raise 55 = .ok (.iload_n 2, 1) := by decide +kernel
theorem dX4_raise_56 : decode cX4_raise 56 = .ok (.invokevirtual 116, 3) := by decide +kernel
theorem dX4_raise_59 : decode cX4_raise 59 = .ok (.aload_n 0, 1) := by decide +kernel
theorem dX4_raise_60 : decode cX4_raise 60 = .ok (.getfield 12, 3) := by decide +kernel
theorem dX4_raise_63 : decode cX4_raise 63 = .ok (.aload_n 0, 1) := by decide +kernel
theorem dX4_raise_64 : decode cX4_raise 64 = .ok (.getfield 34, 3) := by decide +kernel
theorem dX4_raise_67 : decode cX4_raise 67 = .ok (.getfield 242, 3) := by decide +kernel
theorem dX4_raise_70 : decode cX4_raise 70 = .ok (.iload 4, 2) := by decide +kernel
theorem dX4_raise_72 : decode cX4_raise 72 = .ok (.iaload, 1) := by decide +kernel
theorem dX4_raise_73 : decode cX4_raise 73 = .ok (.aload_n 0, 1) := by decide +kernel
theorem dX4_raise_74 : decode cX4_raise 74 = .ok (.getfield 34, 3) := by decide +kernel
theorem dX4_raise_77 : decode cX4_raise 77 = .ok (.getfield 100, 3) := by decide +kernel
theorem dX4_raise_80 : decode cX4_raise 80 = .ok (.iload 4, 2) := by decide +kernel
theorem dX4_raise_82 : decode cX4_raise 82 = .ok (.iaload, 1) := by decide +kernel
theorem dX4_raise_83 : decode cX4_raise 83 = .ok (.iadd, 1) := by decide +kernel
theorem dX4_raise_84 : decode cX4_raise 84 = .ok (.iconst 1, 1) := by decide +kernel
theorem dX4_raise_85 : decode cX4_raise 85 = .ok (.iadd, 1) := by decide +kernel
theorem dX4_raise_86 : decode cX4_raise 86 = .ok (.invokevirtual 91, 3) := by decide +kernel
theorem dX4_raise_89 : decode cX4_raise 89 = .ok (.return_, 1) := by decide +kernel
theorem dX4_raise_90 : decode cX4_raise 90 = .ok (.aload_n 0, 1) := by decide +kernel
theorem dX4_raise_91 : decode cX4_raise 91 = .ok (.getfield 12, 3) := by decide +kernel
theorem dX4_raise_94 : decode cX4_raise 94 = .ok (.dup, 1) := by decide +kernel
theorem dX4_raise_95 : decode cX4_raise 95 = .ok (.getfield 60, 3) := by decide +kernel
theorem dX4_raise_98 : decode cX4_raise 98 = .ok (.iconst 1, 1) := by decide +kernel
theorem dX4_raise_99 : decode cX4_raise 99 = .ok (.isub, 1) := by decide +kernel
theorem dX4_raise_100 : decode cX4_raise 100 = .ok (.putfield 60, 3) := by decide +kernel
theorem dX4_raise_103 : decode cX4_raise 103 = .ok (.iinc 3 (-1), 3) := by decide +kernel
theorem dX4_raise_106 : decode cX4_raise 106 = .ok (.goto (-85), 3) := by decide +kernel
theorem dX4_raise_109 : decode cX4_raise 109 = .ok (.aload_n 0, 1) := by decide +kernel
theorem dX4_raise_110 : decode cX4_raise 110 = .ok (.getfield 18, 3) := by decide +kernel
theorem dX4_raise_113 : decode cX4_raise 113 = .ok (.bipush 7, 2) := by decide +kernel
theorem dX4_raise_115 : decode cX4_raise 115 = .ok (.iload_n 2, 1) := by decide +kernel
theorem dX4_raise_116 : decode cX4_raise 116 = .ok (.iastore, 1) := by decide +kernel
theorem dX4_raise_117 : decode cX4_raise 117 = .ok (.aload_n 0, 1) := by decide +kernel
theorem dX4_raise_118 : decode cX4_raise 118 = .ok (.bipush 7, 2) := by decide +kernel
theorem dX4_raise_120 : decode cX4_raise 120 = .ok (.iload_n 1, 1) := by decide +kernel
theorem dX4_raise_121 : decode cX4_raise 121 = .ok (.invokevirtual 87, 3) := by decide +kernel
theorem dX4_raise_124 : decode cX4_raise 124 = .ok (.return_, 1) := by decide +kernel
theorem dX4_guardFor_0 : decode cX4_guardFor 0 = .ok (.aload_n 0, 1) := by decide +kernel
theorem dX4_guardFor_1 : decode cX4_guardFor 1 = .ok (.getfield 12, 3) := by decide +kernel
theorem dX4_guardFor_4 : decode cX4_guardFor 4 = .ok (.invokevirtual 74, 3) := by decide +kernel
theorem dX4_guardFor_7 : decode cX4_guardFor 7 = .ok (.iconst 1, 1) := by decide +kernel
theorem dX4_guardFor_8 : decode cX4_guardFor 8 = .ok (.isub, 1) := by decide +kernel
theorem dX4_guardFor_9 : decode cX4_guardFor 9 = .ok (.istore_n 2, 1) := by decide +kernel
theorem dX4_guardFor_10 : decode cX4_guardFor 10 = .ok (.iload_n 2, 1) := by decide +kernel
theorem dX4_guardFor_11 : decode cX4_guardFor 11 = .ok (.iconst 1, 1) := by decide +kernel
theorem dX4_guardFor_12 : decode cX4_guardFor 12 = .ok (.isub, 1) := by decide +kernel
theorem dX4_guardFor_13 : decode cX4_guardFor 13 = .ok (.istore_n 3, 1) := by decide +kernel
theorem dX4_guardFor_14 : decode cX4_guardFor 14 = .ok (.iload_n 3, 1) := by decide +kernel
theorem dX4_guardFor_15 : decode cX4_guardFor 15 = .ok (.ifCond .lt 68, 3) := by decide +kernel
theorem dX4_guardFor_18 : decode cX4_guardFor 18 = .ok (.aload_n 0, 1) := by decide +kernel
theorem dX4_guardFor_19 : decode cX4_guardFor 19 = .ok (.getfield 34, 3) := by decide +kernel
theorem dX4_guardFor_22 : decode cX4_guardFor 22 = .ok (.aload_n 0, 1) := by decide +kernel
theorem dX4_guardFor_23 : decode cX4_guardFor 23 = .ok (.getfield 12, 3) := by decide +kernel
theorem dX4_guardFor_26 : decode cX4_guardFor 26 = .ok (.invokevirtual 70, 3) := by decide +kernel
theorem dX4_guardFor_29 : decode cX4_guardFor 29 = .ok (.iload_n 3, 1) := by decide +kernel
theorem dX4_guardFor_30 : decode cX4_guardFor 30 = .ok (.invokevirtual 77, 3) := by decide +kernel
theorem dX4_guardFor_33 : decode cX4_guardFor 33 = .ok (.istore 4, 2) := by decide +kernel
theorem dX4_guardFor_35 : decode cX4_guardFor 35 = .ok (.iload 4, 2) := by decide +kernel
theorem dX4_guardFor_37 : decode cX4_guardFor 37 = .ok (.ifCond .lt 40, 3) := by decide +kernel
theorem dX4_guardFor_40 : decode cX4_guardFor 40 = .ok (.aload_n 0, 1) := by decide +kernel
theorem dX4_guardFor_41 : decode cX4_guardFor 41 = .ok (.getfield 34, 3) := by decide +kernel
theorem dX4_guardFor_44 : decode cX4_guardFor 44 = .ok (.iload 4, 2) := by decide +kernel
theorem dX4_guardFor_46 : decode cX4_guardFor 46 = .ok (.iload_n 2, 1) := by decide +kernel
theorem dX4_guardFor_47 : decode cX4_guardFor 47 = .ok (.invokevirtual 245, 3) := by decide +kernel
theorem dX4_guardFor_50 : decode cX4_guardFor 50 = .ok (.ifCond .eq 27, 3) := by decide +kernel
theorem dX4_guardFor_53 : decode cX4_guardFor 53 = .ok (.aload_n 0, 1) := by decide +kernel
theorem dX4_guardFor_54 : decode cX4_guardFor 54 = .ok (.getfield 34, 3) := by decide +kernel
theorem dX4_guardFor_57 : decode cX4_guardFor 57 = .ok (.iload_n 1, 1) := by decide +kernel
theorem dX4_guardFor_58 : decode cX4_guardFor 58 = .ok (.aload_n 0, 1) := by decide +kernel
theorem dX4_guardFor_59 : decode cX4_guardFor 59 = .ok (.getfield 34, 3) := by decide +kernel
theorem dX4_guardFor_62 : decode cX4_guardFor 62 = .ok (.getfield 103, 3) := by decide +kernel
theorem dX4_guardFor_65 : decode cX4_guardFor 65 = .ok (.iload 4, 2) := by decide +kernel
theorem dX4_guardFor_67 : decode cX4_guardFor 67 = .ok (.iaload, 1) := by decide +kernel
theorem dX4_guardFor_68 : decode cX4_guardFor 68 = .ok (.invokevirtual 196, 3) := by decide +kernel
theorem dX4_guardFor_71 : decode cX4_guardFor 71 = .ok (.ifCond .eq 6, 3) := by decide +kernel
theorem dX4_guardFor_74 : decode cX4_guardFor 74 = .ok (.iload 4, 2) := by decide +kernel
theorem dX4_guardFor_76 : decode cX4_guardFor 76 = .ok (.ireturn, 1) := by decide +kernel
theorem dX4_guardFor_77 : decode cX4_guardFor 77 = .ok (.iinc 3 (-1), 3) := by decide +kernel
theorem dX4_guardFor_80 : decode cX4_guardFor 80 = .ok (.goto (-66), 3) := by decide +kernel
theorem dX4_guardFor_83 : decode cX4_guardFor 83 = .ok (.iconst (-1), 1) := by decide +kernel
theorem dX4_guardFor_84 : decode cX4_guardFor 84 = .ok (.ireturn, 1) := by decide +kernel
theorem dX4_fail_0 : decode cX4_fail 0 = .ok (.aload_n 0, 1) := by decide +kernel
theorem dX4_fail_1 : decode cX4_fail 1 = .ok (.getfield 18, 3) := by decide +kernel
theorem dX4_fail_4 : decode cX4_fail 4 = .ok (.iconst 0, 1) := by decide +kernel
theorem dX4_fail_5 : decode cX4_fail 5 = .ok (.iload_n 1, 1) := by decide +kernel
theorem dX4_fail_6 : decode cX4_fail 6 = .ok (.iastore, 1) := by decide +kernel
theorem dX4_fail_7 : decode cX4_fail 7 = .ok (.aload_n 0, 1) := by decide +kernel
theorem dX4_fail_8 : decode cX4_fail 8 = .ok (.getfield 18, 3) := by decide +kernel
theorem dX4_fail_11 : decode cX4_fail 11 = .ok (.bipush 6, 2) := by decide +kernel
theorem dX4_fail_13 : decode cX4_fail 13 = .ok (.iload_n 2, 1) := by decide +kernel
theorem dX4_fail_14 : decode cX4_fail 14 = .ok (.iastore, 1) := by decide +kernel
theorem dX4_fail_15 : decode cX4_fail 15 = .ok (.aload_n 0, 1) := by decide +kernel
theorem dX4_fail_16 : decode cX4_fail 16 = .ok (.iconst 0, 1) := by decide +kernel
theorem dX4_fail_17 : decode cX4_fail 17 = .ok (.putfield 30, 3) := by decide +kernel
theorem dX4_fail_20 : decode cX4_fail 20 = .ok (.return_, 1) := by decide +kernel
theorem dX4_setVar_0 : decode cX4_setVar 0 = .ok (.aload_n 0, 1) := by decide +kernel
theorem dX4_setVar_1 : decode cX4_setVar 1 = .ok (.getfield 12, 3) := by decide +kernel
theorem dX4_setVar_4 : decode cX4_setVar 4 = .ok (.iload_n 1, 1) := by decide +kernel
theorem dX4_setVar_5 : decode cX4_setVar 5 = .ok (.iload_n 2, 1) := by decide +kernel
theorem dX4_setVar_6 : decode cX4_setVar 6 = .ok (.invokevirtual 248, 3) := by decide +kernel
theorem dX4_setVar_9 : decode cX4_setVar 9 = .ok (.aload_n 0, 1) := by decide +kernel
theorem dX4_setVar_10 : decode cX4_setVar 10 = .ok (.getfield 12, 3) := by decide +kernel
theorem dX4_setVar_13 : decode cX4_setVar 13 = .ok (.invokevirtual 153, 3) := by decide +kernel
theorem dX4_setVar_16 : decode cX4_setVar 16 = .ok (.istore_n 3, 1) := by decide +kernel
theorem dX4_setVar_17 : decode cX4_setVar 17 = .ok (.aload_n 0, 1) := by decide +kernel
theorem dX4_setVar_18 : decode cX4_setVar 18 = .ok (.iload_n 2, 1) := by decide +kernel
theorem dX4_setVar_19 : decode cX4_setVar 19 = .ok (.iload_n 3, 1) := by decide +kernel
theorem dX4_setVar_20 : decode cX4_setVar 20 = .ok (.ifCond .ge 7, 3) := by decide +kernel
theorem dX4_setVar_23 : decode cX4_setVar 23 = .ok (.lconst 0, 1) := by decide +kernel
theorem dX4_setVar_24 : decode cX4_setVar 24 = .ok (.goto 12, 3) := by decide +kernel
theorem dX4_setVar_27 : decode cX4_setVar 27 = .ok (.aload_n 0, 1) := by decide +kernel
theorem dX4_setVar_28 : decode cX4_setVar 28 = .ok (.getfield 38, 3) := by decide +kernel
theorem dX4_setVar_31 : decode cX4_setVar 31 = .ok (.iload_n 3, 1) := by decide +kernel
theorem dX4_setVar_32 : decode cX4_setVar 32 = .ok (.iload_n 1, 1) := by decide +kernel
theorem dX4_setVar_33 : decode cX4_setVar 33 = .ok (.invokevirtual 249, 3) := by decide +kernel
theorem dX4_setVar_36 : decode cX4_setVar 36 = .ok (.invokevirtual 253, 3) := by decide +kernel
theorem dX4_setVar_39 : decode cX4_setVar 39 = .ok (.return_, 1) := by decide +kernel
theorem dX4_setInside_0 : decode cX4_setInside 0 = .ok (.aload_n 0, 1) := by decide +kernel
theorem dX4_setInside_1 : decode cX4_setInside 1 = .ok (.getfield 47, 3) := by decide +kernel
theorem dX4_setInside_4 : decode cX4_setInside 4 = .ok (.getfield 257, 3) := by decide +kernel
theorem dX4_setInside_7 : decode cX4_setInside 7 = .ok (.iload_n 1, 1) := by decide +kernel
theorem dX4_setInside_8 : decode cX4_setInside 8 = .ok (.iconst 5, 1) := by decide +kernel
theorem dX4_setInside_9 : decode cX4_setInside 9 = .ok (.imul, 1) := by decide +kernel
theorem dX4_setInside_10 : decode cX4_setInside 10 = .ok (.iload_n 2, 1) := by decide +kernel
theorem dX4_setInside_11 : decode cX4_setInside 11 = .ok (.iadd, 1) := by decide +kernel
theorem dX4_setInside_12 : decode cX4_setInside 12 = .ok (.iload 4, 2) := by decide +kernel
theorem dX4_setInside_14 : decode cX4_setInside 14 = .ok (.iastore, 1) := by decide +kernel
theorem dX4_setInside_15 : decode cX4_setInside 15 = .ok (.aload_n 0, 1) := by decide +kernel
theorem dX4_setInside_16 : decode cX4_setInside 16 = .ok (.getfield 47, 3) := by decide +kernel
theorem dX4_setInside_19 : decode cX4_setInside 19 = .ok (.getfield 210, 3) := by decide +kernel
theorem dX4_setInside_22 : decode cX4_setInside 22 = .ok (.iload_n 1, 1) := by decide +kernel
theorem dX4_setInside_23 : decode cX4_setInside 23 = .ok (.iaload, 1) := by decide +kernel
theorem dX4_setInside_24 : decode cX4_setInside 24 = .ok (.istore 5, 2) := by decide +kernel
theorem dX4_setInside_26 : decode cX4_setInside 26 = .ok (.aload_n 0, 1) := by decide +kernel
theorem dX4_setInside_27 : decode cX4_setInside 27 = .ok (.iload 4, 2) := by decide +kernel
theorem dX4_setInside_29 : decode cX4_setInside 29 = .ok (.iload 5, 2) := by decide +kernel
theorem dX4_setInside_31 : decode cX4_setInside 31 = .ok (.ifCond .ge 7, 3) := by decide +kernel
theorem dX4_setInside_34 : decode cX4_setInside 34 = .ok (.lconst 0, 1) := by decide +kernel
theorem dX4_setInside_35 : decode cX4_setInside 35 = .ok (.goto 13, 3) := by decide +kernel
theorem dX4_setInside_38 : decode cX4_setInside 38 = .ok (.aload_n 0, 1) := by decide +kernel
theorem dX4_setInside_39 : decode cX4_setInside 39 = .ok (.getfield 38, 3) := by decide +kernel
theorem dX4_setInside_42 : decode cX4_setInside 42 = .ok (.iload 5, 2) := by decide +kernel
theorem dX4_setInside_44 : decode cX4_setInside 44 = .ok (.iload_n 3, 1) := by decide +kernel
theorem dX4_setInside_45 : decode cX4_setInside 45 = .ok (.invokevirtual 260, 3) := by decide +kernel
theorem dX4_setInside_48 : decode cX4_setInside 48 = .ok (.invokevirtual 253, 3) := by decide +kernel
theorem dX4_setInside_51 : decode cX4_setInside 51 = .ok (.return_, 1) := by decide +kernel
theorem dX4_setGlobal_0 : decode cX4_setGlobal 0 = .ok (.aload_n 0, 1) := by decide +kernel
theorem dX4_setGlobal_1 : decode cX4_setGlobal 1 = .ok (.getfield 47, 3) := by decide +kernel
theorem dX4_setGlobal_4 : decode cX4_setGlobal 4 = .ok (.getfield 147, 3) := by decide +kernel
theorem dX4_setGlobal_7 : decode cX4_setGlobal 7 = .ok (.iload_n 1, 1) := by decide +kernel
theorem dX4_setGlobal_8 : decode cX4_setGlobal 8 = .ok (.iload_n 2, 1) := by decide +kernel
theorem dX4_setGlobal_9 : decode cX4_setGlobal 9 = .ok (.iastore, 1) := by decide +kernel
theorem dX4_setGlobal_10 : decode cX4_setGlobal 10 = .ok (.aload_n 0, 1) := by decide +kernel
theorem dX4_setGlobal_11 : decode cX4_setGlobal 11 = .ok (.iload_n 2, 1) := by decide +kernel
theorem dX4_setGlobal_12 : decode cX4_setGlobal 12 = .ok (.aload_n 0, 1) := by decide +kernel
theorem dX4_setGlobal_13 : decode cX4_setGlobal 13 = .ok (.getfield 38, 3) := by decide +kernel
theorem dX4_setGlobal_16 : decode cX4_setGlobal 16 = .ok (.getfield 263, 3) := by decide +kernel
theorem dX4_setGlobal_19 : decode cX4_setGlobal 19 = .ok (.iload_n 1, 1) := by decide +kernel
theorem dX4_setGlobal_20 : decode cX4_setGlobal 20 = .ok (.laload, 1) := by decide +kernel
theorem dX4_setGlobal_21 : decode cX4_setGlobal 21 = .ok (.invokevirtual 253, 3) := by decide +kernel
theorem dX4_setGlobal_24 : decode cX4_setGlobal 24 = .ok (.return_, 1) := by decide +kernel
theorem dX4_tallyHold_0 : decode cX4_tallyHold 0 = .ok (.iload_n 1, 1) := by decide +kernel
theorem dX4_tallyHold_1 : decode cX4_tallyHold 1 = .ok (.bipush (-9), 2) := by decide +kernel
theorem dX4_tallyHold_3 : decode cX4_tallyHold 3 = .ok (.if_icmp .ne 4, 3) := by decide +kernel
theorem dX4_tallyHold_6 : decode cX4_tallyHold 6 = .ok (.return_, 1) := by decide +kernel
theorem dX4_tallyHold_7 : decode cX4_tallyHold 7 = .ok (.aload_n 0, 1) := by decide +kernel
theorem dX4_tallyHold_8 : decode cX4_tallyHold 8 = .ok (.getfield 18, 3) := by decide +kernel
theorem dX4_tallyHold_11 : decode cX4_tallyHold 11 = .ok (.iconst 3, 1) := by decide +kernel
theorem dX4_tallyHold_12 : decode cX4_tallyHold 12 = .ok (.dup2, 1) := by decide +kernel
theorem dX4_tallyHold_13 : decode cX4_tallyHold 13 = .ok (.iaload, 1) := by decide +kernel
theorem dX4_tallyHold_14 : decode cX4_tallyHold 14 = .ok (.iconst 1, 1) := by decide +kernel
theorem dX4_tallyHold_15 : decode cX4_tallyHold 15 = .ok (.iadd, 1) := by decide +kernel
theorem dX4_tallyHold_16 : decode cX4_tallyHold 16 = .ok (.iastore, 1) := by decide +kernel
theorem dX4_tallyHold_17 : decode cX4_tallyHold 17 = .ok (.aload_n 0, 1) := by decide +kernel
theorem dX4_tallyHold_18 : decode cX4_tallyHold 18 = .ok (.getfield 47, 3) := by decide +kernel
theorem dX4_tallyHold_21 : decode cX4_tallyHold 21 = .ok (.getfield 210, 3) := by decide +kernel
theorem dX4_tallyHold_24 : decode cX4_tallyHold 24 = .ok (.iload_n 1, 1) := by decide +kernel
theorem dX4_tallyHold_25 : decode cX4_tallyHold 25 = .ok (.iaload, 1) := by decide +kernel
theorem dX4_tallyHold_26 : decode cX4_tallyHold 26 = .ok (.istore 4, 2) := by decide +kernel
theorem dX4_tallyHold_28 : decode cX4_tallyHold 28 = .ok (.iload 4, 2) := by decide +kernel
theorem dX4_tallyHold_30 : decode cX4_tallyHold 30 = .ok (.ifCond .lt 14, 3) := by decide +kernel
theorem dX4_tallyHold_33 : decode cX4_tallyHold 33 = .ok (.lload_n 2, 1) := by decide +kernel
theorem dX4_tallyHold_34 : decode cX4_tallyHold 34 = .ok (.iload 4, 2) := by decide +kernel
theorem dX4_tallyHold_36 : decode cX4_tallyHold 36 = .ok (.lshr, 1) := by decide +kernel
theorem dX4_tallyHold_37 : decode cX4_tallyHold 37 = .ok (.lconst 1, 1) := by decide +kernel
theorem dX4_tallyHold_38 : decode cX4_tallyHold 38 = .ok (.land, 1) := by decide +kernel
theorem dX4_tallyHold_39 : decode cX4_tallyHold 39 = .ok (.lconst 0, 1) := by decide +kernel
theorem dX4_tallyHold_40 : decode cX4_tallyHold 40 = .ok (.lcmp, 1) := by decide +kernel
theorem dX4_tallyHold_41 : decode cX4_tallyHold 41 = .ok (.ifCond .ne 13, 3) := by decide +kernel
theorem dX4_tallyHold_44 : decode cX4_tallyHold 44 = .ok (.aload_n 0, 1) := by decide +kernel
theorem dX4_tallyHold_45 : decode cX4_tallyHold 45 = .ok (.getfield 18, 3) := by decide +kernel
theorem dX4_tallyHold_48 : decode cX4_tallyHold 48 = .ok (.iconst 4, 1) := by decide +kernel
theorem dX4_tallyHold_49 : decode cX4_tallyHold 49 = .ok (.dup2, 1) := by decide +kernel
theorem dX4_tallyHold_50 : decode cX4_tallyHold 50 = .ok (.iaload, 1) := by decide +kernel
theorem dX4_tallyHold_51 : decode cX4_tallyHold 51 = .ok (.iconst 1, 1) := by decide +kernel
theorem dX4_tallyHold_52 : decode cX4_tallyHold 52 = .ok (.iadd, 1) := by decide +kernel
theorem dX4_tallyHold_53 : decode cX4_tallyHold 53 = .ok (.iastore, 1) := by decide +kernel
theorem dX4_tallyHold_54 : decode cX4_tallyHold 54 = .ok (.return_, 1) := by decide +kernel
theorem dX5_init_0 : decode cX5_init 0 = .ok (.aload_n 0, 1) := by decide +kernel
theorem dX5_init_1 : decode cX5_init 1 = .ok (.invokespecial 3, 3) := by decide +kernel
theorem dX5_init_4 : decode cX5_init 4 = .ok (.aload_n 0, 1) := by decide +kernel
theorem dX5_init_5 : decode cX5_init 5 = .ok (.iconst 0, 1) := by decide +kernel
theorem dX5_init_6 : decode cX5_init 6 = .ok (.putfield 9, 3) := by decide +kernel
theorem dX5_init_9 : decode cX5_init 9 = .ok (.aload_n 0, 1) := by decide +kernel
theorem dX5_init_10 : decode cX5_init 10 = .ok (.iconst 0, 1) := by decide +kernel
theorem dX5_init_11 : decode cX5_init 11 = .ok (.putfield 15, 3) := by decide +kernel
theorem dX5_init_14 : decode cX5_init 14 = .ok (.aload_n 0, 1) := by decide +kernel
theorem dX5_init_15 : decode cX5_init 15 = .ok (.iconst 0, 1) := by decide +kernel
theorem dX5_init_16 : decode cX5_init 16 = .ok (.putfield 18, 3) := by decide +kernel
theorem dX5_init_19 : decode cX5_init 19 = .ok (.aload_n 0, 1) := by decide +kernel
theorem dX5_init_20 : decode cX5_init 20 = .ok (.iconst 0, 1) := by decide +kernel
theorem dX5_init_21 : decode cX5_init 21 = .ok (.putfield 21, 3) := by decide +kernel
theorem dX5_init_24 : decode cX5_init 24 = .ok (.aload_n 0, 1) := by decide +kernel
theorem dX5_init_25 : decode cX5_init 25 = .ok (.iconst 0, 1) := by decide +kernel
theorem dX5_init_26 : decode cX5_init 26 = .ok (.putfield 24, 3) := by decide +kernel
theorem dX5_init_29 : decode cX5_init 29 = .ok (.aload_n 0, 1) := by decide +kernel
theorem dX5_init_30 : decode cX5_init 30 = .ok (.bipush 80, 2) := by decide +kernel
theorem dX5_init_32 : decode cX5_init 32 = .ok (.newarray .int, 2) := by decide +kernel
theorem dX5_init_34 : decode cX5_init 34 = .ok (.putfield 28, 3) := by decide +kernel
theorem dX5_init_37 : decode cX5_init 37 = .ok (.aload_n 0, 1) := by decide +kernel
theorem dX5_init_38 : decode cX5_init 38 = .ok (.bipush 80, 2) := by decide +kernel
theorem dX5_init_40 : decode cX5_init 40 = .ok (.newarray .int, 2) := by decide +kernel
theorem dX5_init_42 : decode cX5_init 42 = .ok (.putfield 32, 3) := by decide +kernel
theorem dX5_init_45 : decode cX5_init 45 = .ok (.aload_n 0, 1) := by decide +kernel
theorem dX5_init_46 : decode cX5_init 46 = .ok (.bipush 60, 2) := by decide +kernel
theorem dX5_init_48 : decode cX5_init 48 = .ok (.newarray .int, 2) := by decide +kernel
theorem dX5_init_50 : decode cX5_init 50 = .ok (.putfield 35, 3) := by decide +kernel
theorem dX5_init_53 : decode cX5_init 53 = .ok (.aload_n 0, 1) := by decide +kernel
theorem dX5_init_54 : decode cX5_init 54 = .ok (.bipush 60, 2) := by decide +kernel
theorem dX5_init_56 : decode cX5_init 56 = .ok (.newarray .int, 2) := by decide +kernel
theorem dX5_init_58 : decode cX5_init 58 = .ok (.putfield 38, 3) := by decide +kernel
theorem dX5_init_61 : decode cX5_init 61 = .ok (.return_, 1) := by decide +kernel
theorem dX5_clear_0 : decode cX5_clear 0 = .ok (.aload_n 0, 1) := by decide +kernel
theorem dX5_clear_1 : decode cX5_clear 1 = .ok (.iload_n 1, 1) := by decide +kernel
theorem dX5_clear_2 : decode cX5_clear 2 = .ok (.putfield 9, 3) := by decide +kernel
theorem dX5_clear_5 : decode cX5_clear 5 = .ok (.aload_n 0, 1) := by decide +kernel
theorem dX5_clear_6 : decode cX5_clear 6 = .ok (.iload_n 2, 1) := by decide +kernel
theorem dX5_clear_7 : decode cX5_clear 7 = .ok (.putfield 15, 3) := by decide +kernel
theorem dX5_clear_10 : decode cX5_clear 10 = .ok (.aload_n 0, 1) := by decide +kernel
theorem dX5_clear_11 : decode cX5_clear 11 = .ok (.iconst 0, 1) := by decide +kernel
theorem dX5_clear_12 : decode cX5_clear 12 = .ok (.putfield 18, 3) := by decide +kernel
theorem dX5_clear_15 : decode cX5_clear 15 = .ok (.aload_n 0, 1) := by decide +kernel
theorem dX5_clear_16 : decode cX5_clear 16 = .ok (.iconst 0, 1) := by decide +kernel
theorem dX5_clear_17 : decode cX5_clear 17 = .ok (.putfield 21, 3) := by decide +kernel
theorem dX5_clear_20 : decode cX5_clear 20 = .ok (.aload_n 0, 1) := by decide +kernel
theorem dX5_clear_21 : decode cX5_clear 21 = .ok (.iconst 0, 1) := by decide +kernel
theorem dX5_clear_22 : decode cX5_clear 22 = .ok (.putfield 24, 3) := by decide +kernel
theorem dX5_clear_25 : decode cX5_clear 25 = .ok (.return_, 1) := by decide +kernel
theorem dX5_firstNumber_0 : decode cX5_firstNumber 0 = .ok (.aload_n 0, 1) := by decide +kernel
theorem dX5_firstNumber_1 : decode cX5_firstNumber 1 = .ok (.getfield 32, 3) := by decide +kernel
theorem dX5_firstNumber_4 : decode cX5_firstNumber 4 = .ok (.iload_n 1, 1) := by decide +kernel
theorem dX5_firstNumber_5 : decode cX5_firstNumber 5 = .ok (.iaload, 1) := by decide +kernel
theorem dX5_firstNumber_6 : decode cX5_firstNumber 6 = .ok (.bipush 8, 2) := by decide +kernel
theorem dX5_firstNumber_8 : decode cX5_firstNumber 8 = .ok (.ishr, 1) := by decide +kernel
theorem dX5_firstNumber_9 : decode cX5_firstNumber 9 = .ok (.istore_n 2, 1) := by decide +kernel
theorem dX5_firstNumber_10 : decode cX5_firstNumber 10 = .ok (.iload_n 2, 1) := by decide +kernel
theorem dX5_firstNumber_11 : decode cX5_firstNumber 11 = .ok (.ifCond .ne 8, 3) := by decide +kernel
theorem dX5_firstNumber_14 : decode cX5_firstNumber 14 = .ok (.bipush (-9), 2) := by decide +kernel
theorem dX5_firstNumber_16 : decode cX5_firstNumber 16 = .ok (.goto 6, 3) := by decide +kernel
theorem dX5_firstNumber_19 : decode cX5_firstNumber 19 = .ok (.iload_n 2, 1) := by decide +kernel
theorem dX5_firstNumber_20 : decode cX5_firstNumber 20 = .ok (.iconst 1, 1) := by decide +kernel
theorem dX5_firstNumber_21 : decode cX5_firstNumber 21 = .ok (.isub, 1) := by decide +kernel
theorem dX5_firstNumber_22 : decode cX5_firstNumber 22 = .ok (.ireturn, 1) := by decide +kernel
theorem dX5_secondNumber_0 : decode cX5_secondNumber 0 = .ok (.aload_n 0, 1) := by decide +kernel
theorem dX5_secondNumber_1 : decode cX5_secondNumber 1 = .ok (.getfield 32, 3) := by decide +kernel
theorem dX5_secondNumber_4 : decode cX5_secondNumber 4 = .ok (.iload_n 1, 1) := by decide +kernel
theorem dX5_secondNumber_5 : decode cX5_secondNumber 5 = .ok (.iaload, 1) := by decide +kernel
theorem dX5_secondNumber_6 : decode cX5_secondNumber 6 = .ok (.sipush 255, 3) := by decide +kernel
theorem dX5_secondNumber_9 : decode cX5_secondNumber 9 = .ok (.iand, 1) := by decide +kernel
theorem dX5_secondNumber_10 : decode cX5_secondNumber 10 = .ok (.istore_n 2, 1) := by decide +kernel
theorem dX5_secondNumber_11 : decode cX5_secondNumber 11 = .ok (.iload_n 2, 1) := by decide +kernel
theorem dX5_secondNumber_12 : decode cX5_secondNumber 12 = .ok (.ifCond .ne 8, 3) := by decide +kernel
theorem dX5_secondNumber_15 : decode cX5_secondNumber 15 = .ok (.bipush (-9), 2) := by decide +kernel
theorem dX5_secondNumber_17 : decode cX5_secondNumber 17 = .ok (.goto 6, 3) := by decide +kernel
theorem dX5_secondNumber_20 : decode cX5_secondNumber 20 = .ok (.iload_n 2, 1) := by decide +kernel
theorem dX5_secondNumber_21 : decode cX5_secondNumber 21 = .ok (.iconst 1, 1) := by decide +kernel
theorem dX5_secondNumber_22 : decode cX5_secondNumber 22 = .ok (.isub, 1) := by decide +kernel
theorem dX5_secondNumber_23 : decode cX5_secondNumber 23 = .ok (.ireturn, 1) := by decide +kernel
theorem dX5_contextOfAsked_0 : decode cX5_contextOfAsked 0 = .ok (.aload_n 0, 1) := by decide +kernel
theorem dX5_contextOfAsked_1 : decode cX5_contextOfAsked 1 = .ok (.getfield 9, 3) := by decide +kernel
theorem dX5_contextOfAsked_4 : decode cX5_contextOfAsked 4 = .ok (.ifCond .ne 15, 3) := by decide +kernel
theorem dX5_contextOfAsked_7 : decode cX5_contextOfAsked 7 = .ok (.aload_n 0, 1) := by decide +kernel
theorem dX5_contextOfAsked_8 : decode cX5_contextOfAsked 8 = .ok (.iload_n 2, 1) := by decide +kernel
theorem dX5_contextOfAsked_9 : decode cX5_contextOfAsked 9 = .ok (.aload_n 0, 1) := by decide +kernel
theorem dX5_contextOfAsked_10 : decode cX5_contextOfAsked 10 = .ok (.getfield 32, 3) := by decide +kernel
theorem dX5_contextOfAsked_13 : decode cX5_contextOfAsked 13 = .ok (.iload_n 1, 1) := by decide +kernel
theorem dX5_contextOfAsked_14 : decode cX5_contextOfAsked 14 = .ok (.iaload, 1) := by decide +kernel
theorem dX5_contextOfAsked_15 : decode cX5_contextOfAsked 15 = .ok (.invokevirtual 41, 3) := by decide +kernel
theorem dX5_contextOfAsked_18 : decode cX5_contextOfAsked 18 = .ok (.ireturn, 1) := by decide +kernel
theorem dX5_contextOfAsked_19 : decode cX5_contextOfAsked 19 = .ok (.aload_n 0, 1) := by decide +kernel
theorem dX5_contextOfAsked_20 : decode cX5_contextOfAsked 20 = .ok (.aload_n 0, 1) := by decide +kernel
theorem dX5_contextOfAsked_21 : decode cX5_contextOfAsked 21 = .ok (.getfield 35, 3) := by decide +kernel
theorem dX5_contextOfAsked_24 : decode cX5_contextOfAsked 24 = .ok (.iload_n 3, 1) := by decide +kernel
theorem dX5_contextOfAsked_25 : decode cX5_contextOfAsked 25 = .ok (.iaload, 1) := by decide +kernel
theorem dX5_contextOfAsked_26 : decode cX5_contextOfAsked 26 = .ok (.bipush 100, 2) := by decide +kernel
theorem dX5_contextOfAsked_28 : decode cX5_contextOfAsked 28 = .ok (.iadd, 1) := by decide +kernel
theorem dX5_contextOfAsked_29 : decode cX5_contextOfAsked 29 = .ok (.aload_n 0, 1) := by decide +kernel
theorem dX5_contextOfAsked_30 : decode cX5_contextOfAsked 30 = .ok (.getfield 32, 3) := by decide +kernel
theorem dX5_contextOfAsked_33 : decode cX5_contextOfAsked 33 = .ok (.aload_n 0, 1) := by decide +kernel
theorem dX5_contextOfAsked_34 : decode cX5_contextOfAsked 34 = .ok (.getfield 38, 3) := by decide +kernel
theorem dX5_contextOfAsked_37 : decode cX5_contextOfAsked 37 = .ok (.iload_n 3, 1) := by decide +kernel
theorem dX5_contextOfAsked_38 : decode cX5_contextOfAsked 38 = .ok (.iaload, 1) := by decide +kernel
theorem dX5_contextOfAsked_39 : decode cX5_contextOfAsked 39 = .ok (.iaload, 1) := by decide +kernel
theorem dX5_contextOfAsked_40 : decode cX5_contextOfAsked 40 = .ok (.invokevirtual 41, 3) := by decide +kernel
theorem dX5_contextOfAsked_43 : decode cX5_contextOfAsked 43 = .ok (.ireturn, 1) := by decide +kernel
theorem dX5_contextOfCalled_0 : decode cX5_contextOfCalled 0 = .ok (.aload_n 0, 1) := by decide +kernel
theorem dX5_contextOfCalled_1 : decode cX5_contextOfCalled 1 = .ok (.getfield 9, 3) := by decide +kernel
theorem dX5_contextOfCalled_4 : decode cX5_contextOfCalled 4 = .ok (.iconst 1, 1) := by decide +kernel
theorem dX5_contextOfCalled_5 : decode cX5_contextOfCalled 5 = .ok (.if_icmp .ne 12, 3) := by decide +kernel
theorem dX5_contextOfCalled_8 : decode cX5_contextOfCalled 8 = .ok (.aload_n 0, 1) := by decide +kernel
theorem dX5_contextOfCalled_9 : decode cX5_contextOfCalled 9 = .ok (.getfield 32, 3) := by decide +kernel
theorem dX5_contextOfCalled_12 : decode cX5_contextOfCalled 12 = .ok (.iload_n 1, 1) := by decide +kernel
theorem dX5_contextOfCalled_13 : decode cX5_contextOfCalled 13 = .ok (.iaload, 1) := by decide +kernel
theorem dX5_contextOfCalled_14 : decode cX5_contextOfCalled 14 = .ok (.goto 14, 3) := by decide +kernel
theorem dX5_contextOfCalled_17 : decode cX5_contextOfCalled 17 = .ok (.aload_n 0, 1) := by decide +kernel
theorem dX5_contextOfCalled_18 : decode cX5_contextOfCalled 18 = .ok (.iload_n 2, 1) := by decide +kernel
theorem dX5_contextOfCalled_19 : decode cX5_contextOfCalled 19 = .ok (.aload_n 0, 1) := by decide +kernel
theorem dX5_contextOfCalled_20 : decode cX5_contextOfCalled 20 = .ok (.getfield 32, 3) := by decide +kernel
theorem dX5_contextOfCalled_23 : decode cX5_contextOfCalled 23 = .ok (.iload_n 1, 1) := by decide +kernel
theorem dX5_contextOfCalled_24 : decode cX5_contextOfCalled 24 = .ok (.iaload, 1) := by decide +kernel
theorem dX5_contextOfCalled_25 : decode cX5_contextOfCalled 25 = .ok (.invokevirtual 41, 3) := by decide +kernel
theorem dX5_contextOfCalled_28 : decode cX5_contextOfCalled 28 = .ok (.ireturn, 1) := by decide +kernel
theorem dX5_ahead_0 : decode cX5_ahead 0 = .ok (.iload_n 1, 1) := by decide +kernel
theorem dX5_ahead_1 : decode cX5_ahead 1 = .ok (.iconst 1, 1) := by decide +kernel
theorem dX5_ahead_2 : decode cX5_ahead 2 = .ok (.iadd, 1) := by decide +kernel
theorem dX5_ahead_3 : decode cX5_ahead 3 = .ok (.bipush 8, 2) := by decide +kernel
theorem dX5_ahead_5 : decode cX5_ahead 5 = .ok (.ishl, 1) := by decide +kernel
theorem dX5_ahead_6 : decode cX5_ahead 6 = .ok (.istore_n 3, 1) := by decide +kernel
theorem dX5_ahead_7 : decode cX5_ahead 7 = .ok (.aload_n 0, 1) := by decide +kernel
theorem dX5_ahead_8 : decode cX5_ahead 8 = .ok (.getfield 15, 3) := by decide +kernel
theorem dX5_ahead_11 : decode cX5_ahead 11 = .ok (.lookupswitch 29 #[(0, 25), (1, 27)], 25) := by decide +kernel
theorem dX5_ahead_36 : decode cX5_ahead 36 = .ok (.iconst 0, 1) := by decide +kernel
theorem dX5_ahead_37 : decode cX5_ahead 37 = .ok (.ireturn, 1) := by decide +kernel
theorem dX5_ahead_38 : decode cX5_ahead 38 = .ok (.iload_n 3, 1) := by decide +kernel
theorem dX5_ahead_39 : decode cX5_ahead 39 = .ok (.ireturn, 1) := by decide +kernel
theorem dX5_ahead_40 : decode cX5_ahead 40 = .ok (.iload_n 3, 1) := by decide +kernel
theorem dX5_ahead_41 : decode cX5_ahead 41 = .ok (.iload_n 2, 1) := by decide +kernel
theorem dX5_ahead_42 : decode cX5_ahead 42 = .ok (.bipush 8, 2) := by decide +kernel
theorem dX5_ahead_44 : decode cX5_ahead 44 = .ok (.ishr, 1) := by decide +kernel
theorem dX5_ahead_45 : decode cX5_ahead 45 = .ok (.ior, 1) := by decide +kernel
theorem dX5_ahead_46 : decode cX5_ahead 46 = .ok (.ireturn, 1) := by decide +kernel
theorem dX5_nodeWith_0 : decode cX5_nodeWith 0 = .ok (.iconst 0, 1) := by decide +kernel
theorem dX5_nodeWith_1 : decode cX5_nodeWith 1 = .ok (.istore_n 3, 1) := by decide +kernel
theorem dX5_nodeWith_2 : decode cX5_nodeWith 2 = .ok (.iload_n 3, 1) := by decide +kernel
theorem dX5_nodeWith_3 : decode cX5_nodeWith 3 = .ok (.aload_n 0, 1) := by decide +kernel
theorem dX5_nodeWith_4 : decode cX5_nodeWith 4 = .ok (.getfield 18, 3) := by decide +kernel
theorem dX5_nodeWith_7 : decode cX5_nodeWith 7 = .ok (.if_icmp .ge 31, 3) := by decide +kernel
theorem dX5_nodeWith_10 : decode cX5_nodeWith 10 = .ok (.aload_n 0, 1) := by decide +kernel
theorem dX5_nodeWith_11 : decode cX5_nodeWith 11 = .ok (.getfield 28, 3) := by decide +kernel
theorem dX5_nodeWith_14 : decode cX5_nodeWith 14 = .ok (.iload_n 3, 1) := by decide +kernel
theorem dX5_nodeWith_15 : decode cX5_nodeWith 15 = .ok (.iaload, 1) := by decide +kernel
theorem dX5_nodeWith_16 : decode cX5_nodeWith 16 = .ok (.iload_n 1, 1) := by decide +kernel
theorem dX5_nodeWith_17 : decode cX5_nodeWith 17 = .ok (.if_icmp .ne 15, 3) := by decide +kernel
theorem dX5_nodeWith_20 : decode cX5_nodeWith 20 = .ok (.aload_n 0, 1) := by decide +kernel
theorem dX5_nodeWith_21 : decode cX5_nodeWith 21 = .ok (.getfield 32, 3) := by decide +kernel
theorem dX5_nodeWith_24 : decode cX5_nodeWith 24 = .ok (.iload_n 3, 1) := by decide +kernel
theorem dX5_nodeWith_25 : decode cX5_nodeWith 25 = .ok (.iaload, 1) := by decide +kernel
theorem dX5_nodeWith_26 : decode cX5_nodeWith 26 = .ok (.iload_n 2, 1) := by decide +kernel
theorem dX5_nodeWith_27 : decode cX5_nodeWith 27 = .ok (.if_icmp .ne 5, 3) := by decide +kernel
theorem dX5_nodeWith_30 : decode cX5_nodeWith 30 = .ok (.iload_n 3, 1) := by decide +kernel
theorem dX5_nodeWith_31 : decode cX5_nodeWith 31 = .ok (.ireturn, 1) := by decide +kernel
theorem dX5_nodeWith_32 : decode cX5_nodeWith 32 = .ok (.iinc 3 1, 3) := by decide +kernel
theorem dX5_nodeWith_35 : decode cX5_nodeWith 35 = .ok (.goto (-33), 3) := by decide +kernel
theorem dX5_nodeWith_38 : decode cX5_nodeWith 38 = .ok (.iconst (-1), 1) := by decide +kernel
theorem dX5_nodeWith_39 : decode cX5_nodeWith 39 = .ok (.ireturn, 1) := by decide +kernel
theorem dX5_nameWith_0 : decode cX5_nameWith 0 = .ok (.iconst 0, 1) := by decide +kernel
theorem dX5_nameWith_1 : decode cX5_nameWith 1 = .ok (.istore_n 3, 1) := by decide +kernel
theorem dX5_nameWith_2 : decode cX5_nameWith 2 = .ok (.iload_n 3, 1) := by decide +kernel
theorem dX5_nameWith_3 : decode cX5_nameWith 3 = .ok (.aload_n 0, 1) := by decide +kernel
theorem dX5_nameWith_4 : decode cX5_nameWith 4 = .ok (.getfield 21, 3) := by decide +kernel
theorem dX5_nameWith_7 : decode cX5_nameWith 7 = .ok (.if_icmp .ge 31, 3) := by decide +kernel
theorem dX5_nameWith_10 : decode cX5_nameWith 10 = .ok (.aload_n 0, 1) := by decide +kernel
theorem dX5_nameWith_11 : decode cX5_nameWith 11 = .ok (.getfield 35, 3) := by decide +kernel
theorem dX5_nameWith_14 : decode cX5_nameWith 14 = .ok (.iload_n 3, 1) := by decide +kernel
theorem dX5_nameWith_15 : decode cX5_nameWith 15 = .ok (.iaload, 1) := by decide +kernel
theorem dX5_nameWith_16 : decode cX5_nameWith 16 = .ok (.iload_n 2, 1) := by decide +kernel
theorem dX5_nameWith_17 : decode cX5_nameWith 17 = .ok (.if_icmp .ne 15, 3) := by decide +kernel
theorem dX5_nameWith_20 : decode cX5_nameWith 20 = .ok (.aload_n 0, 1) := by decide +kernel
theorem dX5_nameWith_21 : decode cX5_nameWith 21 = .ok (.getfield 38, 3) := by decide +kernel
theorem dX5_nameWith_24 : decode cX5_nameWith 24 = .ok (.iload_n 3, 1) := by decide +kernel
theorem dX5_nameWith_25 : decode cX5_nameWith 25 = .ok (.iaload, 1) := by decide +kernel
theorem dX5_nameWith_26 : decode cX5_nameWith 26 = .ok (.iload_n 1, 1) := by decide +kernel
theorem dX5_nameWith_27 : decode cX5_nameWith 27 = .ok (.if_icmp .ne 5, 3) := by decide +kernel
theorem dX5_nameWith_30 : decode cX5_nameWith 30 = .ok (.iload_n 3, 1) := by decide +kernel
theorem dX5_nameWith_31 : decode cX5_nameWith 31 = .ok (.ireturn, 1) := by decide +kernel
theorem dX5_nameWith_32 : decode cX5_nameWith 32 = .ok (.iinc 3 1, 3) := by decide +kernel
theorem dX5_nameWith_35 : decode cX5_nameWith 35 = .ok (.goto (-33), 3) := by decide +kernel
theorem dX5_nameWith_38 : decode cX5_nameWith 38 = .ok (.iconst (-1), 1) := by decide +kernel
theorem dX5_nameWith_39 : decode cX5_nameWith 39 = .ok (.ireturn, 1) := by decide +kernel
theorem dX5_addNode_0 : decode cX5_addNode 0 = .ok (.aload_n 0, 1) := by decide +kernel
theorem dX5_addNode_1 : decode cX5_addNode 1 = .ok (.getfield 18, 3) := by decide +kernel
theorem dX5_addNode_4 : decode cX5_addNode 4 = .ok (.bipush 80, 2) := by decide +kernel
theorem dX5_addNode_6 : decode cX5_addNode 6 = .ok (.if_icmp .lt 10, 3) := by decide +kernel
theorem dX5_addNode_9 : decode cX5_addNode 9 = .ok (.aload_n 0, 1) := by decide +kernel
theorem dX5_addNode_10 : decode cX5_addNode 10 = .ok (.iconst 1, 1) := by decide +kernel
theorem dX5_addNode_11 : decode cX5_addNode 11 = .ok (.putfield 24, 3) := by decide +kernel
theorem dX5_addNode_14 : decode cX5_addNode 14 = .ok (.iconst (-1), 1) := by decide +kernel
theorem dX5_addNode_15 : decode cX5_addNode 15 = .ok (.ireturn, 1) := by decide +kernel
theorem dX5_addNode_16 : decode cX5_addNode 16 = .ok (.aload_n 0, 1) := by decide +kernel
theorem dX5_addNode_17 : decode cX5_addNode 17 = .ok (.getfield 28, 3) := by decide +kernel
theorem dX5_addNode_20 : decode cX5_addNode 20 = .ok (.aload_n 0, 1) := by decide +kernel
theorem dX5_addNode_21 : decode cX5_addNode 21 = .ok (.getfield 18, 3) := by decide +kernel
theorem dX5_addNode_24 : decode cX5_addNode 24 = .ok (.iload_n 1, 1) := by decide +kernel
theorem dX5_addNode_25 : decode cX5_addNode 25 = .ok (.iastore, 1) := by decide +kernel
theorem dX5_addNode_26 : decode cX5_addNode 26 = .ok (.aload_n 0, 1) := by decide +kernel
theorem dX5_addNode_27 : decode cX5_addNode 27 = .ok (.getfield 32, 3) := by decide +kernel
theorem dX5_addNode_30 : decode cX5_addNode 30 = .ok (.aload_n 0, 1) := by decide +kernel
theorem dX5_addNode_31 : decode cX5_addNode 31 = .ok (.getfield 18, 3) := by decide +kernel
theorem dX5_addNode_34 : decode cX5_addNode 34 = .ok (.iload_n 2, 1) := by decide +kernel
theorem dX5_addNode_35 : decode cX5_addNode 35 = .ok (.iastore, 1) := by decide +kernel
theorem dX5_addNode_36 : decode cX5_addNode 36 = .ok (.aload_n 0, 1) := by decide +kernel
theorem dX5_addNode_37 : decode cX5_addNode 37 = .ok (.dup, 1) := by decide +kernel
theorem dX5_addNode_38 : decode cX5_addNode 38 = .ok (.getfield 18, 3) := by decide +kernel
theorem dX5_addNode_41 : decode cX5_addNode 41 = .ok (.iconst 1, 1) := by decide +kernel
theorem dX5_addNode_42 : decode cX5_addNode 42 = .ok (.iadd, 1) := by decide +kernel
theorem dX5_addNode_43 : decode cX5_addNode 43 = .ok (.putfield 18, 3) := by decide +kernel
theorem dX5_addNode_46 : decode cX5_addNode 46 = .ok (.aload_n 0, 1) := by decide +kernel
theorem dX5_addNode_47 : decode cX5_addNode 47 = .ok (.getfield 18, 3) := by decide +kernel
theorem dX5_addNode_50 : decode cX5_addNode 50 = .ok (.iconst 1, 1) := by decide +kernel
theorem dX5_addNode_51 : decode cX5_addNode 51 = .ok (.isub, 1) := by decide +kernel
theorem dX5_addNode_52 : decode cX5_addNode 52 = .ok (.ireturn, 1) := by decide +kernel
theorem dX5_addName_0 : decode cX5_addName 0 = .ok (.aload_n 0, 1) := by decide +kernel
theorem dX5_addName_1 : decode cX5_addName 1 = .ok (.getfield 21, 3) := by decide +kernel
theorem dX5_addName_4 : decode cX5_addName 4 = .ok (.bipush 60, 2) := by decide +kernel
theorem dX5_addName_6 : decode cX5_addName 6 = .ok (.if_icmp .lt 10, 3) := by decide +kernel
theorem dX5_addName_9 : decode cX5_addName 9 = .ok (.aload_n 0, 1) := by decide +kernel
theorem dX5_addName_10 : decode cX5_addName 10 = .ok (.iconst 1, 1) := by decide +kernel
theorem dX5_addName_11 : decode cX5_addName 11 = .ok (.putfield 24, 3) := by decide +kernel
theorem dX5_addName_14 : decode cX5_addName 14 = .ok (.iconst (-1), 1) := by decide +kernel
theorem dX5_addName_15 : decode cX5_addName 15 = .ok (.ireturn, 1) := by decide +kernel
theorem dX5_addName_16 : decode cX5_addName 16 = .ok (.aload_n 0, 1) := by decide +kernel
theorem dX5_addName_17 : decode cX5_addName 17 = .ok (.getfield 35, 3) := by decide +kernel
theorem dX5_addName_20 : decode cX5_addName 20 = .ok (.aload_n 0, 1) := by decide +kernel
theorem dX5_addName_21 : decode cX5_addName 21 = .ok (.getfield 21, 3) := by decide +kernel
theorem dX5_addName_24 : decode cX5_addName 24 = .ok (.iload_n 2, 1) := by decide +kernel
theorem dX5_addName_25 : decode cX5_addName 25 = .ok (.iastore, 1) := by decide +kernel
theorem dX5_addName_26 : decode cX5_addName 26 = .ok (.aload_n 0, 1) := by decide +kernel
theorem dX5_addName_27 : decode cX5_addName 27 = .ok (.getfield 38, 3) := by decide +kernel
theorem dX5_addName_30 : decode cX5_addName 30 = .ok (.aload_n 0, 1) := by decide +kernel
theorem dX5_addName_31 : decode cX5_addName 31 = .ok (.getfield 21, 3) := by decide +kernel
theorem dX5_addName_34 : decode cX5_addName 34 = .ok (.iload_n 1, 1) := by decide +kernel
theorem dX5_addName_35 : decode cX5_addName 35 = .ok (.iastore, 1) := by decide +kernel
theorem dX5_addName_36 : decode cX5_addName 36 = .ok (.aload_n 0, 1) := by decide +kernel
theorem dX5_addName_37 : decode cX5_addName 37 = .ok (.dup, 1) := by decide +kernel
theorem dX5_addName_38 : decode cX5_addName 38 = .ok (.getfield 21, 3) := by decide +kernel
theorem dX5_addName_41 : decode cX5_addName 41 = .ok (.iconst 1, 1) := by decide +kernel
theorem dX5_addName_42 : decode cX5_addName 42 = .ok (.iadd, 1) := by decide +kernel
theorem dX5_addName_43 : decode cX5_addName 43 = .ok (.putfield 21, 3) := by decide +kernel
theorem dX5_addName_46 : decode cX5_addName 46 = .ok (.aload_n 0, 1) := by decide +kernel
theorem dX5_addName_47 : decode cX5_addName 47 = .ok (.getfield 21, 3) := by decide +kernel
theorem dX5_addName_50 : decode cX5_addName 50 = .ok (.iconst 1, 1) := by decide +kernel
theorem dX5_addName_51 : decode cX5_addName 51 = .ok (.isub, 1) := by decide +kernel
theorem dX5_addName_52 : decode cX5_addName 52 = .ok (.ireturn, 1) := by decide +kernel
theorem dX6_init_0 : decode cX6_init 0 = .ok (.aload_n 0, 1) := by decide +kernel
theorem dX6_init_1 : decode cX6_init 1 = .ok (.invokespecial 1, 3) := by decide +kernel
theorem dX6_init_4 : decode cX6_init 4 = .ok (.aload_n 0, 1) := by decide +kernel
theorem dX6_init_5 : decode cX6_init 5 = .ok (.new 7, 3) := by decide +kernel
theorem dX6_init_8 : decode cX6_init 8 = .ok (.dup, 1) := by decide +kernel
theorem dX6_init_9 : decode cX6_init 9 = .ok (.invokespecial 9, 3) := by decide +kernel
theorem dX6_init_12 : decode cX6_init 12 = .ok (.putfield 10, 3) := by decide +kernel
theorem dX6_init_15 : decode cX6_init 15 = .ok (.aload_n 0, 1) := by decide +kernel
theorem dX6_init_16 : decode cX6_init 16 = .ok (.new 16, 3) := by decide +kernel
theorem dX6_init_19 : decode cX6_init 19 = .ok (.dup, 1) := by decide +kernel
theorem dX6_init_20 : decode cX6_init 20 = .ok (.aload_n 0, 1) := by decide +kernel
theorem dX6_init_21 : decode cX6_init 21 = .ok (.getfield 10, 3) := by decide +kernel
theorem dX6_init_24 : decode cX6_init 24 = .ok (.invokespecial 18, 3) := by decide +kernel
theorem dX6_init_27 : decode cX6_init 27 = .ok (.putfield 21, 3) := by decide +kernel
theorem dX6_init_30 : decode cX6_init 30 = .ok (.aload_n 0, 1) := by decide +kernel
theorem dX6_init_31 : decode cX6_init 31 = .ok (.new 16, 3) := by decide +kernel
theorem dX6_init_34 : decode cX6_init 34 = .ok (.dup, 1) := by decide +kernel
theorem dX6_init_35 : decode cX6_init 35 = .ok (.aload_n 0, 1) := by decide +kernel
theorem dX6_init_36 : decode cX6_init 36 = .ok (.getfield 10, 3) := by decide +kernel
theorem dX6_init_39 : decode cX6_init 39 = .ok (.invokespecial 18, 3) := by decide +kernel
theorem dX6_init_42 : decode cX6_init 42 = .ok (.putfield 25, 3) := by decide +kernel
theorem dX6_init_45 : decode cX6_init 45 = .ok (.aload_n 0, 1) := by decide +kernel
theorem dX6_init_46 : decode cX6_init 46 = .ok (.new 28, 3) := by decide +kernel
theorem dX6_init_49 : decode cX6_init 49 = .ok (.dup, 1) := by decide +kernel
theorem dX6_init_50 : decode cX6_init 50 = .ok (.aload_n 0, 1) := by decide +kernel
theorem dX6_init_51 : decode cX6_init 51 = .ok (.getfield 10, 3) := by decide +kernel
theorem dX6_init_54 : decode cX6_init 54 = .ok (.aload_n 0, 1) := by decide +kernel
theorem dX6_init_55 : decode cX6_init 55 = .ok (.getfield 21, 3) := by decide +kernel
theorem dX6_init_58 : decode cX6_init 58 = .ok (.invokespecial 30, 3) := by decide +kernel
theorem dX6_init_61 : decode cX6_init 61 = .ok (.putfield 33, 3) := by decide +kernel
theorem dX6_init_64 : decode cX6_init 64 = .ok (.return_, 1) := by decide +kernel
theorem dX6_cls_0 : decode cX6_cls 0 = .ok (.aload_n 0, 1) := by decide +kernel
theorem dX6_cls_1 : decode cX6_cls 1 = .ok (.getfield 10, 3) := by decide +kernel
theorem dX6_cls_4 : decode cX6_cls 4 = .ok (.iload_n 1, 1) := by decide +kernel
theorem dX6_cls_5 : decode cX6_cls 5 = .ok (.invokevirtual 37, 3) := by decide +kernel
theorem dX6_cls_8 : decode cX6_cls 8 = .ok (.ifCond .ne 5, 3) := by decide +kernel
theorem dX6_cls_11 : decode cX6_cls 11 = .ok (.iconst (-1), 1) := by decide +kernel
theorem dX6_cls_12 : decode cX6_cls 12 = .ok (.ireturn, 1) := by decide +kernel
theorem dX6_cls_13 : decode cX6_cls 13 = .ok (.aload_n 0, 1) := by decide +kernel
theorem dX6_cls_14 : decode cX6_cls 14 = .ok (.getfield 10, 3) := by decide +kernel
theorem dX6_cls_17 : decode cX6_cls 17 = .ok (.getfield 41, 3) := by decide +kernel
theorem dX6_cls_20 : decode cX6_cls 20 = .ok (.bipush 10, 2) := by decide +kernel
theorem dX6_cls_22 : decode cX6_cls 22 = .ok (.if_icmp .lt 8, 3) := by decide +kernel
theorem dX6_cls_25 : decode cX6_cls 25 = .ok (.bipush (-3), 2) := by decide +kernel
theorem dX6_cls_27 : decode cX6_cls 27 = .ok (.goto 15, 3) := by decide +kernel
theorem dX6_cls_30 : decode cX6_cls 30 = .ok (.aload_n 0, 1) := by decide +kernel
theorem dX6_cls_31 : decode cX6_cls 31 = .ok (.aload_n 0, 1) := by decide +kernel
theorem dX6_cls_32 : decode cX6_cls 32 = .ok (.getfield 10, 3) := by decide +kernel
theorem dX6_cls_35 : decode cX6_cls 35 = .ok (.iload_n 1, 1) := by decide +kernel
theorem dX6_cls_36 : decode cX6_cls 36 = .ok (.invokevirtual 45, 3) := by decide +kernel
theorem dX6_cls_39 : decode cX6_cls 39 = .ok (.invokevirtual 49, 3) := by decide +kernel
theorem dX6_cls_42 : decode cX6_cls 42 = .ok (.ireturn, 1) := by decide +kernel
theorem dX6_method_0 : decode cX6_method 0 = .ok (.iload_n 1, 1) := by decide +kernel
theorem dX6_method_1 : decode cX6_method 1 = .ok (.iconst (-1), 1) := by decide +kernel
theorem dX6_method_2 : decode cX6_method 2 = .ok (.if_icmp .ne 7, 3) := by decide +kernel
theorem dX6_method_5 : decode cX6_method 5 = .ok (.iconst 1, 1) := by decide +kernel
theorem dX6_method_6 : decode cX6_method 6 = .ok (.goto 4, 3) := by decide +kernel
theorem dX6_method_9 : decode cX6_method 9 = .ok (.iconst 0, 1) := by decide +kernel
theorem dX6_method_10 : decode cX6_method 10 = .ok (.istore_n 3, 1) := by decide +kernel
theorem dX6_method_11 : decode cX6_method 11 = .ok (.iload_n 3, 1) := by decide +kernel
theorem dX6_method_12 : decode cX6_method 12 = .ok (.ifCond .ne 17, 3) := by decide +kernel
theorem dX6_method_15 : decode cX6_method 15 = .ok (.aload_n 0, 1) := by decide +kernel
theorem dX6_method_16 : decode cX6_method 16 = .ok (.getfield 10, 3) := by decide +kernel
theorem dX6_method_19 : decode cX6_method 19 = .ok (.iload_n 1, 1) := by decide +kernel
theorem dX6_method_20 : decode cX6_method 20 = .ok (.iload_n 2, 1) := by decide +kernel
theorem dX6_method_21 : decode cX6_method 21 = .ok (.invokevirtual 52, 3) := by decide +kernel
theorem dX6_method_24 : decode cX6_method 24 = .ok (.ifCond .ne 5, 3) := by decide +kernel
theorem dX6_method_27 : decode cX6_method 27 = .ok (.iconst (-1), 1) := by decide +kernel
theorem dX6_method_28 : decode cX6_method 28 = .ok (.ireturn, 1) := by decide +kernel
theorem dX6_method_29 : decode cX6_method 29 = .ok (.aload_n 0, 1) := by decide +kernel
theorem dX6_method_30 : decode cX6_method 30 = .ok (.getfield 10, 3) := by decide +kernel
theorem dX6_method_33 : decode cX6_method 33 = .ok (.getfield 56, 3) := by decide +kernel
theorem dX6_method_36 : decode cX6_method 36 = .ok (.bipush 12, 2) := by decide +kernel
theorem dX6_method_38 : decode cX6_method 38 = .ok (.if_icmp .lt 6, 3) := by decide +kernel
theorem dX6_method_41 : decode cX6_method 41 = .ok (.bipush (-3), 2) := by decide +kernel
theorem dX6_method_43 : decode cX6_method 43 = .ok (.ireturn, 1) := by decide +kernel
theorem dX6_method_44 : decode cX6_method 44 = .ok (.aload_n 0, 1) := by decide +kernel
theorem dX6_method_45 : decode cX6_method 45 = .ok (.aload_n 0, 1) := by decide +kernel
theorem dX6_method_46 : decode cX6_method 46 = .ok (.getfield 10, 3) := by decide +kernel
theorem dX6_method_49 : decode cX6_method 49 = .ok (.iload_n 1, 1) := by decide +kernel
theorem dX6_method_50 : decode cX6_method 50 = .ok (.iload_n 3, 1) := by decide +kernel
theorem dX6_method_51 : decode cX6_method 51 = .ok (.ifCond .eq 7, 3) := by decide +kernel
theorem dX6_method_54 : decode cX6_method 54 = .ok (.iconst (-1), 1) := by decide +kernel
theorem dX6_method_55 : decode cX6_method 55 = .ok (.goto 4, 3) := by decide +kernel
theorem dX6_method_58 : decode cX6_method 58 = .ok (.iload_n 2, 1) := by decide +kernel
theorem dX6_method_59 : decode cX6_method 59 = .ok (.invokevirtual 59, 3) := by decide +kernel
theorem dX6_method_62 : decode cX6_method 62 = .ok (.invokevirtual 49, 3) := by decide +kernel
theorem dX6_method_65 : decode cX6_method 65 = .ok (.ireturn, 1) := by decide +kernel
theorem dX6_step_0 : decode cX6_step 0 = .ok (.aload_n 0, 1) := by decide +kernel
theorem dX6_step_1 : decode cX6_step 1 = .ok (.getfield 10, 3) := by decide +kernel
theorem dX6_step_4 : decode cX6_step 4 = .ok (.iload_n 1, 1) := by decide +kernel
theorem dX6_step_5 : decode cX6_step 5 = .ok (.invokevirtual 63, 3) := by decide +kernel
theorem dX6_step_8 : decode cX6_step 8 = .ok (.ifCond .eq 12, 3) := by decide +kernel
theorem dX6_step_11 : decode cX6_step 11 = .ok (.iload_n 2, 1) := by decide +kernel
theorem dX6_step_12 : decode cX6_step 12 = .ok (.bipush 17, 2) := by decide +kernel
theorem dX6_step_14 : decode cX6_step 14 = .ok (.invokestatic 66, 3) := by decide +kernel
theorem dX6_step_17 : decode cX6_step 17 = .ok (.ifCond .ne 5, 3) := by decide +kernel
theorem dX6_step_20 : decode cX6_step 20 = .ok (.iconst (-1), 1) := by decide +kernel
theorem dX6_step_21 : decode cX6_step 21 = .ok (.ireturn, 1) := by decide +kernel
theorem dX6_step_22 : decode cX6_step 22 = .ok (.iconst 4, 1) := by decide +kernel
theorem dX6_step_23 : decode cX6_step 23 = .ok (.iload_n 2, 1) := by decide +kernel
theorem dX6_step_24 : decode cX6_step 24 = .ok (.imul, 1) := by decide +kernel
theorem dX6_step_25 : decode cX6_step 25 = .ok (.istore 7, 2) := by decide +kernel
theorem dX6_step_27 : decode cX6_step 27 = .ok (.aload_n 0, 1) := by decide +kernel
theorem dX6_step_28 : decode cX6_step 28 = .ok (.getfield 10, 3) := by decide +kernel
theorem dX6_step_31 : decode cX6_step 31 = .ok (.getstatic 69, 3) := by decide +kernel
theorem dX6_step_34 : decode cX6_step 34 = .ok (.iload 7, 2) := by decide +kernel
theorem dX6_step_36 : decode cX6_step 36 = .ok (.iaload, 1) := by decide +kernel
theorem dX6_step_37 : decode cX6_step 37 = .ok (.iload_n 3, 1) := by decide +kernel
theorem dX6_step_38 : decode cX6_step 38 = .ok (.invokevirtual 73, 3) := by decide +kernel
theorem dX6_step_41 : decode cX6_step 41 = .ok (.ifCond .eq 63, 3) := by decide +kernel
theorem dX6_step_44 : decode cX6_step 44 = .ok (.aload_n 0, 1) := by decide +kernel
theorem dX6_step_45 : decode cX6_step 45 = .ok (.getfield 10, 3) := by decide +kernel
theorem dX6_step_48 : decode cX6_step 48 = .ok (.getstatic 69, 3) := by decide +kernel
theorem dX6_step_51 : decode cX6_step 51 = .ok (.iload 7, 2) := by decide +kernel
theorem dX6_step_53 : decode cX6_step 53 = .ok (.iconst 1, 1) := by decide +kernel
theorem dX6_step_54 : decode cX6_step 54 = .ok (.iadd, 1) := by decide +kernel
theorem dX6_step_55 : decode cX6_step 55 = .ok (.iaload, 1) := by decide +kernel
theorem dX6_step_56 : decode cX6_step 56 = .ok (.iload 4, 2) := by decide +kernel
theorem dX6_step_58 : decode cX6_step 58 = .ok (.invokevirtual 73, 3) := by decide +kernel
theorem dX6_step_61 : decode cX6_step 61 = .ok (.ifCond .eq 43, 3) := by decide +kernel
theorem dX6_step_64 : decode cX6_step 64 = .ok (.aload_n 0, 1) := by decide +kernel
theorem dX6_step_65 : decode cX6_step 65 = .ok (.getfield 10, 3) := by decide +kernel
theorem dX6_step_68 : decode cX6_step 68 = .ok (.getstatic 69, 3) := by decide +kernel
theorem dX6_step_71 : decode cX6_step 71 = .ok (.iload 7, 2) := by decide +kernel
theorem dX6_step_73 : decode cX6_step 73 = .ok (.iconst 2, 1) := by decide +kernel
theorem dX6_step_74 : decode cX6_step 74 = .ok (.iadd, 1) := by decide +kernel
theorem dX6_step_75 : decode cX6_step 75 = .ok (.iaload, 1) := by decide +kernel
theorem dX6_step_76 : decode cX6_step 76 = .ok (.iload 5, 2) := by decide +kernel
theorem dX6_step_78 : decode cX6_step 78 = .ok (.invokevirtual 73, 3) := by decide +kernel
theorem dX6_step_81 : decode cX6_step 81 = .ok (.ifCond .eq 23, 3) := by decide +kernel
theorem dX6_step_84 : decode cX6_step 84 = .ok (.aload_n 0, 1) := by decide +kernel
theorem dX6_step_85 : decode cX6_step 85 = .ok (.getfield 10, 3) := by decide +kernel
theorem dX6_step_88 : decode cX6_step 88 = .ok (.getstatic 69, 3) := by decide +kernel
theorem dX6_step_91 : decode cX6_step 91 = .ok (.iload 7, 2) := by decide +kernel
theorem dX6_step_93 : decode cX6_step 93 = .ok (.iconst 3, 1) := by decide +kernel
theorem dX6_step_94 : decode cX6_step 94 = .ok (.iadd, 1) := by decide +kernel
theorem dX6_step_95 : decode cX6_step 95 = .ok (.iaload, 1) := by decide +kernel
theorem dX6_step_96 : decode cX6_step 96 = .ok (.iload 6, 2) := by decide +kernel
theorem dX6_step_98 : decode cX6_step 98 = .ok (.invokevirtual 73, 3) := by decide +kernel
theorem dX6_step_101 : decode cX6_step 101 = .ok (.ifCond .ne 5, 3) := by decide +kernel
theorem dX6_step_104 : decode cX6_step 104 = .ok (.iconst (-1), 1) := by decide +kernel
theorem dX6_step_105 : decode cX6_step 105 = .ok (.ireturn, 1) := by decide +kernel
theorem dX6_step_106 : decode cX6_step 106 = .ok (.aload_n 0, 1) := by decide +kernel
theorem dX6_step_107 : decode cX6_step 107 = .ok (.getfield 10, 3) := by decide +kernel
theorem dX6_step_110 : decode cX6_step 110 = .ok (.iload_n 2, 1) := by decide +kernel
theorem dX6_step_111 : decode cX6_step 111 = .ok (.invokevirtual 76, 3) := by decide +kernel
theorem dX6_step_114 : decode cX6_step 114 = .ok (.ifCond .ne 6, 3) := by decide +kernel
theorem dX6_step_117 : decode cX6_step 117 = .ok (.bipush (-3), 2) := by decide +kernel
theorem dX6_step_119 : decode cX6_step 119 = .ok (.ireturn, 1) := by decide +kernel
theorem dX6_step_120 : decode cX6_step 120 = .ok (.aload_n 0, 1) := by decide +kernel
theorem dX6_step_121 : decode cX6_step 121 = .ok (.getfield 10, 3) := by decide +kernel
theorem dX6_step_124 : decode cX6_step 124 = .ok (.iload_n 1, 1) := by decide +kernel
theorem dX6_step_125 : decode cX6_step 125 = .ok (.iload_n 2, 1) := by decide +kernel
theorem dX6_step_126 : decode cX6_step 126 = .ok (.invokevirtual 79, 3) := by decide +kernel
theorem dX6_step_129 : decode cX6_step 129 = .ok (.istore 8, 2) := by decide +kernel
theorem dX6_step_131 : decode cX6_step 131 = .ok (.aload_n 0, 1) := by decide +kernel
theorem dX6_step_132 : decode cX6_step 132 = .ok (.getfield 10, 3) := by decide +kernel
theorem dX6_step_135 : decode cX6_step 135 = .ok (.iload 8, 2) := by decide +kernel
theorem dX6_step_137 : decode cX6_step 137 = .ok (.iload_n 3, 1) := by decide +kernel
theorem dX6_step_138 : decode cX6_step 138 = .ok (.iload 4, 2) := by decide +kernel
theorem dX6_step_140 : decode cX6_step 140 = .ok (.iload 5, 2) := by decide +kernel
theorem dX6_step_142 : decode cX6_step 142 = .ok (.iload 6, 2) := by decide +kernel
theorem dX6_step_144 : decode cX6_step 144 = .ok (.invokevirtual 82, 3) := by decide +kernel
theorem dX6_step_147 : decode cX6_step 147 = .ok (.aload_n 0, 1) := by decide +kernel
theorem dX6_step_148 : decode cX6_step 148 = .ok (.iload 8, 2) := by decide +kernel
theorem dX6_step_150 : decode cX6_step 150 = .ok (.invokevirtual 49, 3) := by decide +kernel
theorem dX6_step_153 : decode cX6_step 153 = .ok (.ireturn, 1) := by decide +kernel
theorem dX6_work_0 : decode cX6_work 0 = .ok (.aload_n 0, 1) := by decide +kernel
theorem dX6_work_1 : decode cX6_work 1 = .ok (.getfield 10, 3) := by decide +kernel
theorem dX6_work_4 : decode cX6_work 4 = .ok (.iload_n 1, 1) := by decide +kernel
theorem dX6_work_5 : decode cX6_work 5 = .ok (.invokevirtual 86, 3) := by decide +kernel
theorem dX6_work_8 : decode cX6_work 8 = .ok (.ifCond .eq 19, 3) := by decide +kernel
theorem dX6_work_11 : decode cX6_work 11 = .ok (.iload_n 2, 1) := by decide +kernel
theorem dX6_work_12 : decode cX6_work 12 = .ok (.iconst 3, 1) := by decide +kernel
theorem dX6_work_13 : decode cX6_work 13 = .ok (.invokestatic 66, 3) := by decide +kernel
theorem dX6_work_16 : decode cX6_work 16 = .ok (.ifCond .eq 11, 3) := by decide +kernel
theorem dX6_work_19 : decode cX6_work 19 = .ok (.iload_n 3, 1) := by decide +kernel
theorem dX6_work_20 : decode cX6_work 20 = .ok (.iconst 3, 1) := by decide +kernel
theorem dX6_work_21 : decode cX6_work 21 = .ok (.invokestatic 66, 3) := by decide +kernel
theorem dX6_work_24 : decode cX6_work 24 = .ok (.ifCond .ne 5, 3) := by decide +kernel
theorem dX6_work_27 : decode cX6_work 27 = .ok (.iconst (-1), 1) := by decide +kernel
theorem dX6_work_28 : decode cX6_work 28 = .ok (.ireturn, 1) := by decide +kernel
theorem dX6_work_29 : decode cX6_work 29 = .ok (.aload_n 0, 1) := by decide +kernel
theorem dX6_work_30 : decode cX6_work 30 = .ok (.iload_n 1, 1) := by decide +kernel
theorem dX6_work_31 : decode cX6_work 31 = .ok (.putfield 89, 3) := by decide +kernel
theorem dX6_work_34 : decode cX6_work 34 = .ok (.aload_n 0, 1) := by decide +kernel
theorem dX6_work_35 : decode cX6_work 35 = .ok (.iconst 1, 1) := by decide +kernel
theorem dX6_work_36 : decode cX6_work 36 = .ok (.putfield 92, 3) := by decide +kernel
theorem dX6_work_39 : decode cX6_work 39 = .ok (.aload_n 0, 1) := by decide +kernel
theorem dX6_work_40 : decode cX6_work 40 = .ok (.iconst 0, 1) := by decide +kernel
theorem dX6_work_41 : decode cX6_work 41 = .ok (.putfield 96, 3) := by decide +kernel
theorem dX6_work_44 : decode cX6_work 44 = .ok (.aload_n 0, 1) := by decide +kernel
theorem dX6_work_45 : decode cX6_work 45 = .ok (.getfield 21, 3) := by decide +kernel
theorem dX6_work_48 : decode cX6_work 48 = .ok (.iload_n 1, 1) := by decide +kernel
theorem dX6_work_49 : decode cX6_work 49 = .ok (.iload_n 2, 1) := by decide +kernel
theorem dX6_work_50 : decode cX6_work 50 = .ok (.iload_n 3, 1) := by decide +kernel
theorem dX6_work_51 : decode cX6_work 51 = .ok (.invokevirtual 99, 3) := by decide +kernel
theorem dX6_work_54 : decode cX6_work 54 = .ok (.ireturn, 1) := by decide +kernel
theorem dX6_name_0 : decode cX6_name 0 = .ok (.iload_n 2, 1) := by decide +kernel
theorem dX6_name_1 : decode cX6_name 1 = .ok (.iconst 5, 1) := by decide +kernel
theorem dX6_name_2 : decode cX6_name 2 = .ok (.invokestatic 66, 3) := by decide +kernel
theorem dX6_name_5 : decode cX6_name 5 = .ok (.ifCond .ne 5, 3) := by decide +kernel
theorem dX6_name_8 : decode cX6_name 8 = .ok (.iconst (-1), 1) := by decide +kernel
theorem dX6_name_9 : decode cX6_name 9 = .ok (.ireturn, 1) := by decide +kernel
theorem dX6_name_10 : decode cX6_name 10 = .ok (.aload_n 0, 1) := by decide +kernel
theorem dX6_name_11 : decode cX6_name 11 = .ok (.getfield 92, 3) := by decide +kernel
theorem dX6_name_14 : decode cX6_name 14 = .ok (.ifCond .ne 6, 3) := by decide +kernel
theorem dX6_name_17 : decode cX6_name 17 = .ok (.bipush (-2), 2) := by decide +kernel
theorem dX6_name_19 : decode cX6_name 19 = .ok (.ireturn, 1) := by decide +kernel
theorem dX6_name_20 : decode cX6_name 20 = .ok (.iload_n 1, 1) := by decide +kernel
theorem dX6_name_21 : decode cX6_name 21 = .ok (.aload_n 0, 1) := by decide +kernel
theorem dX6_name_22 : decode cX6_name 22 = .ok (.getfield 21, 3) := by decide +kernel
theorem dX6_name_25 : decode cX6_name 25 = .ok (.getfield 103, 3) := by decide +kernel
theorem dX6_name_28 : decode cX6_name 28 = .ok (.getfield 107, 3) := by decide +kernel
theorem dX6_name_31 : decode cX6_name 31 = .ok (.invokestatic 66, 3) := by decide +kernel
theorem dX6_name_34 : decode cX6_name 34 = .ok (.ifCond .ne 5, 3) := by decide +kernel
theorem dX6_name_37 : decode cX6_name 37 = .ok (.iconst (-1), 1) := by decide +kernel
theorem dX6_name_38 : decode cX6_name 38 = .ok (.ireturn, 1) := by decide +kernel
theorem dX6_name_39 : decode cX6_name 39 = .ok (.aload_n 0, 1) := by decide +kernel
theorem dX6_name_40 : decode cX6_name 40 = .ok (.getfield 21, 3) := by decide +kernel
theorem dX6_name_43 : decode cX6_name 43 = .ok (.getfield 103, 3) := by decide +kernel
theorem dX6_name_46 : decode cX6_name 46 = .ok (.getfield 112, 3) := by decide +kernel
theorem dX6_name_49 : decode cX6_name 49 = .ok (.iload_n 1, 1) := by decide +kernel
theorem dX6_name_50 : decode cX6_name 50 = .ok (.iaload, 1) := by decide +kernel
theorem dX6_name_51 : decode cX6_name 51 = .ok (.istore_n 3, 1) := by decide +kernel
theorem dX6_name_52 : decode cX6_name 52 = .ok (.aload_n 0, 1) := by decide +kernel
theorem dX6_name_53 : decode cX6_name 53 = .ok (.getfield 21, 3) := by decide +kernel
theorem dX6_name_56 : decode cX6_name 56 = .ok (.getfield 103, 3) := by decide +kernel
theorem dX6_name_59 : decode cX6_name 59 = .ok (.getfield 115, 3) := by decide +kernel
theorem dX6_name_62 : decode cX6_name 62 = .ok (.iload_n 1, 1) := by decide +kernel
theorem dX6_name_63 : decode cX6_name 63 = .ok (.iaload, 1) := by decide +kernel
theorem dX6_name_64 : decode cX6_name 64 = .ok (.istore 4, 2) := by decide +kernel
theorem dX6_name_66 : decode cX6_name 66 = .ok (.iload_n 2, 1) := by decide +kernel
theorem dX6_name_67 : decode cX6_name 67 = .ok (.tableswitch 63 0 3 #[29, 31, 41, 60], 29) := by decide +kernel
theorem dX6_name_96 : decode cX6_name 96 = .ok (.iload_n 3, 1) := by decide +kernel
theorem dX6_name_97 : decode cX6_name 97 = .ok (.ireturn, 1) := by decide +kernel
theorem dX6_name_98 : decode cX6_name 98 = .ok (.aload_n 0, 1) := by decide +kernel
theorem dX6_name_99 : decode cX6_name 99 = .ok (.getfield 10, 3) := by decide +kernel
theorem dX6_name_102 : decode cX6_name 102 = .ok (.getfield 118, 3) := by decide +kernel
theorem dX6_name_105 : decode cX6_name 105 = .ok (.iload_n 3, 1) := by decide +kernel
theorem dX6_name_106 : decode cX6_name 106 = .ok (.iaload, 1) := by decide +kernel
theorem dX6_name_107 : decode cX6_name 107 = .ok (.ireturn, 1) := by decide +kernel
theorem dX6_name_108 : decode cX6_name 108 = .ok (.aload_n 0, 1) := by decide +kernel
theorem dX6_name_109 : decode cX6_name 109 = .ok (.getfield 10, 3) := by decide +kernel
theorem dX6_name_112 : decode cX6_name 112 = .ok (.getfield 121, 3) := by decide +kernel
theorem dX6_name_115 : decode cX6_name 115 = .ok (.iload_n 3, 1) := by decide +kernel
theorem dX6_name_116 : decode cX6_name 116 = .ok (.iaload, 1) := by decide +kernel
theorem dX6_name_117 : decode cX6_name 117 = .ok (.iconst 1, 1) := by decide +kernel
theorem dX6_name_118 : decode cX6_name 118 = .ok (.if_icmp .ne 7, 3) := by decide +kernel
theorem dX6_name_121 : decode cX6_name 121 = .ok (.iconst 1, 1) := by decide +kernel
theorem dX6_name_122 : decode cX6_name 122 = .ok (.goto 4, 3) := by decide +kernel
theorem dX6_name_125 : decode cX6_name 125 = .ok (.iconst 0, 1) := by decide +kernel
theorem dX6_name_126 : decode cX6_name 126 = .ok (.ireturn, 1) := by decide +kernel
theorem dX6_name_127 : decode cX6_name 127 = .ok (.iload 4, 2) := by decide +kernel
theorem dX6_name_129 : decode cX6_name 129 = .ok (.ireturn, 1) := by decide +kernel
theorem dX6_name_130 : decode cX6_name 130 = .ok (.aload_n 0, 1) := by decide +kernel
theorem dX6_name_131 : decode cX6_name 131 = .ok (.getfield 21, 3) := by decide +kernel
theorem dX6_name_134 : decode cX6_name 134 = .ok (.getfield 124, 3) := by decide +kernel
theorem dX6_name_137 : decode cX6_name 137 = .ok (.iload 4, 2) := by decide +kernel
theorem dX6_name_139 : decode cX6_name 139 = .ok (.baload, 1) := by decide +kernel
theorem dX6_name_140 : decode cX6_name 140 = .ok (.ifCond .eq 7, 3) := by decide +kernel
theorem dX6_name_143 : decode cX6_name 143 = .ok (.iconst 1, 1) := by decide +kernel
theorem dX6_name_144 : decode cX6_name 144 = .ok (.goto 4, 3) := by decide +kernel
theorem dX6_name_147 : decode cX6_name 147 = .ok (.iconst 0, 1) := by decide +kernel
theorem dX6_name_148 : decode cX6_name 148 = .ok (.ireturn, 1) := by decide +kernel
theorem dX6_node_0 : decode cX6_node 0 = .ok (.iload_n 2, 1) := by decide +kernel
theorem dX6_node_1 : decode cX6_node 1 = .ok (.iconst 5, 1) := by decide +kernel
theorem dX6_node_2 : decode cX6_node 2 = .ok (.invokestatic 66, 3) := by decide +kernel
theorem dX6_node_5 : decode cX6_node 5 = .ok (.ifCond .ne 5, 3) := by decide +kernel
theorem dX6_node_8 : decode cX6_node 8 = .ok (.iconst (-1), 1) := by decide +kernel
theorem dX6_node_9 : decode cX6_node 9 = .ok (.ireturn, 1) := by decide +kernel
theorem dX6_node_10 : decode cX6_node 10 = .ok (.aload_n 0, 1) := by decide +kernel
theorem dX6_node_11 : decode cX6_node 11 = .ok (.getfield 92, 3) := by decide +kernel
theorem dX6_node_14 : decode cX6_node 14 = .ok (.ifCond .ne 6, 3) := by decide +kernel
theorem dX6_node_17 : decode cX6_node 17 = .ok (.bipush (-2), 2) := by decide +kernel
theorem dX6_node_19 : decode cX6_node 19 = .ok (.ireturn, 1) := by decide +kernel
theorem dX6_node_20 : decode cX6_node 20 = .ok (.iload_n 1, 1) := by decide +kernel
theorem dX6_node_21 : decode cX6_node 21 = .ok (.aload_n 0, 1) := by decide +kernel
theorem dX6_node_22 : decode cX6_node 22 = .ok (.getfield 21, 3) := by decide +kernel
theorem dX6_node_25 : decode cX6_node 25 = .ok (.getfield 103, 3) := by decide +kernel
theorem dX6_node_28 : decode cX6_node 28 = .ok (.getfield 128, 3) := by decide +kernel
theorem dX6_node_31 : decode cX6_node 31 = .ok (.invokestatic 66, 3) := by decide +kernel
theorem dX6_node_34 : decode cX6_node 34 = .ok (.ifCond .ne 5, 3) := by decide +kernel
theorem dX6_node_37 : decode cX6_node 37 = .ok (.iconst (-1), 1) := by decide +kernel
theorem dX6_node_38 : decode cX6_node 38 = .ok (.ireturn, 1) := by decide +kernel
theorem dX6_node_39 : decode cX6_node 39 = .ok (.iload_n 2, 1) := by decide +kernel
theorem dX6_node_40 : decode cX6_node 40 = .ok (.tableswitch 87 0 3 #[32, 45, 57, 69], 32) := by decide +kernel
theorem dX6_node_72 : decode cX6_node 72 = .ok (.aload_n 0, 1) := by decide +kernel
theorem dX6_node_73 : decode cX6_node 73 = .ok (.getfield 21, 3) := by decide +kernel
theorem dX6_node_76 : decode cX6_node 76 = .ok (.getfield 103, 3) := by decide +kernel
theorem dX6_node_79 : decode cX6_node 79 = .ok (.getfield 131, 3) := by decide +kernel
theorem dX6_node_82 : decode cX6_node 82 = .ok (.iload_n 1, 1) := by decide +kernel
theorem dX6_node_83 : decode cX6_node 83 = .ok (.iaload, 1) := by decide +kernel
theorem dX6_node_84 : decode cX6_node 84 = .ok (.ireturn, 1) := by decide +kernel
theorem dX6_node_85 : decode cX6_node 85 = .ok (.aload_n 0, 1) := by decide +kernel
theorem dX6_node_86 : decode cX6_node 86 = .ok (.getfield 21, 3) := by decide +kernel
theorem dX6_node_89 : decode cX6_node 89 = .ok (.getfield 103, 3) := by decide +kernel
theorem dX6_node_92 : decode cX6_node 92 = .ok (.iload_n 1, 1) := by decide +kernel
theorem dX6_node_93 : decode cX6_node 93 = .ok (.invokevirtual 134, 3) := by decide +kernel
theorem dX6_node_96 : decode cX6_node 96 = .ok (.ireturn, 1) := by decide +kernel
theorem dX6_node_97 : decode cX6_node 97 = .ok (.aload_n 0, 1) := by decide +kernel
theorem dX6_node_98 : decode cX6_node 98 = .ok (.getfield 21, 3) := by decide +kernel
theorem dX6_node_101 : decode cX6_node 101 = .ok (.getfield 103, 3) := by decide +kernel
theorem dX6_node_104 : decode cX6_node 104 = .ok (.iload_n 1, 1) := by decide +kernel
theorem dX6_node_105 : decode cX6_node 105 = .ok (.invokevirtual 137, 3) := by decide +kernel
theorem dX6_node_108 : decode cX6_node 108 = .ok (.ireturn, 1) := by decide +kernel
theorem dX6_node_109 : decode cX6_node 109 = .ok (.aload_n 0, 1) := by decide +kernel
theorem dX6_node_110 : decode cX6_node 110 = .ok (.getfield 21, 3) := by decide +kernel
theorem dX6_node_113 : decode cX6_node 113 = .ok (.getfield 124, 3) := by decide +kernel
theorem dX6_node_116 : decode cX6_node 116 = .ok (.iload_n 1, 1) := by decide +kernel
theorem dX6_node_117 : decode cX6_node 117 = .ok (.baload, 1) := by decide +kernel
theorem dX6_node_118 : decode cX6_node 118 = .ok (.ifCond .eq 7, 3) := by decide +kernel
theorem dX6_node_121 : decode cX6_node 121 = .ok (.iconst 1, 1) := by decide +kernel
theorem dX6_node_122 : decode cX6_node 122 = .ok (.goto 4, 3) := by decide +kernel
theorem dX6_node_125 : decode cX6_node 125 = .ok (.iconst 0, 1) := by decide +kernel
theorem dX6_node_126 : decode cX6_node 126 = .ok (.ireturn, 1) := by decide +kernel
theorem dX6_node_127 : decode cX6_node 127 = .ok (.aload_n 0, 1) := by decide +kernel
theorem dX6_node_128 : decode cX6_node 128 = .ok (.getfield 21, 3) := by decide +kernel
theorem dX6_node_131 : decode cX6_node 131 = .ok (.getfield 140, 3) := by decide +kernel
theorem dX6_node_134 : decode cX6_node 134 = .ok (.iload_n 1, 1) := by decide +kernel
theorem dX6_node_135 : decode cX6_node 135 = .ok (.iaload, 1) := by decide +kernel
theorem dX6_node_136 : decode cX6_node 136 = .ok (.ireturn, 1) := by decide +kernel
theorem dX6_held_0 : decode cX6_held 0 = .ok (.iload_n 2, 1) := by decide +kernel
theorem dX6_held_1 : decode cX6_held 1 = .ok (.bipush 8, 2) := by decide +kernel
theorem dX6_held_3 : decode cX6_held 3 = .ok (.invokestatic 66, 3) := by decide +kernel
theorem dX6_held_6 : decode cX6_held 6 = .ok (.ifCond .ne 7, 3) := by decide +kernel
theorem dX6_held_9 : decode cX6_held 9 = .ok (.ldc2_w 143, 3) := by decide +kernel
theorem dX6_held_12 : decode cX6_held 12 = .ok (.lreturn, 1) := by decide +kernel
theorem dX6_held_13 : decode cX6_held 13 = .ok (.aload_n 0, 1) := by decide +kernel
theorem dX6_held_14 : decode cX6_held 14 = .ok (.getfield 92, 3) := by decide +kernel
theorem dX6_held_17 : decode cX6_held 17 = .ok (.ifCond .ne 7, 3) := by decide +kernel
theorem dX6_held_20 : decode cX6_held 20 = .ok (.ldc2_w 145, 3) := by decide +kernel
theorem dX6_held_23 : decode cX6_held 23 = .ok (.lreturn, 1) := by decide +kernel
theorem dX6_held_24 : decode cX6_held 24 = .ok (.iload_n 1, 1) := by decide +kernel
theorem dX6_held_25 : decode cX6_held 25 = .ok (.aload_n 0, 1) := by decide +kernel
theorem dX6_held_26 : decode cX6_held 26 = .ok (.getfield 21, 3) := by decide +kernel
theorem dX6_held_29 : decode cX6_held 29 = .ok (.getfield 103, 3) := by decide +kernel
theorem dX6_held_32 : decode cX6_held 32 = .ok (.getfield 128, 3) := by decide +kernel
theorem dX6_held_35 : decode cX6_held 35 = .ok (.invokestatic 66, 3) := by decide +kernel
theorem dX6_held_38 : decode cX6_held 38 = .ok (.ifCond .eq 15, 3) := by decide +kernel
theorem dX6_held_41 : decode cX6_held 41 = .ok (.aload_n 0, 1) := by decide +kernel
theorem dX6_held_42 : decode cX6_held 42 = .ok (.getfield 21, 3) := by decide +kernel
theorem dX6_held_45 : decode cX6_held 45 = .ok (.iload_n 1, 1) := by decide +kernel
theorem dX6_held_46 : decode cX6_held 46 = .ok (.iload_n 2, 1) := by decide +kernel
theorem dX6_held_47 : decode cX6_held 47 = .ok (.invokevirtual 147, 3) := by decide +kernel
theorem dX6_held_50 : decode cX6_held 50 = .ok (.goto 6, 3) := by decide +kernel
theorem dX6_held_53 : decode cX6_held 53 = .ok (.ldc2_w 143, 3) := by decide +kernel
theorem dX6_held_56 : decode cX6_held 56 = .ok (.lreturn, 1) := by decide +kernel
theorem dX6_inside_0 : decode cX6_inside 0 = .ok (.iload_n 2, 1) := by decide +kernel
theorem dX6_inside_1 : decode cX6_inside 1 = .ok (.iconst 5, 1) := by decide +kernel
theorem dX6_inside_2 : decode cX6_inside 2 = .ok (.invokestatic 66, 3) := by decide +kernel
theorem dX6_inside_5 : decode cX6_inside 5 = .ok (.ifCond .ne 7, 3) := by decide +kernel
theorem dX6_inside_8 : decode cX6_inside 8 = .ok (.ldc2_w 143, 3) := by decide +kernel
theorem dX6_inside_11 : decode cX6_inside 11 = .ok (.lreturn, 1) := by decide +kernel
theorem dX6_inside_12 : decode cX6_inside 12 = .ok (.aload_n 0, 1) := by decide +kernel
theorem dX6_inside_13 : decode cX6_inside 13 = .ok (.getfield 92, 3) := by decide +kernel
theorem dX6_inside_16 : decode cX6_inside 16 = .ok (.ifCond .ne 7, 3) := by decide +kernel
theorem dX6_inside_19 : decode cX6_inside 19 = .ok (.ldc2_w 145, 3) := by decide +kernel
theorem dX6_inside_22 : decode cX6_inside 22 = .ok (.lreturn, 1) := by decide +kernel
theorem dX6_inside_23 : decode cX6_inside 23 = .ok (.iload_n 1, 1) := by decide +kernel
theorem dX6_inside_24 : decode cX6_inside 24 = .ok (.aload_n 0, 1) := by decide +kernel
theorem dX6_inside_25 : decode cX6_inside 25 = .ok (.getfield 21, 3) := by decide +kernel
theorem dX6_inside_28 : decode cX6_inside 28 = .ok (.getfield 103, 3) := by decide +kernel
theorem dX6_inside_31 : decode cX6_inside 31 = .ok (.getfield 107, 3) := by decide +kernel
theorem dX6_inside_34 : decode cX6_inside 34 = .ok (.invokestatic 66, 3) := by decide +kernel
theorem dX6_inside_37 : decode cX6_inside 37 = .ok (.ifCond .eq 15, 3) := by decide +kernel
theorem dX6_inside_40 : decode cX6_inside 40 = .ok (.aload_n 0, 1) := by decide +kernel
theorem dX6_inside_41 : decode cX6_inside 41 = .ok (.getfield 21, 3) := by decide +kernel
theorem dX6_inside_44 : decode cX6_inside 44 = .ok (.iload_n 1, 1) := by decide +kernel
theorem dX6_inside_45 : decode cX6_inside 45 = .ok (.iload_n 2, 1) := by decide +kernel
theorem dX6_inside_46 : decode cX6_inside 46 = .ok (.invokevirtual 151, 3) := by decide +kernel
theorem dX6_inside_49 : decode cX6_inside 49 = .ok (.goto 6, 3) := by decide +kernel
theorem dX6_inside_52 : decode cX6_inside 52 = .ok (.ldc2_w 143, 3) := by decide +kernel
theorem dX6_inside_55 : decode cX6_inside 55 = .ok (.lreturn, 1) := by decide +kernel
theorem dX6_global_0 : decode cX6_global 0 = .ok (.iload_n 1, 1) := by decide +kernel
theorem dX6_global_1 : decode cX6_global 1 = .ok (.iconst 4, 1) := by decide +kernel
theorem dX6_global_2 : decode cX6_global 2 = .ok (.invokestatic 66, 3) := by decide +kernel
theorem dX6_global_5 : decode cX6_global 5 = .ok (.ifCond .ne 7, 3) := by decide +kernel
theorem dX6_global_8 : decode cX6_global 8 = .ok (.ldc2_w 143, 3) := by decide +kernel
theorem dX6_global_11 : decode cX6_global 11 = .ok (.lreturn, 1) := by decide +kernel
theorem dX6_global_12 : decode cX6_global 12 = .ok (.aload_n 0, 1) := by decide +kernel
theorem dX6_global_13 : decode cX6_global 13 = .ok (.getfield 92, 3) := by decide +kernel
theorem dX6_global_16 : decode cX6_global 16 = .ok (.ifCond .eq 15, 3) := by decide +kernel
theorem dX6_global_19 : decode cX6_global 19 = .ok (.aload_n 0, 1) := by decide +kernel
theorem dX6_global_20 : decode cX6_global 20 = .ok (.getfield 21, 3) := by decide +kernel
theorem dX6_global_23 : decode cX6_global 23 = .ok (.getfield 154, 3) := by decide +kernel
theorem dX6_global_26 : decode cX6_global 26 = .ok (.iload_n 1, 1) := by decide +kernel
theorem dX6_global_27 : decode cX6_global 27 = .ok (.laload, 1) := by decide +kernel
theorem dX6_global_28 : decode cX6_global 28 = .ok (.goto 6, 3) := by decide +kernel
theorem dX6_global_31 : decode cX6_global 31 = .ok (.ldc2_w 145, 3) := by decide +kernel
theorem dX6_global_34 : decode cX6_global 34 = .ok (.lreturn, 1) := by decide +kernel
theorem dX6_leads_0 : decode cX6_leads 0 = .ok (.aload_n 0, 1) := by decide +kernel
theorem dX6_leads_1 : decode cX6_leads 1 = .ok (.getfield 10, 3) := by decide +kernel
theorem dX6_leads_4 : decode cX6_leads 4 = .ok (.iload_n 2, 1) := by decide +kernel
theorem dX6_leads_5 : decode cX6_leads 5 = .ok (.invokevirtual 158, 3) := by decide +kernel
theorem dX6_leads_8 : decode cX6_leads 8 = .ok (.ifCond .ne 5, 3) := by decide +kernel
theorem dX6_leads_11 : decode cX6_leads 11 = .ok (.iconst (-1), 1) := by decide +kernel
theorem dX6_leads_12 : decode cX6_leads 12 = .ok (.ireturn, 1) := by decide +kernel
theorem dX6_leads_13 : decode cX6_leads 13 = .ok (.aload_n 0, 1) := by decide +kernel
theorem dX6_leads_14 : decode cX6_leads 14 = .ok (.getfield 92, 3) := by decide +kernel
theorem dX6_leads_17 : decode cX6_leads 17 = .ok (.ifCond .ne 6, 3) := by decide +kernel
theorem dX6_leads_20 : decode cX6_leads 20 = .ok (.bipush (-2), 2) := by decide +kernel
theorem dX6_leads_22 : decode cX6_leads 22 = .ok (.ireturn, 1) := by decide +kernel
theorem dX6_leads_23 : decode cX6_leads 23 = .ok (.iload_n 1, 1) := by decide +kernel
theorem dX6_leads_24 : decode cX6_leads 24 = .ok (.aload_n 0, 1) := by decide +kernel
theorem dX6_leads_25 : decode cX6_leads 25 = .ok (.getfield 21, 3) := by decide +kernel
theorem dX6_leads_28 : decode cX6_leads 28 = .ok (.getfield 103, 3) := by decide +kernel
theorem dX6_leads_31 : decode cX6_leads 31 = .ok (.getfield 128, 3) := by decide +kernel
theorem dX6_leads_34 : decode cX6_leads 34 = .ok (.invokestatic 66, 3) := by decide +kernel
theorem dX6_leads_37 : decode cX6_leads 37 = .ok (.ifCond .eq 27, 3) := by decide +kernel
theorem dX6_leads_40 : decode cX6_leads 40 = .ok (.aload_n 0, 1) := by decide +kernel
theorem dX6_leads_41 : decode cX6_leads 41 = .ok (.getfield 10, 3) := by decide +kernel
theorem dX6_leads_44 : decode cX6_leads 44 = .ok (.getfield 161, 3) := by decide +kernel
theorem dX6_leads_47 : decode cX6_leads 47 = .ok (.iload_n 2, 1) := by decide +kernel
theorem dX6_leads_48 : decode cX6_leads 48 = .ok (.iaload, 1) := by decide +kernel
theorem dX6_leads_49 : decode cX6_leads 49 = .ok (.aload_n 0, 1) := by decide +kernel
theorem dX6_leads_50 : decode cX6_leads 50 = .ok (.getfield 21, 3) := by decide +kernel
theorem dX6_leads_53 : decode cX6_leads 53 = .ok (.getfield 103, 3) := by decide +kernel
theorem dX6_leads_56 : decode cX6_leads 56 = .ok (.getfield 131, 3) := by decide +kernel
theorem dX6_leads_59 : decode cX6_leads 59 = .ok (.iload_n 1, 1) := by decide +kernel
theorem dX6_leads_60 : decode cX6_leads 60 = .ok (.iaload, 1) := by decide +kernel
theorem dX6_leads_61 : decode cX6_leads 61 = .ok (.if_icmp .eq 5, 3) := by decide +kernel
theorem dX6_leads_64 : decode cX6_leads 64 = .ok (.iconst (-1), 1) := by decide +kernel
theorem dX6_leads_65 : decode cX6_leads 65 = .ok (.ireturn, 1) := by decide +kernel
theorem dX6_leads_66 : decode cX6_leads 66 = .ok (.aload_n 0, 1) := by decide +kernel
theorem dX6_leads_67 : decode cX6_leads 67 = .ok (.getfield 21, 3) := by decide +kernel
theorem dX6_leads_70 : decode cX6_leads 70 = .ok (.iload_n 1, 1) := by decide +kernel
theorem dX6_leads_71 : decode cX6_leads 71 = .ok (.iload_n 2, 1) := by decide +kernel
theorem dX6_leads_72 : decode cX6_leads 72 = .ok (.iload_n 3, 1) := by decide +kernel
theorem dX6_leads_73 : decode cX6_leads 73 = .ok (.invokevirtual 164, 3) := by decide +kernel
theorem dX6_leads_76 : decode cX6_leads 76 = .ok (.ireturn, 1) := by decide +kernel
theorem dX6_run_0 : decode cX6_run 0 = .ok (.iload_n 3, 1) := by decide +kernel
theorem dX6_run_1 : decode cX6_run 1 = .ok (.iconst 1, 1) := by decide +kernel
theorem dX6_run_2 : decode cX6_run 2 = .ok (.if_icmp .lt 10, 3) := by decide +kernel
theorem dX6_run_5 : decode cX6_run 5 = .ok (.iload_n 3, 1) := by decide +kernel
theorem dX6_run_6 : decode cX6_run 6 = .ok (.sipush 300, 3) := by decide +kernel
theorem dX6_run_9 : decode cX6_run 9 = .ok (.if_icmp .le 5, 3) := by decide +kernel
theorem dX6_run_12 : decode cX6_run 12 = .ok (.iconst (-1), 1) := by decide +kernel
theorem dX6_run_13 : decode cX6_run 13 = .ok (.ireturn, 1) := by decide +kernel
theorem dX6_run_14 : decode cX6_run 14 = .ok (.aload_n 0, 1) := by decide +kernel
theorem dX6_run_15 : decode cX6_run 15 = .ok (.getfield 92, 3) := by decide +kernel
theorem dX6_run_18 : decode cX6_run 18 = .ok (.ifCond .ne 6, 3) := by decide +kernel
theorem dX6_run_21 : decode cX6_run 21 = .ok (.bipush (-2), 2) := by decide +kernel
theorem dX6_run_23 : decode cX6_run 23 = .ok (.ireturn, 1) := by decide +kernel
theorem dX6_run_24 : decode cX6_run 24 = .ok (.aload_n 0, 1) := by decide +kernel
theorem dX6_run_25 : decode cX6_run 25 = .ok (.iconst 1, 1) := by decide +kernel
theorem dX6_run_26 : decode cX6_run 26 = .ok (.putfield 96, 3) := by decide +kernel
theorem dX6_run_29 : decode cX6_run 29 = .ok (.aload_n 0, 1) := by decide +kernel
theorem dX6_run_30 : decode cX6_run 30 = .ok (.getfield 33, 3) := by decide +kernel
theorem dX6_run_33 : decode cX6_run 33 = .ok (.aload_n 0, 1) := by decide +kernel
theorem dX6_run_34 : decode cX6_run 34 = .ok (.getfield 89, 3) := by decide +kernel
theorem dX6_run_37 : decode cX6_run 37 = .ok (.lload_n 1, 1) := by decide +kernel
theorem dX6_run_38 : decode cX6_run 38 = .ok (.iload_n 3, 1) := by decide +kernel
theorem dX6_run_39 : decode cX6_run 39 = .ok (.invokevirtual 167, 3) := by decide +kernel
theorem dX6_run_42 : decode cX6_run 42 = .ok (.ireturn, 1) := by decide +kernel
theorem dX6_ran_0 : decode cX6_ran 0 = .ok (.iload_n 1, 1) := by decide +kernel
theorem dX6_ran_1 : decode cX6_ran 1 = .ok (.bipush 9, 2) := by decide +kernel
theorem dX6_ran_3 : decode cX6_ran 3 = .ok (.invokestatic 66, 3) := by decide +kernel
theorem dX6_ran_6 : decode cX6_ran 6 = .ok (.ifCond .ne 5, 3) := by decide +kernel
theorem dX6_ran_9 : decode cX6_ran 9 = .ok (.iconst (-1), 1) := by decide +kernel
theorem dX6_ran_10 : decode cX6_ran 10 = .ok (.ireturn, 1) := by decide +kernel
theorem dX6_ran_11 : decode cX6_ran 11 = .ok (.aload_n 0, 1) := by decide +kernel
theorem dX6_ran_12 : decode cX6_ran 12 = .ok (.getfield 96, 3) := by decide +kernel
theorem dX6_ran_15 : decode cX6_ran 15 = .ok (.ifCond .eq 15, 3) := by decide +kernel
theorem dX6_ran_18 : decode cX6_ran 18 = .ok (.aload_n 0, 1) := by decide +kernel
theorem dX6_ran_19 : decode cX6_ran 19 = .ok (.getfield 33, 3) := by decide +kernel
theorem dX6_ran_22 : decode cX6_ran 22 = .ok (.getfield 171, 3) := by decide +kernel
theorem dX6_ran_25 : decode cX6_ran 25 = .ok (.iload_n 1, 1) := by decide +kernel
theorem dX6_ran_26 : decode cX6_ran 26 = .ok (.iaload, 1) := by decide +kernel
theorem dX6_ran_27 : decode cX6_ran 27 = .ok (.goto 5, 3) := by decide +kernel
theorem dX6_ran_30 : decode cX6_ran 30 = .ok (.bipush (-9), 2) := by decide +kernel
theorem dX6_ran_32 : decode cX6_ran 32 = .ok (.ireturn, 1) := by decide +kernel
theorem dX6_object_0 : decode cX6_object 0 = .ok (.iload_n 2, 1) := by decide +kernel
theorem dX6_object_1 : decode cX6_object 1 = .ok (.bipush 13, 2) := by decide +kernel
theorem dX6_object_3 : decode cX6_object 3 = .ok (.invokestatic 66, 3) := by decide +kernel
theorem dX6_object_6 : decode cX6_object 6 = .ok (.ifCond .eq 27, 3) := by decide +kernel
theorem dX6_object_9 : decode cX6_object 9 = .ok (.aload_n 0, 1) := by decide +kernel
theorem dX6_object_10 : decode cX6_object 10 = .ok (.getfield 96, 3) := by decide +kernel
theorem dX6_object_13 : decode cX6_object 13 = .ok (.ifCond .eq 20, 3) := by decide +kernel
theorem dX6_object_16 : decode cX6_object 16 = .ok (.iload_n 1, 1) := by decide +kernel
theorem dX6_object_17 : decode cX6_object 17 = .ok (.aload_n 0, 1) := by decide +kernel
theorem dX6_object_18 : decode cX6_object 18 = .ok (.getfield 33, 3) := by decide +kernel
theorem dX6_object_21 : decode cX6_object 21 = .ok (.getfield 174, 3) := by decide +kernel
theorem dX6_object_24 : decode cX6_object 24 = .ok (.getfield 178, 3) := by decide +kernel
theorem dX6_object_27 : decode cX6_object 27 = .ok (.invokestatic 66, 3) := by decide +kernel
theorem dX6_object_30 : decode cX6_object 30 = .ok (.ifCond .ne 5, 3) := by decide +kernel
theorem dX6_object_33 : decode cX6_object 33 = .ok (.iconst (-1), 1) := by decide +kernel
theorem dX6_object_34 : decode cX6_object 34 = .ok (.ireturn, 1) := by decide +kernel
theorem dX6_object_35 : decode cX6_object 35 = .ok (.iload_n 2, 1) := by decide +kernel
theorem dX6_object_36 : decode cX6_object 36 = .ok (.tableswitch 83 0 3 #[32, 45, 58, 71], 32) := by decide +kernel
theorem dX6_object_68 : decode cX6_object 68 = .ok (.aload_n 0, 1) := by decide +kernel
theorem dX6_object_69 : decode cX6_object 69 = .ok (.getfield 33, 3) := by decide +kernel
theorem dX6_object_72 : decode cX6_object 72 = .ok (.getfield 174, 3) := by decide +kernel
theorem dX6_object_75 : decode cX6_object 75 = .ok (.getfield 183, 3) := by decide +kernel
theorem dX6_object_78 : decode cX6_object 78 = .ok (.iload_n 1, 1) := by decide +kernel
theorem dX6_object_79 : decode cX6_object 79 = .ok (.iaload, 1) := by decide +kernel
theorem dX6_object_80 : decode cX6_object 80 = .ok (.ireturn, 1) := by decide +kernel
theorem dX6_object_81 : decode cX6_object 81 = .ok (.aload_n 0, 1) := by decide +kernel
theorem dX6_object_82 : decode cX6_object 82 = .ok (.getfield 33, 3) := by decide +kernel
theorem dX6_object_85 : decode cX6_object 85 = .ok (.getfield 174, 3) := by decide +kernel
theorem dX6_object_88 : decode cX6_object 88 = .ok (.getfield 186, 3) := by decide +kernel
theorem dX6_object_91 : decode cX6_object 91 = .ok (.iload_n 1, 1) := by decide +kernel
theorem dX6_object_92 : decode cX6_object 92 = .ok (.iaload, 1) := by decide +kernel
theorem dX6_object_93 : decode cX6_object 93 = .ok (.ireturn, 1) := by decide +kernel
theorem dX6_object_94 : decode cX6_object 94 = .ok (.aload_n 0, 1) := by decide +kernel
theorem dX6_object_95 : decode cX6_object 95 = .ok (.getfield 33, 3) := by decide +kernel
theorem dX6_object_98 : decode cX6_object 98 = .ok (.getfield 174, 3) := by decide +kernel
theorem dX6_object_101 : decode cX6_object 101 = .ok (.getfield 189, 3) := by decide +kernel
theorem dX6_object_104 : decode cX6_object 104 = .ok (.iload_n 1, 1) := by decide +kernel
theorem dX6_object_105 : decode cX6_object 105 = .ok (.iaload, 1) := by decide +kernel
theorem dX6_object_106 : decode cX6_object 106 = .ok (.ireturn, 1) := by decide +kernel
theorem dX6_object_107 : decode cX6_object 107 = .ok (.aload_n 0, 1) := by decide +kernel
theorem dX6_object_108 : decode cX6_object 108 = .ok (.getfield 33, 3) := by decide +kernel
theorem dX6_object_111 : decode cX6_object 111 = .ok (.getfield 174, 3) := by decide +kernel
theorem dX6_object_114 : decode cX6_object 114 = .ok (.iload_n 1, 1) := by decide +kernel
theorem dX6_object_115 : decode cX6_object 115 = .ok (.invokevirtual 192, 3) := by decide +kernel
theorem dX6_object_118 : decode cX6_object 118 = .ok (.ireturn, 1) := by decide +kernel
theorem dX6_object_119 : decode cX6_object 119 = .ok (.iload_n 2, 1) := by decide +kernel
theorem dX6_object_120 : decode cX6_object 120 = .ok (.bipush 8, 2) := by decide +kernel
theorem dX6_object_122 : decode cX6_object 122 = .ok (.if_icmp .ge 20, 3) := by decide +kernel
theorem dX6_object_125 : decode cX6_object 125 = .ok (.aload_n 0, 1) := by decide +kernel
theorem dX6_object_126 : decode cX6_object 126 = .ok (.getfield 33, 3) := by decide +kernel
theorem dX6_object_129 : decode cX6_object 129 = .ok (.getfield 174, 3) := by decide +kernel
theorem dX6_object_132 : decode cX6_object 132 = .ok (.iload_n 1, 1) := by decide +kernel
theorem dX6_object_133 : decode cX6_object 133 = .ok (.iload_n 2, 1) := by decide +kernel
theorem dX6_object_134 : decode cX6_object 134 = .ok (.iconst 4, 1) := by decide +kernel
theorem dX6_object_135 : decode cX6_object 135 = .ok (.isub, 1) := by decide +kernel
theorem dX6_object_136 : decode cX6_object 136 = .ok (.invokevirtual 195, 3) := by decide +kernel
theorem dX6_object_139 : decode cX6_object 139 = .ok (.goto 18, 3) := by decide +kernel
theorem dX6_object_142 : decode cX6_object 142 = .ok (.aload_n 0, 1) := by decide +kernel
theorem dX6_object_143 : decode cX6_object 143 = .ok (.getfield 33, 3) := by decide +kernel
theorem dX6_object_146 : decode cX6_object 146 = .ok (.getfield 174, 3) := by decide +kernel
theorem dX6_object_149 : decode cX6_object 149 = .ok (.iload_n 1, 1) := by decide +kernel
theorem dX6_object_150 : decode cX6_object 150 = .ok (.iload_n 2, 1) := by decide +kernel
theorem dX6_object_151 : decode cX6_object 151 = .ok (.bipush 8, 2) := by decide +kernel
theorem dX6_object_153 : decode cX6_object 153 = .ok (.isub, 1) := by decide +kernel
theorem dX6_object_154 : decode cX6_object 154 = .ok (.invokevirtual 198, 3) := by decide +kernel
theorem dX6_object_157 : decode cX6_object 157 = .ok (.ireturn, 1) := by decide +kernel
theorem dX6_many_0 : decode cX6_many 0 = .ok (.aload_n 0, 1) := by decide +kernel
theorem dX6_many_1 : decode cX6_many 1 = .ok (.getfield 92, 3) := by decide +kernel
theorem dX6_many_4 : decode cX6_many 4 = .ok (.ifCond .ne 6, 3) := by decide +kernel
theorem dX6_many_7 : decode cX6_many 7 = .ok (.bipush (-2), 2) := by decide +kernel
theorem dX6_many_9 : decode cX6_many 9 = .ok (.ireturn, 1) := by decide +kernel
theorem dX6_many_10 : decode cX6_many 10 = .ok (.iload_n 1, 1) := by decide +kernel
theorem dX6_many_11 : decode cX6_many 11 = .ok (.aload_n 0, 1) := by decide +kernel
theorem dX6_many_12 : decode cX6_many 12 = .ok (.getfield 21, 3) := by decide +kernel
theorem dX6_many_15 : decode cX6_many 15 = .ok (.getfield 103, 3) := by decide +kernel
theorem dX6_many_18 : decode cX6_many 18 = .ok (.getfield 107, 3) := by decide +kernel
theorem dX6_many_21 : decode cX6_many 21 = .ok (.invokestatic 66, 3) := by decide +kernel
theorem dX6_many_24 : decode cX6_many 24 = .ok (.ifCond .ne 5, 3) := by decide +kernel
theorem dX6_many_27 : decode cX6_many 27 = .ok (.iconst (-1), 1) := by decide +kernel
theorem dX6_many_28 : decode cX6_many 28 = .ok (.ireturn, 1) := by decide +kernel
theorem dX6_many_29 : decode cX6_many 29 = .ok (.aload_n 0, 1) := by decide +kernel
theorem dX6_many_30 : decode cX6_many 30 = .ok (.getfield 96, 3) := by decide +kernel
theorem dX6_many_33 : decode cX6_many 33 = .ok (.ifCond .eq 17, 3) := by decide +kernel
theorem dX6_many_36 : decode cX6_many 36 = .ok (.aload_n 0, 1) := by decide +kernel
theorem dX6_many_37 : decode cX6_many 37 = .ok (.getfield 33, 3) := by decide +kernel
theorem dX6_many_40 : decode cX6_many 40 = .ok (.getfield 174, 3) := by decide +kernel
theorem dX6_many_43 : decode cX6_many 43 = .ok (.iload_n 1, 1) := by decide +kernel
theorem dX6_many_44 : decode cX6_many 44 = .ok (.invokevirtual 201, 3) := by decide +kernel
theorem dX6_many_47 : decode cX6_many 47 = .ok (.goto 5, 3) := by decide +kernel
theorem dX6_many_50 : decode cX6_many 50 = .ok (.bipush (-9), 2) := by decide +kernel
theorem dX6_many_52 : decode cX6_many 52 = .ok (.ireturn, 1) := by decide +kernel
theorem dX6_count_0 : decode cX6_count 0 = .ok (.iload_n 1, 1) := by decide +kernel
theorem dX6_count_1 : decode cX6_count 1 = .ok (.tableswitch 132 0 6 #[43, 51, 59, 67, 89, 111, 119], 43) := by decide +kernel
theorem dX6_count_44 : decode cX6_count 44 = .ok (.aload_n 0, 1) := by decide +kernel
theorem dX6_count_45 : decode cX6_count 45 = .ok (.getfield 10, 3) := by decide +kernel
theorem dX6_count_48 : decode cX6_count 48 = .ok (.getfield 41, 3) := by decide +kernel
theorem dX6_count_51 : decode cX6_count 51 = .ok (.ireturn, 1) := by decide +kernel
theorem dX6_count_52 : decode cX6_count 52 = .ok (.aload_n 0, 1) := by decide +kernel
theorem dX6_count_53 : decode cX6_count 53 = .ok (.getfield 10, 3) := by decide +kernel
theorem dX6_count_56 : decode cX6_count 56 = .ok (.getfield 56, 3) := by decide +kernel
theorem dX6_count_59 : decode cX6_count 59 = .ok (.ireturn, 1) := by decide +kernel
theorem dX6_count_60 : decode cX6_count 60 = .ok (.aload_n 0, 1) := by decide +kernel
theorem dX6_count_61 : decode cX6_count 61 = .ok (.getfield 10, 3) := by decide +kernel
theorem dX6_count_64 : decode cX6_count 64 = .ok (.getfield 204, 3) := by decide +kernel
theorem dX6_count_67 : decode cX6_count 67 = .ok (.ireturn, 1) := by decide +kernel
theorem dX6_count_68 : decode cX6_count 68 = .ok (.aload_n 0, 1) := by decide +kernel
theorem dX6_count_69 : decode cX6_count 69 = .ok (.getfield 92, 3) := by decide +kernel
theorem dX6_count_72 : decode cX6_count 72 = .ok (.ifCond .eq 16, 3) := by decide +kernel
theorem dX6_count_75 : decode cX6_count 75 = .ok (.aload_n 0, 1) := by decide +kernel
theorem dX6_count_76 : decode cX6_count 76 = .ok (.getfield 21, 3) := by decide +kernel
theorem dX6_count_79 : decode cX6_count 79 = .ok (.getfield 103, 3) := by decide +kernel
theorem dX6_count_82 : decode cX6_count 82 = .ok (.getfield 128, 3) := by decide +kernel
theorem dX6_count_85 : decode cX6_count 85 = .ok (.goto 4, 3) := by decide +kernel
theorem dX6_count_88 : decode cX6_count 88 = .ok (.iconst 0, 1) := by decide +kernel
theorem dX6_count_89 : decode cX6_count 89 = .ok (.ireturn, 1) := by decide +kernel
theorem dX6_count_90 : decode cX6_count 90 = .ok (.aload_n 0, 1) := by decide +kernel
theorem dX6_count_91 : decode cX6_count 91 = .ok (.getfield 92, 3) := by decide +kernel
theorem dX6_count_94 : decode cX6_count 94 = .ok (.ifCond .eq 16, 3) := by decide +kernel
theorem dX6_count_97 : decode cX6_count 97 = .ok (.aload_n 0, 1) := by decide +kernel
theorem dX6_count_98 : decode cX6_count 98 = .ok (.getfield 21, 3) := by decide +kernel
theorem dX6_count_101 : decode cX6_count 101 = .ok (.getfield 103, 3) := by decide +kernel
theorem dX6_count_104 : decode cX6_count 104 = .ok (.getfield 107, 3) := by decide +kernel
theorem dX6_count_107 : decode cX6_count 107 = .ok (.goto 4, 3) := by decide +kernel
theorem dX6_count_110 : decode cX6_count 110 = .ok (.iconst 0, 1) := by decide +kernel
theorem dX6_count_111 : decode cX6_count 111 = .ok (.ireturn, 1) := by decide +kernel
theorem dX6_count_112 : decode cX6_count 112 = .ok (.aload_n 0, 1) := by decide +kernel
theorem dX6_count_113 : decode cX6_count 113 = .ok (.getfield 21, 3) := by decide +kernel
theorem dX6_count_116 : decode cX6_count 116 = .ok (.getfield 207, 3) := by decide +kernel
theorem dX6_count_119 : decode cX6_count 119 = .ok (.ireturn, 1) := by decide +kernel
theorem dX6_count_120 : decode cX6_count 120 = .ok (.aload_n 0, 1) := by decide +kernel
theorem dX6_count_121 : decode cX6_count 121 = .ok (.getfield 92, 3) := by decide +kernel
theorem dX6_count_124 : decode cX6_count 124 = .ok (.ifCond .eq 7, 3) := by decide +kernel
theorem dX6_count_127 : decode cX6_count 127 = .ok (.iconst 1, 1) := by decide +kernel
theorem dX6_count_128 : decode cX6_count 128 = .ok (.goto 4, 3) := by decide +kernel
theorem dX6_count_131 : decode cX6_count 131 = .ok (.iconst 0, 1) := by decide +kernel
theorem dX6_count_132 : decode cX6_count 132 = .ok (.ireturn, 1) := by decide +kernel
theorem dX6_count_133 : decode cX6_count 133 = .ok (.iconst (-1), 1) := by decide +kernel
theorem dX6_count_134 : decode cX6_count 134 = .ok (.ireturn, 1) := by decide +kernel
theorem dX6_within_0 : decode cX6_within 0 = .ok (.iload_n 1, 1) := by decide +kernel
theorem dX6_within_1 : decode cX6_within 1 = .ok (.iconst 3, 1) := by decide +kernel
theorem dX6_within_2 : decode cX6_within 2 = .ok (.invokestatic 66, 3) := by decide +kernel
theorem dX6_within_5 : decode cX6_within 5 = .ok (.ifCond .eq 11, 3) := by decide +kernel
theorem dX6_within_8 : decode cX6_within 8 = .ok (.iload_n 2, 1) := by decide +kernel
theorem dX6_within_9 : decode cX6_within 9 = .ok (.iconst 3, 1) := by decide +kernel
theorem dX6_within_10 : decode cX6_within 10 = .ok (.invokestatic 66, 3) := by decide +kernel
theorem dX6_within_13 : decode cX6_within 13 = .ok (.ifCond .ne 5, 3) := by decide +kernel
theorem dX6_within_16 : decode cX6_within 16 = .ok (.iconst (-1), 1) := by decide +kernel
theorem dX6_within_17 : decode cX6_within 17 = .ok (.ireturn, 1) := by decide +kernel
theorem dX6_within_18 : decode cX6_within 18 = .ok (.aload_n 0, 1) := by decide +kernel
theorem dX6_within_19 : decode cX6_within 19 = .ok (.getfield 92, 3) := by decide +kernel
theorem dX6_within_22 : decode cX6_within 22 = .ok (.ifCond .ne 6, 3) := by decide +kernel
theorem dX6_within_25 : decode cX6_within 25 = .ok (.bipush (-2), 2) := by decide +kernel
theorem dX6_within_27 : decode cX6_within 27 = .ok (.ireturn, 1) := by decide +kernel
theorem dX6_within_28 : decode cX6_within 28 = .ok (.aload_n 0, 1) := by decide +kernel
theorem dX6_within_29 : decode cX6_within 29 = .ok (.getfield 25, 3) := by decide +kernel
theorem dX6_within_32 : decode cX6_within 32 = .ok (.aload_n 0, 1) := by decide +kernel
theorem dX6_within_33 : decode cX6_within 33 = .ok (.getfield 89, 3) := by decide +kernel
theorem dX6_within_36 : decode cX6_within 36 = .ok (.iload_n 1, 1) := by decide +kernel
theorem dX6_within_37 : decode cX6_within 37 = .ok (.iload_n 2, 1) := by decide +kernel
theorem dX6_within_38 : decode cX6_within 38 = .ok (.invokevirtual 99, 3) := by decide +kernel
theorem dX6_within_41 : decode cX6_within 41 = .ok (.pop, 1) := by decide +kernel
theorem dX6_within_42 : decode cX6_within 42 = .ok (.iconst 0, 1) := by decide +kernel
theorem dX6_within_43 : decode cX6_within 43 = .ok (.istore_n 3, 1) := by decide +kernel
theorem dX6_within_44 : decode cX6_within 44 = .ok (.iload_n 3, 1) := by decide +kernel
theorem dX6_within_45 : decode cX6_within 45 = .ok (.aload_n 0, 1) := by decide +kernel
theorem dX6_within_46 : decode cX6_within 46 = .ok (.getfield 10, 3) := by decide +kernel
theorem dX6_within_49 : decode cX6_within 49 = .ok (.getfield 56, 3) := by decide +kernel
theorem dX6_within_52 : decode cX6_within 52 = .ok (.if_icmp .ge 44, 3) := by decide +kernel
theorem dX6_within_55 : decode cX6_within 55 = .ok (.iconst 0, 1) := by decide +kernel
theorem dX6_within_56 : decode cX6_within 56 = .ok (.istore 4, 2) := by decide +kernel
theorem dX6_within_58 : decode cX6_within 58 = .ok (.iload 4, 2) := by decide +kernel
theorem dX6_within_60 : decode cX6_within 60 = .ok (.bipush 6, 2) := by decide +kernel
theorem dX6_within_62 : decode cX6_within 62 = .ok (.if_icmp .ge 28, 3) := by decide +kernel
theorem dX6_within_65 : decode cX6_within 65 = .ok (.aload_n 0, 1) := by decide +kernel
theorem dX6_within_66 : decode cX6_within 66 = .ok (.getfield 25, 3) := by decide +kernel
theorem dX6_within_69 : decode cX6_within 69 = .ok (.aload_n 0, 1) := by decide +kernel
theorem dX6_within_70 : decode cX6_within 70 = .ok (.getfield 21, 3) := by decide +kernel
theorem dX6_within_73 : decode cX6_within 73 = .ok (.iload_n 3, 1) := by decide +kernel
theorem dX6_within_74 : decode cX6_within 74 = .ok (.iload 4, 2) := by decide +kernel
theorem dX6_within_76 : decode cX6_within 76 = .ok (.invokevirtual 210, 3) := by decide +kernel
theorem dX6_within_79 : decode cX6_within 79 = .ok (.ifCond .ne 5, 3) := by decide +kernel
theorem dX6_within_82 : decode cX6_within 82 = .ok (.iconst 0, 1) := by decide +kernel
theorem dX6_within_83 : decode cX6_within 83 = .ok (.ireturn, 1) := by decide +kernel
theorem dX6_within_84 : decode cX6_within 84 = .ok (.iinc 4 1, 3) := by decide +kernel
theorem dX6_within_87 : decode cX6_within 87 = .ok (.goto (-29), 3) := by decide +kernel
theorem dX6_within_90 : decode cX6_within 90 = .ok (.iinc 3 1, 3) := by decide +kernel
theorem dX6_within_93 : decode cX6_within 93 = .ok (.goto (-49), 3) := by decide +kernel
theorem dX6_within_96 : decode cX6_within 96 = .ok (.iconst 1, 1) := by decide +kernel
theorem dX6_within_97 : decode cX6_within 97 = .ok (.ireturn, 1) := by decide +kernel
theorem dX6_changed_0 : decode cX6_changed 0 = .ok (.aload_n 0, 1) := by decide +kernel
theorem dX6_changed_1 : decode cX6_changed 1 = .ok (.iconst 0, 1) := by decide +kernel
theorem dX6_changed_2 : decode cX6_changed 2 = .ok (.putfield 92, 3) := by decide +kernel
theorem dX6_changed_5 : decode cX6_changed 5 = .ok (.aload_n 0, 1) := by decide +kernel
theorem dX6_changed_6 : decode cX6_changed 6 = .ok (.iconst 0, 1) := by decide +kernel
theorem dX6_changed_7 : decode cX6_changed 7 = .ok (.putfield 96, 3) := by decide +kernel
theorem dX6_changed_10 : decode cX6_changed 10 = .ok (.iload_n 1, 1) := by decide +kernel
theorem dX6_changed_11 : decode cX6_changed 11 = .ok (.ireturn, 1) := by decide +kernel
theorem dX6_isIn_0 : decode cX6_isIn 0 = .ok (.iload_n 0, 1) := by decide +kernel
theorem dX6_isIn_1 : decode cX6_isIn 1 = .ok (.ifCond .lt 12, 3) := by decide +kernel
theorem dX6_isIn_4 : decode cX6_isIn 4 = .ok (.iload_n 0, 1) := by decide +kernel
theorem dX6_isIn_5 : decode cX6_isIn 5 = .ok (.iload_n 1, 1) := by decide +kernel
theorem dX6_isIn_6 : decode cX6_isIn 6 = .ok (.if_icmp .ge 7, 3) := by decide +kernel
theorem dX6_isIn_9 : decode cX6_isIn 9 = .ok (.iconst 1, 1) := by decide +kernel
theorem dX6_isIn_10 : decode cX6_isIn 10 = .ok (.goto 4, 3) := by decide +kernel
theorem dX6_isIn_13 : decode cX6_isIn 13 = .ok (.iconst 0, 1) := by decide +kernel
theorem dX6_isIn_14 : decode cX6_isIn 14 = .ok (.ireturn, 1) := by decide +kernel
theorem dX7_init_0 : decode cX7_init 0 = .ok (.aload_n 0, 1) := by decide +kernel
theorem dX7_init_1 : decode cX7_init 1 = .ok (.invokespecial 1, 3) := by decide +kernel
theorem dX7_init_4 : decode cX7_init 4 = .ok (.aload_n 0, 1) := by decide +kernel
theorem dX7_init_5 : decode cX7_init 5 = .ok (.iconst 1, 1) := by decide +kernel
theorem dX7_init_6 : decode cX7_init 6 = .ok (.putfield 7, 3) := by decide +kernel
theorem dX7_init_9 : decode cX7_init 9 = .ok (.aload_n 0, 1) := by decide +kernel
theorem dX7_init_10 : decode cX7_init 10 = .ok (.bipush 10, 2) := by decide +kernel
theorem dX7_init_12 : decode cX7_init 12 = .ok (.newarray .int, 2) := by decide +kernel
theorem dX7_init_14 : decode cX7_init 14 = .ok (.dup, 1) := by decide +kernel
theorem dX7_init_15 : decode cX7_init 15 = .ok (.iconst 0, 1) := by decide +kernel
theorem dX7_init_16 : decode cX7_init 16 = .ok (.iconst (-1), 1) := by decide +kernel
theorem dX7_init_17 : decode cX7_init 17 = .ok (.iastore, 1) := by decide +kernel
theorem dX7_init_18 : decode cX7_init 18 = .ok (.dup, 1) := by decide +kernel
theorem dX7_init_19 : decode cX7_init 19 = .ok (.iconst 1, 1) := by decide +kernel
theorem dX7_init_20 : decode cX7_init 20 = .ok (.iconst (-1), 1) := by decide +kernel
theorem dX7_init_21 : decode cX7_init 21 = .ok (.iastore, 1) := by decide +kernel
theorem dX7_init_22 : decode cX7_init 22 = .ok (.dup, 1) := by decide +kernel
theorem dX7_init_23 : decode cX7_init 23 = .ok (.iconst 2, 1) := by decide +kernel
theorem dX7_init_24 : decode cX7_init 24 = .ok (.iconst (-1), 1) := by decide +kernel
theorem dX7_init_25 : decode cX7_init 25 = .ok (.iastore, 1) := by decide +kernel
theorem dX7_init_26 : decode cX7_init 26 = .ok (.dup, 1) := by decide +kernel
theorem dX7_init_27 : decode cX7_init 27 = .ok (.iconst 3, 1) := by decide +kernel
theorem dX7_init_28 : decode cX7_init 28 = .ok (.iconst (-1), 1) := by decide +kernel
theorem dX7_init_29 : decode cX7_init 29 = .ok (.iastore, 1) := by decide +kernel
theorem dX7_init_30 : decode cX7_init 30 = .ok (.dup, 1) := by decide +kernel
theorem dX7_init_31 : decode cX7_init 31 = .ok (.iconst 4, 1) := by decide +kernel
theorem dX7_init_32 : decode cX7_init 32 = .ok (.iconst (-1), 1) := by decide +kernel
theorem dX7_init_33 : decode cX7_init 33 = .ok (.iastore, 1) := by decide +kernel
theorem dX7_init_34 : decode cX7_init 34 = .ok (.dup, 1) := by decide +kernel
theorem dX7_init_35 : decode cX7_init 35 = .ok (.iconst 5, 1) := by decide +kernel
theorem dX7_init_36 : decode cX7_init 36 = .ok (.iconst (-1), 1) := by decide +kernel
theorem dX7_init_37 : decode cX7_init 37 = .ok (.iastore, 1) := by decide +kernel
theorem dX7_init_38 : decode cX7_init 38 = .ok (.dup, 1) := by decide +kernel
theorem dX7_init_39 : decode cX7_init 39 = .ok (.bipush 6, 2) := by decide +kernel
theorem dX7_init_41 : decode cX7_init 41 = .ok (.iconst (-1), 1) := by decide +kernel
theorem dX7_init_42 : decode cX7_init 42 = .ok (.iastore, 1) := by decide +kernel
theorem dX7_init_43 : decode cX7_init 43 = .ok (.dup, 1) := by decide +kernel
theorem dX7_init_44 : decode cX7_init 44 = .ok (.bipush 7, 2) := by decide +kernel
theorem dX7_init_46 : decode cX7_init 46 = .ok (.iconst (-1), 1) := by decide +kernel
theorem dX7_init_47 : decode cX7_init 47 = .ok (.iastore, 1) := by decide +kernel
theorem dX7_init_48 : decode cX7_init 48 = .ok (.dup, 1) := by decide +kernel
theorem dX7_init_49 : decode cX7_init 49 = .ok (.bipush 8, 2) := by decide +kernel
theorem dX7_init_51 : decode cX7_init 51 = .ok (.iconst (-1), 1) := by decide +kernel
theorem dX7_init_52 : decode cX7_init 52 = .ok (.iastore, 1) := by decide +kernel
theorem dX7_init_53 : decode cX7_init 53 = .ok (.dup, 1) := by decide +kernel
theorem dX7_init_54 : decode cX7_init 54 = .ok (.bipush 9, 2) := by decide +kernel
theorem dX7_init_56 : decode cX7_init 56 = .ok (.iconst (-1), 1) := by decide +kernel
theorem dX7_init_57 : decode cX7_init 57 = .ok (.iastore, 1) := by decide +kernel
theorem dX7_init_58 : decode cX7_init 58 = .ok (.putfield 13, 3) := by decide +kernel
theorem dX7_init_61 : decode cX7_init 61 = .ok (.aload_n 0, 1) := by decide +kernel
theorem dX7_init_62 : decode cX7_init 62 = .ok (.bipush 12, 2) := by decide +kernel
theorem dX7_init_64 : decode cX7_init 64 = .ok (.newarray .int, 2) := by decide +kernel
theorem dX7_init_66 : decode cX7_init 66 = .ok (.putfield 17, 3) := by decide +kernel
theorem dX7_init_69 : decode cX7_init 69 = .ok (.aload_n 0, 1) := by decide +kernel
theorem dX7_init_70 : decode cX7_init 70 = .ok (.bipush 12, 2) := by decide +kernel
theorem dX7_init_72 : decode cX7_init 72 = .ok (.newarray .int, 2) := by decide +kernel
theorem dX7_init_74 : decode cX7_init 74 = .ok (.putfield 20, 3) := by decide +kernel
theorem dX7_init_77 : decode cX7_init 77 = .ok (.aload_n 0, 1) := by decide +kernel
theorem dX7_init_78 : decode cX7_init 78 = .ok (.bipush 12, 2) := by decide +kernel
theorem dX7_init_80 : decode cX7_init 80 = .ok (.newarray .int, 2) := by decide +kernel
theorem dX7_init_82 : decode cX7_init 82 = .ok (.putfield 23, 3) := by decide +kernel
theorem dX7_init_85 : decode cX7_init 85 = .ok (.aload_n 0, 1) := by decide +kernel
theorem dX7_init_86 : decode cX7_init 86 = .ok (.sipush 1080, 3) := by decide +kernel
theorem dX7_init_89 : decode cX7_init 89 = .ok (.newarray .int, 2) := by decide +kernel
theorem dX7_init_91 : decode cX7_init 91 = .ok (.putfield 26, 3) := by decide +kernel
theorem dX7_init_94 : decode cX7_init 94 = .ok (.aload_n 0, 1) := by decide +kernel
theorem dX7_init_95 : decode cX7_init 95 = .ok (.bipush 90, 2) := by decide +kernel
theorem dX7_init_97 : decode cX7_init 97 = .ok (.newarray .int, 2) := by decide +kernel
theorem dX7_init_99 : decode cX7_init 99 = .ok (.putfield 29, 3) := by decide +kernel
theorem dX7_init_102 : decode cX7_init 102 = .ok (.aload_n 0, 1) := by decide +kernel
theorem dX7_init_103 : decode cX7_init 103 = .ok (.bipush 90, 2) := by decide +kernel
theorem dX7_init_105 : decode cX7_init 105 = .ok (.newarray .int, 2) := by decide +kernel
theorem dX7_init_107 : decode cX7_init 107 = .ok (.putfield 32, 3) := by decide +kernel
theorem dX7_init_110 : decode cX7_init 110 = .ok (.aload_n 0, 1) := by decide +kernel
theorem dX7_init_111 : decode cX7_init 111 = .ok (.bipush 90, 2) := by decide +kernel
theorem dX7_init_113 : decode cX7_init 113 = .ok (.newarray .int, 2) := by decide +kernel
theorem dX7_init_115 : decode cX7_init 115 = .ok (.putfield 35, 3) := by decide +kernel
theorem dX7_init_118 : decode cX7_init 118 = .ok (.aload_n 0, 1) := by decide +kernel
theorem dX7_init_119 : decode cX7_init 119 = .ok (.bipush 90, 2) := by decide +kernel
theorem dX7_init_121 : decode cX7_init 121 = .ok (.newarray .int, 2) := by decide +kernel
theorem dX7_init_123 : decode cX7_init 123 = .ok (.putfield 38, 3) := by decide +kernel
theorem dX7_init_126 : decode cX7_init 126 = .ok (.aload_n 0, 1) := by decide +kernel
theorem dX7_init_127 : decode cX7_init 127 = .ok (.bipush 90, 2) := by decide +kernel
theorem dX7_init_129 : decode cX7_init 129 = .ok (.newarray .int, 2) := by decide +kernel
theorem dX7_init_131 : decode cX7_init 131 = .ok (.putfield 41, 3) := by decide +kernel
theorem dX7_init_134 : decode cX7_init 134 = .ok (.aload_n 0, 1) := by decide +kernel
theorem dX7_init_135 : decode cX7_init 135 = .ok (.bipush 90, 2) := by decide +kernel
theorem dX7_init_137 : decode cX7_init 137 = .ok (.newarray .int, 2) := by decide +kernel
theorem dX7_init_139 : decode cX7_init 139 = .ok (.putfield 44, 3) := by decide +kernel
theorem dX7_init_142 : decode cX7_init 142 = .ok (.aload_n 0, 1) := by decide +kernel
theorem dX7_init_143 : decode cX7_init 143 = .ok (.bipush 90, 2) := by decide +kernel
theorem dX7_init_145 : decode cX7_init 145 = .ok (.newarray .int, 2) := by decide +kernel
theorem dX7_init_147 : decode cX7_init 147 = .ok (.putfield 47, 3) := by decide +kernel
theorem dX7_init_150 : decode cX7_init 150 = .ok (.aload_n 0, 1) := by decide +kernel
theorem dX7_init_151 : decode cX7_init 151 = .ok (.bipush 80, 2) := by decide +kernel
theorem dX7_init_153 : decode cX7_init 153 = .ok (.newarray .int, 2) := by decide +kernel
theorem dX7_init_155 : decode cX7_init 155 = .ok (.putfield 50, 3) := by decide +kernel
theorem dX7_init_158 : decode cX7_init 158 = .ok (.aload_n 0, 1) := by decide +kernel
theorem dX7_init_159 : decode cX7_init 159 = .ok (.bipush 80, 2) := by decide +kernel
theorem dX7_init_161 : decode cX7_init 161 = .ok (.newarray .int, 2) := by decide +kernel
theorem dX7_init_163 : decode cX7_init 163 = .ok (.putfield 53, 3) := by decide +kernel
theorem dX7_init_166 : decode cX7_init 166 = .ok (.aload_n 0, 1) := by decide +kernel
theorem dX7_init_167 : decode cX7_init 167 = .ok (.bipush 80, 2) := by decide +kernel
theorem dX7_init_169 : decode cX7_init 169 = .ok (.newarray .int, 2) := by decide +kernel
theorem dX7_init_171 : decode cX7_init 171 = .ok (.putfield 56, 3) := by decide +kernel
theorem dX7_init_174 : decode cX7_init 174 = .ok (.aload_n 0, 1) := by decide +kernel
theorem dX7_init_175 : decode cX7_init 175 = .ok (.sipush 640, 3) := by decide +kernel
theorem dX7_init_178 : decode cX7_init 178 = .ok (.newarray .long, 2) := by decide +kernel
theorem dX7_init_180 : decode cX7_init 180 = .ok (.putfield 59, 3) := by decide +kernel
theorem dX7_init_183 : decode cX7_init 183 = .ok (.aload_n 0, 1) := by decide +kernel
theorem dX7_init_184 : decode cX7_init 184 = .ok (.bipush 60, 2) := by decide +kernel
theorem dX7_init_186 : decode cX7_init 186 = .ok (.newarray .int, 2) := by decide +kernel
theorem dX7_init_188 : decode cX7_init 188 = .ok (.putfield 63, 3) := by decide +kernel
theorem dX7_init_191 : decode cX7_init 191 = .ok (.aload_n 0, 1) := by decide +kernel
theorem dX7_init_192 : decode cX7_init 192 = .ok (.bipush 60, 2) := by decide +kernel
theorem dX7_init_194 : decode cX7_init 194 = .ok (.newarray .int, 2) := by decide +kernel
theorem dX7_init_196 : decode cX7_init 196 = .ok (.putfield 66, 3) := by decide +kernel
theorem dX7_init_199 : decode cX7_init 199 = .ok (.aload_n 0, 1) := by decide +kernel
theorem dX7_init_200 : decode cX7_init 200 = .ok (.sipush 300, 3) := by decide +kernel
theorem dX7_init_203 : decode cX7_init 203 = .ok (.newarray .long, 2) := by decide +kernel
theorem dX7_init_205 : decode cX7_init 205 = .ok (.putfield 69, 3) := by decide +kernel
theorem dX7_init_208 : decode cX7_init 208 = .ok (.aload_n 0, 1) := by decide +kernel
theorem dX7_init_209 : decode cX7_init 209 = .ok (.iconst 4, 1) := by decide +kernel
theorem dX7_init_210 : decode cX7_init 210 = .ok (.newarray .long, 2) := by decide +kernel
theorem dX7_init_212 : decode cX7_init 212 = .ok (.putfield 72, 3) := by decide +kernel
theorem dX7_init_215 : decode cX7_init 215 = .ok (.aload_n 0, 1) := by decide +kernel
theorem dX7_init_216 : decode cX7_init 216 = .ok (.sipush 300, 3) := by decide +kernel
theorem dX7_init_219 : decode cX7_init 219 = .ok (.newarray .int, 2) := by decide +kernel
theorem dX7_init_221 : decode cX7_init 221 = .ok (.putfield 75, 3) := by decide +kernel
theorem dX7_init_224 : decode cX7_init 224 = .ok (.aload_n 0, 1) := by decide +kernel
theorem dX7_init_225 : decode cX7_init 225 = .ok (.sipush 300, 3) := by decide +kernel
theorem dX7_init_228 : decode cX7_init 228 = .ok (.newarray .int, 2) := by decide +kernel
theorem dX7_init_230 : decode cX7_init 230 = .ok (.putfield 78, 3) := by decide +kernel
theorem dX7_init_233 : decode cX7_init 233 = .ok (.aload_n 0, 1) := by decide +kernel
theorem dX7_init_234 : decode cX7_init 234 = .ok (.sipush 300, 3) := by decide +kernel
theorem dX7_init_237 : decode cX7_init 237 = .ok (.newarray .int, 2) := by decide +kernel
theorem dX7_init_239 : decode cX7_init 239 = .ok (.putfield 81, 3) := by decide +kernel
theorem dX7_init_242 : decode cX7_init 242 = .ok (.aload_n 0, 1) := by decide +kernel
theorem dX7_init_243 : decode cX7_init 243 = .ok (.sipush 1500, 3) := by decide +kernel
theorem dX7_init_246 : decode cX7_init 246 = .ok (.newarray .int, 2) := by decide +kernel
theorem dX7_init_248 : decode cX7_init 248 = .ok (.putfield 84, 3) := by decide +kernel
theorem dX7_init_251 : decode cX7_init 251 = .ok (.aload_n 0, 1) := by decide +kernel
theorem dX7_init_252 : decode cX7_init 252 = .ok (.iconst 4, 1) := by decide +kernel
theorem dX7_init_253 : decode cX7_init 253 = .ok (.newarray .int, 2) := by decide +kernel
theorem dX7_init_255 : decode cX7_init 255 = .ok (.putfield 87, 3) := by decide +kernel
theorem dX7_init_258 : decode cX7_init 258 = .ok (.aload_n 0, 1) := by decide +kernel
theorem dX7_init_259 : decode cX7_init 259 = .ok (.bipush 25, 2) := by decide +kernel
theorem dX7_init_261 : decode cX7_init 261 = .ok (.newarray .int, 2) := by decide +kernel
theorem dX7_init_263 : decode cX7_init 263 = .ok (.putfield 90, 3) := by decide +kernel
theorem dX7_init_266 : decode cX7_init 266 = .ok (.aload_n 0, 1) := by decide +kernel
theorem dX7_init_267 : decode cX7_init 267 = .ok (.bipush 25, 2) := by decide +kernel
theorem dX7_init_269 : decode cX7_init 269 = .ok (.newarray .int, 2) := by decide +kernel
theorem dX7_init_271 : decode cX7_init 271 = .ok (.putfield 93, 3) := by decide +kernel
theorem dX7_init_274 : decode cX7_init 274 = .ok (.aload_n 0, 1) := by decide +kernel
theorem dX7_init_275 : decode cX7_init 275 = .ok (.sipush 150, 3) := by decide +kernel
theorem dX7_init_278 : decode cX7_init 278 = .ok (.newarray .int, 2) := by decide +kernel
theorem dX7_init_280 : decode cX7_init 280 = .ok (.putfield 96, 3) := by decide +kernel
theorem dX7_init_283 : decode cX7_init 283 = .ok (.aload_n 0, 1) := by decide +kernel
theorem dX7_init_284 : decode cX7_init 284 = .ok (.sipush 300, 3) := by decide +kernel
theorem dX7_init_287 : decode cX7_init 287 = .ok (.newarray .int, 2) := by decide +kernel
theorem dX7_init_289 : decode cX7_init 289 = .ok (.putfield 99, 3) := by decide +kernel
theorem dX7_init_292 : decode cX7_init 292 = .ok (.aload_n 0, 1) := by decide +kernel
theorem dX7_init_293 : decode cX7_init 293 = .ok (.sipush 144, 3) := by decide +kernel
theorem dX7_init_296 : decode cX7_init 296 = .ok (.newarray .long, 2) := by decide +kernel
theorem dX7_init_298 : decode cX7_init 298 = .ok (.putfield 102, 3) := by decide +kernel
theorem dX7_init_301 : decode cX7_init 301 = .ok (.aload_n 0, 1) := by decide +kernel
theorem dX7_init_302 : decode cX7_init 302 = .ok (.sipush 144, 3) := by decide +kernel
theorem dX7_init_305 : decode cX7_init 305 = .ok (.newarray .long, 2) := by decide +kernel
theorem dX7_init_307 : decode cX7_init 307 = .ok (.putfield 105, 3) := by decide +kernel
theorem dX7_init_310 : decode cX7_init 310 = .ok (.aload_n 0, 1) := by decide +kernel
theorem dX7_init_311 : decode cX7_init 311 = .ok (.iconst 0, 1) := by decide +kernel
theorem dX7_init_312 : decode cX7_init 312 = .ok (.putfield 108, 3) := by decide +kernel
theorem dX7_init_315 : decode cX7_init 315 = .ok (.return_, 1) := by decide +kernel
theorem dX7_in_0 : decode cX7_in 0 = .ok (.iload_n 0, 1) := by decide +kernel
theorem dX7_in_1 : decode cX7_in 1 = .ok (.iload_n 1, 1) := by decide +kernel
theorem dX7_in_2 : decode cX7_in 2 = .ok (.if_icmp .lt 12, 3) := by decide +kernel
theorem dX7_in_5 : decode cX7_in 5 = .ok (.iload_n 0, 1) := by decide +kernel
theorem dX7_in_6 : decode cX7_in 6 = .ok (.iload_n 2, 1) := by decide +kernel
theorem dX7_in_7 : decode cX7_in 7 = .ok (.if_icmp .gt 7, 3) := by decide +kernel
theorem dX7_in_10 : decode cX7_in 10 = .ok (.iconst 1, 1) := by decide +kernel
theorem dX7_in_11 : decode cX7_in 11 = .ok (.goto 4, 3) := by decide +kernel
theorem dX7_in_14 : decode cX7_in 14 = .ok (.iconst 0, 1) := by decide +kernel
theorem dX7_in_15 : decode cX7_in 15 = .ok (.ireturn, 1) := by decide +kernel
theorem dX7_isClass_0 : decode cX7_isClass 0 = .ok (.iload_n 1, 1) := by decide +kernel
theorem dX7_isClass_1 : decode cX7_isClass 1 = .ok (.iconst 0, 1) := by decide +kernel
theorem dX7_isClass_2 : decode cX7_isClass 2 = .ok (.aload_n 0, 1) := by decide +kernel
theorem dX7_isClass_3 : decode cX7_isClass 3 = .ok (.getfield 7, 3) := by decide +kernel
theorem dX7_isClass_6 : decode cX7_isClass 6 = .ok (.iconst 1, 1) := by decide +kernel
theorem dX7_isClass_7 : decode cX7_isClass 7 = .ok (.isub, 1) := by decide +kernel
theorem dX7_isClass_8 : decode cX7_isClass 8 = .ok (.invokestatic 111, 3) := by decide +kernel
theorem dX7_isClass_11 : decode cX7_isClass 11 = .ok (.ireturn, 1) := by decide +kernel
theorem dX7_isStatic_0 : decode cX7_isStatic 0 = .ok (.iload_n 1, 1) := by decide +kernel
theorem dX7_isStatic_1 : decode cX7_isStatic 1 = .ok (.iconst 0, 1) := by decide +kernel
theorem dX7_isStatic_2 : decode cX7_isStatic 2 = .ok (.aload_n 0, 1) := by decide +kernel
theorem dX7_isStatic_3 : decode cX7_isStatic 3 = .ok (.getfield 115, 3) := by decide +kernel
theorem dX7_isStatic_6 : decode cX7_isStatic 6 = .ok (.iconst 1, 1) := by decide +kernel
theorem dX7_isStatic_7 : decode cX7_isStatic 7 = .ok (.isub, 1) := by decide +kernel
theorem dX7_isStatic_8 : decode cX7_isStatic 8 = .ok (.invokestatic 111, 3) := by decide +kernel
theorem dX7_isStatic_11 : decode cX7_isStatic 11 = .ok (.ifCond .eq 16, 3) := by decide +kernel
theorem dX7_isStatic_14 : decode cX7_isStatic 14 = .ok (.aload_n 0, 1) := by decide +kernel
theorem dX7_isStatic_15 : decode cX7_isStatic 15 = .ok (.getfield 17, 3) := by decide +kernel
theorem dX7_isStatic_18 : decode cX7_isStatic 18 = .ok (.iload_n 1, 1) := by decide +kernel
theorem dX7_isStatic_19 : decode cX7_isStatic 19 = .ok (.iaload, 1) := by decide +kernel
theorem dX7_isStatic_20 : decode cX7_isStatic 20 = .ok (.ifCond .ge 7, 3) := by decide +kernel
theorem dX7_isStatic_23 : decode cX7_isStatic 23 = .ok (.iconst 1, 1) := by decide +kernel
theorem dX7_isStatic_24 : decode cX7_isStatic 24 = .ok (.goto 4, 3) := by decide +kernel
theorem dX7_isStatic_27 : decode cX7_isStatic 27 = .ok (.iconst 0, 1) := by decide +kernel
theorem dX7_isStatic_28 : decode cX7_isStatic 28 = .ok (.ireturn, 1) := by decide +kernel
theorem dX7_isBelow_0 : decode cX7_isBelow 0 = .ok (.iload_n 1, 1) := by decide +kernel
theorem dX7_isBelow_1 : decode cX7_isBelow 1 = .ok (.istore_n 3, 1) := by decide +kernel
theorem dX7_isBelow_2 : decode cX7_isBelow 2 = .ok (.iload_n 3, 1) := by decide +kernel
theorem dX7_isBelow_3 : decode cX7_isBelow 3 = .ok (.ifCond .lt 18, 3) := by decide +kernel
theorem dX7_isBelow_6 : decode cX7_isBelow 6 = .ok (.iload_n 3, 1) := by decide +kernel
theorem dX7_isBelow_7 : decode cX7_isBelow 7 = .ok (.iload_n 2, 1) := by decide +kernel
theorem dX7_isBelow_8 : decode cX7_isBelow 8 = .ok (.if_icmp .eq 13, 3) := by decide +kernel
theorem dX7_isBelow_11 : decode cX7_isBelow 11 = .ok (.aload_n 0, 1) := by decide +kernel
theorem dX7_isBelow_12 : decode cX7_isBelow 12 = .ok (.getfield 13, 3) := by decide +kernel
theorem dX7_isBelow_15 : decode cX7_isBelow 15 = .ok (.iload_n 3, 1) := by decide +kernel
theorem dX7_isBelow_16 : decode cX7_isBelow 16 = .ok (.iaload, 1) := by decide +kernel
theorem dX7_isBelow_17 : decode cX7_isBelow 17 = .ok (.istore_n 3, 1) := by decide +kernel
theorem dX7_isBelow_18 : decode cX7_isBelow 18 = .ok (.goto (-16), 3) := by decide +kernel
theorem dX7_isBelow_21 : decode cX7_isBelow 21 = .ok (.iload_n 3, 1) := by decide +kernel
theorem dX7_isBelow_22 : decode cX7_isBelow 22 = .ok (.ifCond .lt 7, 3) := by decide +kernel
theorem dX7_isBelow_25 : decode cX7_isBelow 25 = .ok (.iconst 1, 1) := by decide +kernel
theorem dX7_isBelow_26 : decode cX7_isBelow 26 = .ok (.goto 4, 3) := by decide +kernel
theorem dX7_isBelow_29 : decode cX7_isBelow 29 = .ok (.iconst 0, 1) := by decide +kernel
theorem dX7_isBelow_30 : decode cX7_isBelow 30 = .ok (.ireturn, 1) := by decide +kernel
theorem dX7_cls_0 : decode cX7_cls 0 = .ok (.aload_n 0, 1) := by decide +kernel
theorem dX7_cls_1 : decode cX7_cls 1 = .ok (.iload_n 1, 1) := by decide +kernel
theorem dX7_cls_2 : decode cX7_cls 2 = .ok (.invokevirtual 118, 3) := by decide +kernel
theorem dX7_cls_5 : decode cX7_cls 5 = .ok (.ifCond .ne 5, 3) := by decide +kernel
theorem dX7_cls_8 : decode cX7_cls 8 = .ok (.iconst (-1), 1) := by decide +kernel
theorem dX7_cls_9 : decode cX7_cls 9 = .ok (.ireturn, 1) := by decide +kernel
theorem dX7_cls_10 : decode cX7_cls 10 = .ok (.aload_n 0, 1) := by decide +kernel
theorem dX7_cls_11 : decode cX7_cls 11 = .ok (.getfield 7, 3) := by decide +kernel
theorem dX7_cls_14 : decode cX7_cls 14 = .ok (.bipush 10, 2) := by decide +kernel
theorem dX7_cls_16 : decode cX7_cls 16 = .ok (.if_icmp .ne 6, 3) := by decide +kernel
theorem dX7_cls_19 : decode cX7_cls 19 = .ok (.bipush (-3), 2) := by decide +kernel
theorem dX7_cls_21 : decode cX7_cls 21 = .ok (.ireturn, 1) := by decide +kernel
theorem dX7_cls_22 : decode cX7_cls 22 = .ok (.aload_n 0, 1) := by decide +kernel
theorem dX7_cls_23 : decode cX7_cls 23 = .ok (.getfield 13, 3) := by decide +kernel
theorem dX7_cls_26 : decode cX7_cls 26 = .ok (.aload_n 0, 1) := by decide +kernel
theorem dX7_cls_27 : decode cX7_cls 27 = .ok (.getfield 7, 3) := by decide +kernel
theorem dX7_cls_30 : decode cX7_cls 30 = .ok (.iload_n 1, 1) := by decide +kernel
theorem dX7_cls_31 : decode cX7_cls 31 = .ok (.iastore, 1) := by decide +kernel
theorem dX7_cls_32 : decode cX7_cls 32 = .ok (.aload_n 0, 1) := by decide +kernel
theorem dX7_cls_33 : decode cX7_cls 33 = .ok (.dup, 1) := by decide +kernel
theorem dX7_cls_34 : decode cX7_cls 34 = .ok (.getfield 7, 3) := by decide +kernel
theorem dX7_cls_37 : decode cX7_cls 37 = .ok (.iconst 1, 1) := by decide +kernel
theorem dX7_cls_38 : decode cX7_cls 38 = .ok (.iadd, 1) := by decide +kernel
theorem dX7_cls_39 : decode cX7_cls 39 = .ok (.putfield 7, 3) := by decide +kernel
theorem dX7_cls_42 : decode cX7_cls 42 = .ok (.aload_n 0, 1) := by decide +kernel
theorem dX7_cls_43 : decode cX7_cls 43 = .ok (.iconst 0, 1) := by decide +kernel
theorem dX7_cls_44 : decode cX7_cls 44 = .ok (.putfield 122, 3) := by decide +kernel
theorem dX7_cls_47 : decode cX7_cls 47 = .ok (.aload_n 0, 1) := by decide +kernel
theorem dX7_cls_48 : decode cX7_cls 48 = .ok (.iconst 0, 1) := by decide +kernel
theorem dX7_cls_49 : decode cX7_cls 49 = .ok (.putfield 126, 3) := by decide +kernel
theorem dX7_cls_52 : decode cX7_cls 52 = .ok (.aload_n 0, 1) := by decide +kernel
theorem dX7_cls_53 : decode cX7_cls 53 = .ok (.getfield 7, 3) := by decide +kernel
theorem dX7_cls_56 : decode cX7_cls 56 = .ok (.iconst 1, 1) := by decide +kernel
theorem dX7_cls_57 : decode cX7_cls 57 = .ok (.isub, 1) := by decide +kernel
theorem dX7_cls_58 : decode cX7_cls 58 = .ok (.ireturn, 1) := by decide +kernel
theorem dX7_method_0 : decode cX7_method 0 = .ok (.iload_n 1, 1) := by decide +kernel
theorem dX7_method_1 : decode cX7_method 1 = .ok (.iconst (-1), 1) := by decide +kernel
theorem dX7_method_2 : decode cX7_method 2 = .ok (.if_icmp .eq 23, 3) := by decide +kernel
theorem dX7_method_5 : decode cX7_method 5 = .ok (.aload_n 0, 1) := by decide +kernel
theorem dX7_method_6 : decode cX7_method 6 = .ok (.iload_n 1, 1) := by decide +kernel
theorem dX7_method_7 : decode cX7_method 7 = .ok (.invokevirtual 118, 3) := by decide +kernel
theorem dX7_method_10 : decode cX7_method 10 = .ok (.ifCond .eq 13, 3) := by decide +kernel
theorem dX7_method_13 : decode cX7_method 13 = .ok (.iload_n 2, 1) := by decide +kernel
theorem dX7_method_14 : decode cX7_method 14 = .ok (.iconst 0, 1) := by decide +kernel
theorem dX7_method_15 : decode cX7_method 15 = .ok (.bipush 7, 2) := by decide +kernel
theorem dX7_method_17 : decode cX7_method 17 = .ok (.invokestatic 111, 3) := by decide +kernel
theorem dX7_method_20 : decode cX7_method 20 = .ok (.ifCond .ne 5, 3) := by decide +kernel
theorem dX7_method_23 : decode cX7_method 23 = .ok (.iconst (-1), 1) := by decide +kernel
theorem dX7_method_24 : decode cX7_method 24 = .ok (.ireturn, 1) := by decide +kernel
theorem dX7_method_25 : decode cX7_method 25 = .ok (.iconst 0, 1) := by decide +kernel
theorem dX7_method_26 : decode cX7_method 26 = .ok (.istore_n 3, 1) := by decide +kernel
theorem dX7_method_27 : decode cX7_method 27 = .ok (.iload_n 3, 1) := by decide +kernel
theorem dX7_method_28 : decode cX7_method 28 = .ok (.aload_n 0, 1) := by decide +kernel
theorem dX7_method_29 : decode cX7_method 29 = .ok (.getfield 115, 3) := by decide +kernel
theorem dX7_method_32 : decode cX7_method 32 = .ok (.if_icmp .ge 36, 3) := by decide +kernel
theorem dX7_method_35 : decode cX7_method 35 = .ok (.iload_n 1, 1) := by decide +kernel
theorem dX7_method_36 : decode cX7_method 36 = .ok (.iconst (-1), 1) := by decide +kernel
theorem dX7_method_37 : decode cX7_method 37 = .ok (.if_icmp .eq 31, 3) := by decide +kernel
theorem dX7_method_40 : decode cX7_method 40 = .ok (.aload_n 0, 1) := by decide +kernel
theorem dX7_method_41 : decode cX7_method 41 = .ok (.getfield 17, 3) := by decide +kernel
theorem dX7_method_44 : decode cX7_method 44 = .ok (.iload_n 3, 1) := by decide +kernel
theorem dX7_method_45 : decode cX7_method 45 = .ok (.iaload, 1) := by decide +kernel
theorem dX7_method_46 : decode cX7_method 46 = .ok (.iload_n 1, 1) := by decide +kernel
theorem dX7_method_47 : decode cX7_method 47 = .ok (.if_icmp .ne 15, 3) := by decide +kernel
theorem dX7_method_50 : decode cX7_method 50 = .ok (.aload_n 0, 1) := by decide +kernel
theorem dX7_method_51 : decode cX7_method 51 = .ok (.getfield 20, 3) := by decide +kernel
theorem dX7_method_54 : decode cX7_method 54 = .ok (.iload_n 3, 1) := by decide +kernel
theorem dX7_method_55 : decode cX7_method 55 = .ok (.iaload, 1) := by decide +kernel
theorem dX7_method_56 : decode cX7_method 56 = .ok (.iload_n 2, 1) := by decide +kernel
theorem dX7_method_57 : decode cX7_method 57 = .ok (.if_icmp .ne 5, 3) := by decide +kernel
theorem dX7_method_60 : decode cX7_method 60 = .ok (.iconst (-1), 1) := by decide +kernel
theorem dX7_method_61 : decode cX7_method 61 = .ok (.ireturn, 1) := by decide +kernel
theorem dX7_method_62 : decode cX7_method 62 = .ok (.iinc 3 1, 3) := by decide +kernel
theorem dX7_method_65 : decode cX7_method 65 = .ok (.goto (-38), 3) := by decide +kernel
theorem dX7_method_68 : decode cX7_method 68 = .ok (.aload_n 0, 1) := by decide +kernel
theorem dX7_method_69 : decode cX7_method 69 = .ok (.getfield 115, 3) := by decide +kernel
theorem dX7_method_72 : decode cX7_method 72 = .ok (.bipush 12, 2) := by decide +kernel
theorem dX7_method_74 : decode cX7_method 74 = .ok (.if_icmp .ne 6, 3) := by decide +kernel
theorem dX7_method_77 : decode cX7_method 77 = .ok (.bipush (-3), 2) := by decide +kernel
theorem dX7_method_79 : decode cX7_method 79 = .ok (.ireturn, 1) := by decide +kernel
theorem dX7_method_80 : decode cX7_method 80 = .ok (.aload_n 0, 1) := by decide +kernel
theorem dX7_method_81 : decode cX7_method 81 = .ok (.getfield 17, 3) := by decide +kernel
theorem dX7_method_84 : decode cX7_method 84 = .ok (.aload_n 0, 1) := by decide +kernel
theorem dX7_method_85 : decode cX7_method 85 = .ok (.getfield 115, 3) := by decide +kernel
theorem dX7_method_88 : decode cX7_method 88 = .ok (.iload_n 1, 1) := by decide +kernel
theorem dX7_method_89 : decode cX7_method 89 = .ok (.iastore, 1) := by decide +kernel
theorem dX7_method_90 : decode cX7_method 90 = .ok (.aload_n 0, 1) := by decide +kernel
theorem dX7_method_91 : decode cX7_method 91 = .ok (.getfield 20, 3) := by decide +kernel
theorem dX7_method_94 : decode cX7_method 94 = .ok (.aload_n 0, 1) := by decide +kernel
theorem dX7_method_95 : decode cX7_method 95 = .ok (.getfield 115, 3) := by decide +kernel
theorem dX7_method_98 : decode cX7_method 98 = .ok (.iload_n 1, 1) := by decide +kernel
theorem dX7_method_99 : decode cX7_method 99 = .ok (.ifCond .ge 7, 3) := by decide +kernel
theorem dX7_method_102 : decode cX7_method 102 = .ok (.iconst (-1), 1) := by decide +kernel
theorem dX7_method_103 : decode cX7_method 103 = .ok (.goto 4, 3) := by decide +kernel
theorem dX7_method_106 : decode cX7_method 106 = .ok (.iload_n 2, 1) := by decide +kernel
theorem dX7_method_107 : decode cX7_method 107 = .ok (.iastore, 1) := by decide +kernel
theorem dX7_method_108 : decode cX7_method 108 = .ok (.aload_n 0, 1) := by decide +kernel
theorem dX7_method_109 : decode cX7_method 109 = .ok (.getfield 23, 3) := by decide +kernel
theorem dX7_method_112 : decode cX7_method 112 = .ok (.aload_n 0, 1) := by decide +kernel
theorem dX7_method_113 : decode cX7_method 113 = .ok (.getfield 115, 3) := by decide +kernel
theorem dX7_method_116 : decode cX7_method 116 = .ok (.iconst 0, 1) := by decide +kernel
theorem dX7_method_117 : decode cX7_method 117 = .ok (.iastore, 1) := by decide +kernel
theorem dX7_method_118 : decode cX7_method 118 = .ok (.aload_n 0, 1) := by decide +kernel
theorem dX7_method_119 : decode cX7_method 119 = .ok (.dup, 1) := by decide +kernel
theorem dX7_method_120 : decode cX7_method 120 = .ok (.getfield 115, 3) := by decide +kernel
theorem dX7_method_123 : decode cX7_method 123 = .ok (.iconst 1, 1) := by decide +kernel
theorem dX7_method_124 : decode cX7_method 124 = .ok (.iadd, 1) := by decide +kernel
theorem dX7_method_125 : decode cX7_method 125 = .ok (.putfield 115, 3) := by decide +kernel
theorem dX7_method_128 : decode cX7_method 128 = .ok (.aload_n 0, 1) := by decide +kernel
theorem dX7_method_129 : decode cX7_method 129 = .ok (.iconst 0, 1) := by decide +kernel
theorem dX7_method_130 : decode cX7_method 130 = .ok (.putfield 122, 3) := by decide +kernel
theorem dX7_method_133 : decode cX7_method 133 = .ok (.aload_n 0, 1) := by decide +kernel
theorem dX7_method_134 : decode cX7_method 134 = .ok (.iconst 0, 1) := by decide +kernel
theorem dX7_method_135 : decode cX7_method 135 = .ok (.putfield 126, 3) := by decide +kernel
theorem dX7_method_138 : decode cX7_method 138 = .ok (.aload_n 0, 1) := by decide +kernel
theorem dX7_method_139 : decode cX7_method 139 = .ok (.getfield 115, 3) := by decide +kernel
theorem dX7_method_142 : decode cX7_method 142 = .ok (.iconst 1, 1) := by decide +kernel
theorem dX7_method_143 : decode cX7_method 143 = .ok (.isub, 1) := by decide +kernel
theorem dX7_method_144 : decode cX7_method 144 = .ok (.ireturn, 1) := by decide +kernel
theorem dX7_isVar_0 : decode cX7_isVar 0 = .ok (.iload_n 0, 1) := by decide +kernel
theorem dX7_isVar_1 : decode cX7_isVar 1 = .ok (.iconst 0, 1) := by decide +kernel
theorem dX7_isVar_2 : decode cX7_isVar 2 = .ok (.iconst 5, 1) := by decide +kernel
theorem dX7_isVar_3 : decode cX7_isVar 3 = .ok (.invokestatic 111, 3) := by decide +kernel
theorem dX7_isVar_6 : decode cX7_isVar 6 = .ok (.ireturn, 1) := by decide +kernel
theorem dX7_areRight_0 : decode cX7_areRight 0 = .ok (.iload_n 1, 1) := by decide +kernel
theorem dX7_areRight_1 : decode cX7_areRight 1 = .ok (.tableswitch 377 0 16 #[83, 104, 135, 377, 155, 155, 185, 185, 216, 245, 284, 377, 314, 322, 322, 377, 345], 83) := by decide +kernel
theorem dX7_areRight_84 : decode cX7_areRight 84 = .ok (.iload_n 2, 1) := by decide +kernel
theorem dX7_areRight_85 : decode cX7_areRight 85 = .ok (.invokestatic 129, 3) := by decide +kernel
theorem dX7_areRight_88 : decode cX7_areRight 88 = .ok (.ifCond .eq 15, 3) := by decide +kernel
theorem dX7_areRight_91 : decode cX7_areRight 91 = .ok (.aload_n 0, 1) := by decide +kernel
theorem dX7_areRight_92 : decode cX7_areRight 92 = .ok (.iload_n 3, 1) := by decide +kernel
theorem dX7_areRight_93 : decode cX7_areRight 93 = .ok (.invokevirtual 118, 3) := by decide +kernel
theorem dX7_areRight_96 : decode cX7_areRight 96 = .ok (.ifCond .eq 7, 3) := by decide +kernel
theorem dX7_areRight_99 : decode cX7_areRight 99 = .ok (.iconst 1, 1) := by decide +kernel
theorem dX7_areRight_100 : decode cX7_areRight 100 = .ok (.goto 4, 3) := by decide +kernel
theorem dX7_areRight_103 : decode cX7_areRight 103 = .ok (.iconst 0, 1) := by decide +kernel
theorem dX7_areRight_104 : decode cX7_areRight 104 = .ok (.ireturn, 1) := by decide +kernel
theorem dX7_areRight_105 : decode cX7_areRight 105 = .ok (.iload_n 2, 1) := by decide +kernel
theorem dX7_areRight_106 : decode cX7_areRight 106 = .ok (.invokestatic 129, 3) := by decide +kernel
theorem dX7_areRight_109 : decode cX7_areRight 109 = .ok (.ifCond .eq 25, 3) := by decide +kernel
theorem dX7_areRight_112 : decode cX7_areRight 112 = .ok (.aload_n 0, 1) := by decide +kernel
theorem dX7_areRight_113 : decode cX7_areRight 113 = .ok (.iload_n 3, 1) := by decide +kernel
theorem dX7_areRight_114 : decode cX7_areRight 114 = .ok (.invokevirtual 118, 3) := by decide +kernel
theorem dX7_areRight_117 : decode cX7_areRight 117 = .ok (.ifCond .eq 17, 3) := by decide +kernel
theorem dX7_areRight_120 : decode cX7_areRight 120 = .ok (.iload 4, 2) := by decide +kernel
theorem dX7_areRight_122 : decode cX7_areRight 122 = .ok (.iconst 0, 1) := by decide +kernel
theorem dX7_areRight_123 : decode cX7_areRight 123 = .ok (.iconst 5, 1) := by decide +kernel
theorem dX7_areRight_124 : decode cX7_areRight 124 = .ok (.invokestatic 111, 3) := by decide +kernel
theorem dX7_areRight_127 : decode cX7_areRight 127 = .ok (.ifCond .eq 7, 3) := by decide +kernel
theorem dX7_areRight_130 : decode cX7_areRight 130 = .ok (.iconst 1, 1) := by decide +kernel
theorem dX7_areRight_131 : decode cX7_areRight 131 = .ok (.goto 4, 3) := by decide +kernel
theorem dX7_areRight_134 : decode cX7_areRight 134 = .ok (.iconst 0, 1) := by decide +kernel
theorem dX7_areRight_135 : decode cX7_areRight 135 = .ok (.ireturn, 1) := by decide +kernel
theorem dX7_areRight_136 : decode cX7_areRight 136 = .ok (.iload_n 2, 1) := by decide +kernel
theorem dX7_areRight_137 : decode cX7_areRight 137 = .ok (.invokestatic 129, 3) := by decide +kernel
theorem dX7_areRight_140 : decode cX7_areRight 140 = .ok (.ifCond .eq 14, 3) := by decide +kernel
theorem dX7_areRight_143 : decode cX7_areRight 143 = .ok (.iload_n 3, 1) := by decide +kernel
theorem dX7_areRight_144 : decode cX7_areRight 144 = .ok (.invokestatic 129, 3) := by decide +kernel
theorem dX7_areRight_147 : decode cX7_areRight 147 = .ok (.ifCond .eq 7, 3) := by decide +kernel
theorem dX7_areRight_150 : decode cX7_areRight 150 = .ok (.iconst 1, 1) := by decide +kernel
theorem dX7_areRight_151 : decode cX7_areRight 151 = .ok (.goto 4, 3) := by decide +kernel
theorem dX7_areRight_154 : decode cX7_areRight 154 = .ok (.iconst 0, 1) := by decide +kernel
theorem dX7_areRight_155 : decode cX7_areRight 155 = .ok (.ireturn, 1) := by decide +kernel
theorem dX7_areRight_156 : decode cX7_areRight 156 = .ok (.iload_n 2, 1) := by decide +kernel
theorem dX7_areRight_157 : decode cX7_areRight 157 = .ok (.invokestatic 129, 3) := by decide +kernel
theorem dX7_areRight_160 : decode cX7_areRight 160 = .ok (.ifCond .eq 24, 3) := by decide +kernel
theorem dX7_areRight_163 : decode cX7_areRight 163 = .ok (.iload_n 3, 1) := by decide +kernel
theorem dX7_areRight_164 : decode cX7_areRight 164 = .ok (.invokestatic 129, 3) := by decide +kernel
theorem dX7_areRight_167 : decode cX7_areRight 167 = .ok (.ifCond .eq 17, 3) := by decide +kernel
theorem dX7_areRight_170 : decode cX7_areRight 170 = .ok (.iload 4, 2) := by decide +kernel
theorem dX7_areRight_172 : decode cX7_areRight 172 = .ok (.iconst 0, 1) := by decide +kernel
theorem dX7_areRight_173 : decode cX7_areRight 173 = .ok (.iconst 3, 1) := by decide +kernel
theorem dX7_areRight_174 : decode cX7_areRight 174 = .ok (.invokestatic 111, 3) := by decide +kernel
theorem dX7_areRight_177 : decode cX7_areRight 177 = .ok (.ifCond .eq 7, 3) := by decide +kernel
theorem dX7_areRight_180 : decode cX7_areRight 180 = .ok (.iconst 1, 1) := by decide +kernel
theorem dX7_areRight_181 : decode cX7_areRight 181 = .ok (.goto 4, 3) := by decide +kernel
theorem dX7_areRight_184 : decode cX7_areRight 184 = .ok (.iconst 0, 1) := by decide +kernel
theorem dX7_areRight_185 : decode cX7_areRight 185 = .ok (.ireturn, 1) := by decide +kernel
theorem dX7_areRight_186 : decode cX7_areRight 186 = .ok (.iload_n 2, 1) := by decide +kernel
theorem dX7_areRight_187 : decode cX7_areRight 187 = .ok (.invokestatic 129, 3) := by decide +kernel
theorem dX7_areRight_190 : decode cX7_areRight 190 = .ok (.ifCond .eq 25, 3) := by decide +kernel
theorem dX7_areRight_193 : decode cX7_areRight 193 = .ok (.iload_n 3, 1) := by decide +kernel
theorem dX7_areRight_194 : decode cX7_areRight 194 = .ok (.invokestatic 129, 3) := by decide +kernel
theorem dX7_areRight_197 : decode cX7_areRight 197 = .ok (.ifCond .eq 18, 3) := by decide +kernel
theorem dX7_areRight_200 : decode cX7_areRight 200 = .ok (.iload 4, 2) := by decide +kernel
theorem dX7_areRight_202 : decode cX7_areRight 202 = .ok (.iconst 0, 1) := by decide +kernel
theorem dX7_areRight_203 : decode cX7_areRight 203 = .ok (.bipush 7, 2) := by decide +kernel
theorem dX7_areRight_205 : decode cX7_areRight 205 = .ok (.invokestatic 111, 3) := by decide +kernel
theorem dX7_areRight_208 : decode cX7_areRight 208 = .ok (.ifCond .eq 7, 3) := by decide +kernel
theorem dX7_areRight_211 : decode cX7_areRight 211 = .ok (.iconst 1, 1) := by decide +kernel
theorem dX7_areRight_212 : decode cX7_areRight 212 = .ok (.goto 4, 3) := by decide +kernel
theorem dX7_areRight_215 : decode cX7_areRight 215 = .ok (.iconst 0, 1) := by decide +kernel
theorem dX7_areRight_216 : decode cX7_areRight 216 = .ok (.ireturn, 1) := by decide +kernel
theorem dX7_areRight_217 : decode cX7_areRight 217 = .ok (.iload_n 2, 1) := by decide +kernel
theorem dX7_areRight_218 : decode cX7_areRight 218 = .ok (.invokestatic 129, 3) := by decide +kernel
theorem dX7_areRight_221 : decode cX7_areRight 221 = .ok (.ifCond .eq 23, 3) := by decide +kernel
theorem dX7_areRight_224 : decode cX7_areRight 224 = .ok (.iload_n 3, 1) := by decide +kernel
theorem dX7_areRight_225 : decode cX7_areRight 225 = .ok (.invokestatic 129, 3) := by decide +kernel
theorem dX7_areRight_228 : decode cX7_areRight 228 = .ok (.ifCond .eq 16, 3) := by decide +kernel
theorem dX7_areRight_231 : decode cX7_areRight 231 = .ok (.aload_n 0, 1) := by decide +kernel
theorem dX7_areRight_232 : decode cX7_areRight 232 = .ok (.iload 4, 2) := by decide +kernel
theorem dX7_areRight_234 : decode cX7_areRight 234 = .ok (.invokevirtual 118, 3) := by decide +kernel
theorem dX7_areRight_237 : decode cX7_areRight 237 = .ok (.ifCond .eq 7, 3) := by decide +kernel
theorem dX7_areRight_240 : decode cX7_areRight 240 = .ok (.iconst 1, 1) := by decide +kernel
theorem dX7_areRight_241 : decode cX7_areRight 241 = .ok (.goto 4, 3) := by decide +kernel
theorem dX7_areRight_244 : decode cX7_areRight 244 = .ok (.iconst 0, 1) := by decide +kernel
theorem dX7_areRight_245 : decode cX7_areRight 245 = .ok (.ireturn, 1) := by decide +kernel
theorem dX7_areRight_246 : decode cX7_areRight 246 = .ok (.iload_n 2, 1) := by decide +kernel
theorem dX7_areRight_247 : decode cX7_areRight 247 = .ok (.invokestatic 129, 3) := by decide +kernel
theorem dX7_areRight_250 : decode cX7_areRight 250 = .ok (.ifCond .eq 33, 3) := by decide +kernel
theorem dX7_areRight_253 : decode cX7_areRight 253 = .ok (.iload_n 3, 1) := by decide +kernel
theorem dX7_areRight_254 : decode cX7_areRight 254 = .ok (.invokestatic 129, 3) := by decide +kernel
theorem dX7_areRight_257 : decode cX7_areRight 257 = .ok (.ifCond .eq 26, 3) := by decide +kernel
theorem dX7_areRight_260 : decode cX7_areRight 260 = .ok (.iload 4, 2) := by decide +kernel
theorem dX7_areRight_262 : decode cX7_areRight 262 = .ok (.iconst 0, 1) := by decide +kernel
theorem dX7_areRight_263 : decode cX7_areRight 263 = .ok (.bipush 7, 2) := by decide +kernel
theorem dX7_areRight_265 : decode cX7_areRight 265 = .ok (.invokestatic 111, 3) := by decide +kernel
theorem dX7_areRight_268 : decode cX7_areRight 268 = .ok (.ifCond .eq 15, 3) := by decide +kernel
theorem dX7_areRight_271 : decode cX7_areRight 271 = .ok (.iload 5, 2) := by decide +kernel
theorem dX7_areRight_273 : decode cX7_areRight 273 = .ok (.invokestatic 129, 3) := by decide +kernel
theorem dX7_areRight_276 : decode cX7_areRight 276 = .ok (.ifCond .eq 7, 3) := by decide +kernel
theorem dX7_areRight_279 : decode cX7_areRight 279 = .ok (.iconst 1, 1) := by decide +kernel
theorem dX7_areRight_280 : decode cX7_areRight 280 = .ok (.goto 4, 3) := by decide +kernel
theorem dX7_areRight_283 : decode cX7_areRight 283 = .ok (.iconst 0, 1) := by decide +kernel
theorem dX7_areRight_284 : decode cX7_areRight 284 = .ok (.ireturn, 1) := by decide +kernel
theorem dX7_areRight_285 : decode cX7_areRight 285 = .ok (.iload_n 2, 1) := by decide +kernel
theorem dX7_areRight_286 : decode cX7_areRight 286 = .ok (.invokestatic 129, 3) := by decide +kernel
theorem dX7_areRight_289 : decode cX7_areRight 289 = .ok (.ifCond .eq 24, 3) := by decide +kernel
theorem dX7_areRight_292 : decode cX7_areRight 292 = .ok (.aload_n 0, 1) := by decide +kernel
theorem dX7_areRight_293 : decode cX7_areRight 293 = .ok (.iload 4, 2) := by decide +kernel
theorem dX7_areRight_295 : decode cX7_areRight 295 = .ok (.invokevirtual 132, 3) := by decide +kernel
theorem dX7_areRight_298 : decode cX7_areRight 298 = .ok (.ifCond .eq 15, 3) := by decide +kernel
theorem dX7_areRight_301 : decode cX7_areRight 301 = .ok (.iload 5, 2) := by decide +kernel
theorem dX7_areRight_303 : decode cX7_areRight 303 = .ok (.invokestatic 129, 3) := by decide +kernel
theorem dX7_areRight_306 : decode cX7_areRight 306 = .ok (.ifCond .eq 7, 3) := by decide +kernel
theorem dX7_areRight_309 : decode cX7_areRight 309 = .ok (.iconst 1, 1) := by decide +kernel
theorem dX7_areRight_310 : decode cX7_areRight 310 = .ok (.goto 4, 3) := by decide +kernel
theorem dX7_areRight_313 : decode cX7_areRight 313 = .ok (.iconst 0, 1) := by decide +kernel
theorem dX7_areRight_314 : decode cX7_areRight 314 = .ok (.ireturn, 1) := by decide +kernel
theorem dX7_areRight_315 : decode cX7_areRight 315 = .ok (.iload_n 3, 1) := by decide +kernel
theorem dX7_areRight_316 : decode cX7_areRight 316 = .ok (.iconst 1, 1) := by decide +kernel
theorem dX7_areRight_317 : decode cX7_areRight 317 = .ok (.bipush 30, 2) := by decide +kernel
theorem dX7_areRight_319 : decode cX7_areRight 319 = .ok (.invokestatic 111, 3) := by decide +kernel
theorem dX7_areRight_322 : decode cX7_areRight 322 = .ok (.ireturn, 1) := by decide +kernel
theorem dX7_areRight_323 : decode cX7_areRight 323 = .ok (.iload_n 2, 1) := by decide +kernel
theorem dX7_areRight_324 : decode cX7_areRight 324 = .ok (.invokestatic 129, 3) := by decide +kernel
theorem dX7_areRight_327 : decode cX7_areRight 327 = .ok (.ifCond .eq 17, 3) := by decide +kernel
theorem dX7_areRight_330 : decode cX7_areRight 330 = .ok (.iload 4, 2) := by decide +kernel
theorem dX7_areRight_332 : decode cX7_areRight 332 = .ok (.iconst 0, 1) := by decide +kernel
theorem dX7_areRight_333 : decode cX7_areRight 333 = .ok (.iconst 3, 1) := by decide +kernel
theorem dX7_areRight_334 : decode cX7_areRight 334 = .ok (.invokestatic 111, 3) := by decide +kernel
theorem dX7_areRight_337 : decode cX7_areRight 337 = .ok (.ifCond .eq 7, 3) := by decide +kernel
theorem dX7_areRight_340 : decode cX7_areRight 340 = .ok (.iconst 1, 1) := by decide +kernel
theorem dX7_areRight_341 : decode cX7_areRight 341 = .ok (.goto 4, 3) := by decide +kernel
theorem dX7_areRight_344 : decode cX7_areRight 344 = .ok (.iconst 0, 1) := by decide +kernel
theorem dX7_areRight_345 : decode cX7_areRight 345 = .ok (.ireturn, 1) := by decide +kernel
theorem dX7_areRight_346 : decode cX7_areRight 346 = .ok (.iload_n 2, 1) := by decide +kernel
theorem dX7_areRight_347 : decode cX7_areRight 347 = .ok (.invokestatic 129, 3) := by decide +kernel
theorem dX7_areRight_350 : decode cX7_areRight 350 = .ok (.ifCond .eq 26, 3) := by decide +kernel
theorem dX7_areRight_353 : decode cX7_areRight 353 = .ok (.iload_n 3, 1) := by decide +kernel
theorem dX7_areRight_354 : decode cX7_areRight 354 = .ok (.iconst 1, 1) := by decide +kernel
theorem dX7_areRight_355 : decode cX7_areRight 355 = .ok (.bipush 30, 2) := by decide +kernel
theorem dX7_areRight_357 : decode cX7_areRight 357 = .ok (.invokestatic 111, 3) := by decide +kernel
theorem dX7_areRight_360 : decode cX7_areRight 360 = .ok (.ifCond .eq 16, 3) := by decide +kernel
theorem dX7_areRight_363 : decode cX7_areRight 363 = .ok (.aload_n 0, 1) := by decide +kernel
theorem dX7_areRight_364 : decode cX7_areRight 364 = .ok (.iload 4, 2) := by decide +kernel
theorem dX7_areRight_366 : decode cX7_areRight 366 = .ok (.invokevirtual 118, 3) := by decide +kernel
theorem dX7_areRight_369 : decode cX7_areRight 369 = .ok (.ifCond .eq 7, 3) := by decide +kernel
theorem dX7_areRight_372 : decode cX7_areRight 372 = .ok (.iconst 1, 1) := by decide +kernel
theorem dX7_areRight_373 : decode cX7_areRight 373 = .ok (.goto 4, 3) := by decide +kernel
theorem dX7_areRight_376 : decode cX7_areRight 376 = .ok (.iconst 0, 1) := by decide +kernel
theorem dX7_areRight_377 : decode cX7_areRight 377 = .ok (.ireturn, 1) := by decide +kernel
theorem dX7_areRight_378 : decode cX7_areRight 378 = .ok (.iload_n 2, 1) := by decide +kernel
theorem dX7_areRight_379 : decode cX7_areRight 379 = .ok (.invokestatic 129, 3) := by decide +kernel
theorem dX7_areRight_382 : decode cX7_areRight 382 = .ok (.ireturn, 1) := by decide +kernel
theorem dX7_step_0 : decode cX7_step 0 = .ok (.iload_n 1, 1) := by decide +kernel
theorem dX7_step_1 : decode cX7_step 1 = .ok (.iconst 0, 1) := by decide +kernel
theorem dX7_step_2 : decode cX7_step 2 = .ok (.aload_n 0, 1) := by decide +kernel
theorem dX7_step_3 : decode cX7_step 3 = .ok (.getfield 115, 3) := by decide +kernel
theorem dX7_step_6 : decode cX7_step 6 = .ok (.iconst 1, 1) := by decide +kernel
theorem dX7_step_7 : decode cX7_step 7 = .ok (.isub, 1) := by decide +kernel
theorem dX7_step_8 : decode cX7_step 8 = .ok (.invokestatic 111, 3) := by decide +kernel
theorem dX7_step_11 : decode cX7_step 11 = .ok (.ifCond .eq 28, 3) := by decide +kernel
theorem dX7_step_14 : decode cX7_step 14 = .ok (.iload_n 2, 1) := by decide +kernel
theorem dX7_step_15 : decode cX7_step 15 = .ok (.iconst 0, 1) := by decide +kernel
theorem dX7_step_16 : decode cX7_step 16 = .ok (.bipush 16, 2) := by decide +kernel
theorem dX7_step_18 : decode cX7_step 18 = .ok (.invokestatic 111, 3) := by decide +kernel
theorem dX7_step_21 : decode cX7_step 21 = .ok (.ifCond .eq 18, 3) := by decide +kernel
theorem dX7_step_24 : decode cX7_step 24 = .ok (.aload_n 0, 1) := by decide +kernel
theorem dX7_step_25 : decode cX7_step 25 = .ok (.iload_n 2, 1) := by decide +kernel
theorem dX7_step_26 : decode cX7_step 26 = .ok (.iload_n 3, 1) := by decide +kernel
theorem dX7_step_27 : decode cX7_step 27 = .ok (.iload 4, 2) := by decide +kernel
theorem dX7_step_29 : decode cX7_step 29 = .ok (.iload 5, 2) := by decide +kernel
theorem dX7_step_31 : decode cX7_step 31 = .ok (.iload 6, 2) := by decide +kernel
theorem dX7_step_33 : decode cX7_step 33 = .ok (.invokevirtual 135, 3) := by decide +kernel
theorem dX7_step_36 : decode cX7_step 36 = .ok (.ifCond .ne 5, 3) := by decide +kernel
theorem dX7_step_39 : decode cX7_step 39 = .ok (.iconst (-1), 1) := by decide +kernel
theorem dX7_step_40 : decode cX7_step 40 = .ok (.ireturn, 1) := by decide +kernel
theorem dX7_step_41 : decode cX7_step 41 = .ok (.aload_n 0, 1) := by decide +kernel
theorem dX7_step_42 : decode cX7_step 42 = .ok (.getfield 139, 3) := by decide +kernel
theorem dX7_step_45 : decode cX7_step 45 = .ok (.bipush 90, 2) := by decide +kernel
theorem dX7_step_47 : decode cX7_step 47 = .ok (.if_icmp .eq 17, 3) := by decide +kernel
theorem dX7_step_50 : decode cX7_step 50 = .ok (.iload_n 2, 1) := by decide +kernel
theorem dX7_step_51 : decode cX7_step 51 = .ok (.iconst 2, 1) := by decide +kernel
theorem dX7_step_52 : decode cX7_step 52 = .ok (.if_icmp .ge 15, 3) := by decide +kernel
theorem dX7_step_55 : decode cX7_step 55 = .ok (.aload_n 0, 1) := by decide +kernel
theorem dX7_step_56 : decode cX7_step 56 = .ok (.getfield 142, 3) := by decide +kernel
theorem dX7_step_59 : decode cX7_step 59 = .ok (.bipush 55, 2) := by decide +kernel
theorem dX7_step_61 : decode cX7_step 61 = .ok (.if_icmp .ne 6, 3) := by decide +kernel
theorem dX7_step_64 : decode cX7_step 64 = .ok (.bipush (-3), 2) := by decide +kernel
theorem dX7_step_66 : decode cX7_step 66 = .ok (.ireturn, 1) := by decide +kernel
theorem dX7_step_67 : decode cX7_step 67 = .ok (.aload_n 0, 1) := by decide +kernel
theorem dX7_step_68 : decode cX7_step 68 = .ok (.getfield 29, 3) := by decide +kernel
theorem dX7_step_71 : decode cX7_step 71 = .ok (.aload_n 0, 1) := by decide +kernel
theorem dX7_step_72 : decode cX7_step 72 = .ok (.getfield 139, 3) := by decide +kernel
theorem dX7_step_75 : decode cX7_step 75 = .ok (.iload_n 1, 1) := by decide +kernel
theorem dX7_step_76 : decode cX7_step 76 = .ok (.iastore, 1) := by decide +kernel
theorem dX7_step_77 : decode cX7_step 77 = .ok (.aload_n 0, 1) := by decide +kernel
theorem dX7_step_78 : decode cX7_step 78 = .ok (.getfield 32, 3) := by decide +kernel
theorem dX7_step_81 : decode cX7_step 81 = .ok (.aload_n 0, 1) := by decide +kernel
theorem dX7_step_82 : decode cX7_step 82 = .ok (.getfield 139, 3) := by decide +kernel
theorem dX7_step_85 : decode cX7_step 85 = .ok (.aload_n 0, 1) := by decide +kernel
theorem dX7_step_86 : decode cX7_step 86 = .ok (.getfield 23, 3) := by decide +kernel
theorem dX7_step_89 : decode cX7_step 89 = .ok (.iload_n 1, 1) := by decide +kernel
theorem dX7_step_90 : decode cX7_step 90 = .ok (.iaload, 1) := by decide +kernel
theorem dX7_step_91 : decode cX7_step 91 = .ok (.iastore, 1) := by decide +kernel
theorem dX7_step_92 : decode cX7_step 92 = .ok (.aload_n 0, 1) := by decide +kernel
theorem dX7_step_93 : decode cX7_step 93 = .ok (.getfield 35, 3) := by decide +kernel
theorem dX7_step_96 : decode cX7_step 96 = .ok (.aload_n 0, 1) := by decide +kernel
theorem dX7_step_97 : decode cX7_step 97 = .ok (.getfield 139, 3) := by decide +kernel
theorem dX7_step_100 : decode cX7_step 100 = .ok (.iload_n 2, 1) := by decide +kernel
theorem dX7_step_101 : decode cX7_step 101 = .ok (.iastore, 1) := by decide +kernel
theorem dX7_step_102 : decode cX7_step 102 = .ok (.aload_n 0, 1) := by decide +kernel
theorem dX7_step_103 : decode cX7_step 103 = .ok (.getfield 38, 3) := by decide +kernel
theorem dX7_step_106 : decode cX7_step 106 = .ok (.aload_n 0, 1) := by decide +kernel
theorem dX7_step_107 : decode cX7_step 107 = .ok (.getfield 139, 3) := by decide +kernel
theorem dX7_step_110 : decode cX7_step 110 = .ok (.iload_n 3, 1) := by decide +kernel
theorem dX7_step_111 : decode cX7_step 111 = .ok (.iastore, 1) := by decide +kernel
theorem dX7_step_112 : decode cX7_step 112 = .ok (.aload_n 0, 1) := by decide +kernel
theorem dX7_step_113 : decode cX7_step 113 = .ok (.getfield 41, 3) := by decide +kernel
theorem dX7_step_116 : decode cX7_step 116 = .ok (.aload_n 0, 1) := by decide +kernel
theorem dX7_step_117 : decode cX7_step 117 = .ok (.getfield 139, 3) := by decide +kernel
theorem dX7_step_120 : decode cX7_step 120 = .ok (.iload 4, 2) := by decide +kernel
theorem dX7_step_122 : decode cX7_step 122 = .ok (.iastore, 1) := by decide +kernel
theorem dX7_step_123 : decode cX7_step 123 = .ok (.aload_n 0, 1) := by decide +kernel
theorem dX7_step_124 : decode cX7_step 124 = .ok (.getfield 44, 3) := by decide +kernel
theorem dX7_step_127 : decode cX7_step 127 = .ok (.aload_n 0, 1) := by decide +kernel
theorem dX7_step_128 : decode cX7_step 128 = .ok (.getfield 139, 3) := by decide +kernel
theorem dX7_step_131 : decode cX7_step 131 = .ok (.iload 5, 2) := by decide +kernel
theorem dX7_step_133 : decode cX7_step 133 = .ok (.iastore, 1) := by decide +kernel
theorem dX7_step_134 : decode cX7_step 134 = .ok (.aload_n 0, 1) := by decide +kernel
theorem dX7_step_135 : decode cX7_step 135 = .ok (.getfield 47, 3) := by decide +kernel
theorem dX7_step_138 : decode cX7_step 138 = .ok (.aload_n 0, 1) := by decide +kernel
theorem dX7_step_139 : decode cX7_step 139 = .ok (.getfield 139, 3) := by decide +kernel
theorem dX7_step_142 : decode cX7_step 142 = .ok (.iload 6, 2) := by decide +kernel
theorem dX7_step_144 : decode cX7_step 144 = .ok (.iastore, 1) := by decide +kernel
theorem dX7_step_145 : decode cX7_step 145 = .ok (.aload_n 0, 1) := by decide +kernel
theorem dX7_step_146 : decode cX7_step 146 = .ok (.getfield 26, 3) := by decide +kernel
theorem dX7_step_149 : decode cX7_step 149 = .ok (.bipush 90, 2) := by decide +kernel
theorem dX7_step_151 : decode cX7_step 151 = .ok (.iload_n 1, 1) := by decide +kernel
theorem dX7_step_152 : decode cX7_step 152 = .ok (.imul, 1) := by decide +kernel
theorem dX7_step_153 : decode cX7_step 153 = .ok (.aload_n 0, 1) := by decide +kernel
theorem dX7_step_154 : decode cX7_step 154 = .ok (.getfield 23, 3) := by decide +kernel
theorem dX7_step_157 : decode cX7_step 157 = .ok (.iload_n 1, 1) := by decide +kernel
theorem dX7_step_158 : decode cX7_step 158 = .ok (.iaload, 1) := by decide +kernel
theorem dX7_step_159 : decode cX7_step 159 = .ok (.iadd, 1) := by decide +kernel
theorem dX7_step_160 : decode cX7_step 160 = .ok (.aload_n 0, 1) := by decide +kernel
theorem dX7_step_161 : decode cX7_step 161 = .ok (.getfield 139, 3) := by decide +kernel
theorem dX7_step_164 : decode cX7_step 164 = .ok (.iastore, 1) := by decide +kernel
theorem dX7_step_165 : decode cX7_step 165 = .ok (.aload_n 0, 1) := by decide +kernel
theorem dX7_step_166 : decode cX7_step 166 = .ok (.getfield 23, 3) := by decide +kernel
theorem dX7_step_169 : decode cX7_step 169 = .ok (.iload_n 1, 1) := by decide +kernel
theorem dX7_step_170 : decode cX7_step 170 = .ok (.dup2, 1) := by decide +kernel
theorem dX7_step_171 : decode cX7_step 171 = .ok (.iaload, 1) := by decide +kernel
theorem dX7_step_172 : decode cX7_step 172 = .ok (.iconst 1, 1) := by decide +kernel
theorem dX7_step_173 : decode cX7_step 173 = .ok (.iadd, 1) := by decide +kernel
theorem dX7_step_174 : decode cX7_step 174 = .ok (.iastore, 1) := by decide +kernel
theorem dX7_step_175 : decode cX7_step 175 = .ok (.aload_n 0, 1) := by decide +kernel
theorem dX7_step_176 : decode cX7_step 176 = .ok (.dup, 1) := by decide +kernel
theorem dX7_step_177 : decode cX7_step 177 = .ok (.getfield 139, 3) := by decide +kernel
theorem dX7_step_180 : decode cX7_step 180 = .ok (.iconst 1, 1) := by decide +kernel
theorem dX7_step_181 : decode cX7_step 181 = .ok (.iadd, 1) := by decide +kernel
theorem dX7_step_182 : decode cX7_step 182 = .ok (.putfield 139, 3) := by decide +kernel
theorem dX7_step_185 : decode cX7_step 185 = .ok (.aload_n 0, 1) := by decide +kernel
theorem dX7_step_186 : decode cX7_step 186 = .ok (.dup, 1) := by decide +kernel
theorem dX7_step_187 : decode cX7_step 187 = .ok (.getfield 142, 3) := by decide +kernel
theorem dX7_step_190 : decode cX7_step 190 = .ok (.iload_n 2, 1) := by decide +kernel
theorem dX7_step_191 : decode cX7_step 191 = .ok (.iconst 2, 1) := by decide +kernel
theorem dX7_step_192 : decode cX7_step 192 = .ok (.if_icmp .ge 7, 3) := by decide +kernel
theorem dX7_step_195 : decode cX7_step 195 = .ok (.iconst 1, 1) := by decide +kernel
theorem dX7_step_196 : decode cX7_step 196 = .ok (.goto 4, 3) := by decide +kernel
theorem dX7_step_199 : decode cX7_step 199 = .ok (.iconst 0, 1) := by decide +kernel
theorem dX7_step_200 : decode cX7_step 200 = .ok (.iadd, 1) := by decide +kernel
theorem dX7_step_201 : decode cX7_step 201 = .ok (.putfield 142, 3) := by decide +kernel
theorem dX7_step_204 : decode cX7_step 204 = .ok (.aload_n 0, 1) := by decide +kernel
theorem dX7_step_205 : decode cX7_step 205 = .ok (.iconst 0, 1) := by decide +kernel
theorem dX7_step_206 : decode cX7_step 206 = .ok (.putfield 122, 3) := by decide +kernel
theorem dX7_step_209 : decode cX7_step 209 = .ok (.aload_n 0, 1) := by decide +kernel
theorem dX7_step_210 : decode cX7_step 210 = .ok (.iconst 0, 1) := by decide +kernel
theorem dX7_step_211 : decode cX7_step 211 = .ok (.putfield 126, 3) := by decide +kernel
theorem dX7_step_214 : decode cX7_step 214 = .ok (.aload_n 0, 1) := by decide +kernel
theorem dX7_step_215 : decode cX7_step 215 = .ok (.getfield 139, 3) := by decide +kernel
theorem dX7_step_218 : decode cX7_step 218 = .ok (.iconst 1, 1) := by decide +kernel
theorem dX7_step_219 : decode cX7_step 219 = .ok (.isub, 1) := by decide +kernel
theorem dX7_step_220 : decode cX7_step 220 = .ok (.ireturn, 1) := by decide +kernel
theorem dX7_classOf_0 : decode cX7_classOf 0 = .ok (.aload_n 0, 1) := by decide +kernel
theorem dX7_classOf_1 : decode cX7_classOf 1 = .ok (.getfield 35, 3) := by decide +kernel
theorem dX7_classOf_4 : decode cX7_classOf 4 = .ok (.aload_n 0, 1) := by decide +kernel
theorem dX7_classOf_5 : decode cX7_classOf 5 = .ok (.getfield 63, 3) := by decide +kernel
theorem dX7_classOf_8 : decode cX7_classOf 8 = .ok (.iload_n 1, 1) := by decide +kernel
theorem dX7_classOf_9 : decode cX7_classOf 9 = .ok (.iaload, 1) := by decide +kernel
theorem dX7_classOf_10 : decode cX7_classOf 10 = .ok (.iaload, 1) := by decide +kernel
theorem dX7_classOf_11 : decode cX7_classOf 11 = .ok (.iconst 1, 1) := by decide +kernel
theorem dX7_classOf_12 : decode cX7_classOf 12 = .ok (.if_icmp .ne 7, 3) := by decide +kernel
theorem dX7_classOf_15 : decode cX7_classOf 15 = .ok (.iconst 0, 1) := by decide +kernel
theorem dX7_classOf_16 : decode cX7_classOf 16 = .ok (.goto 14, 3) := by decide +kernel
theorem dX7_classOf_19 : decode cX7_classOf 19 = .ok (.aload_n 0, 1) := by decide +kernel
theorem dX7_classOf_20 : decode cX7_classOf 20 = .ok (.getfield 41, 3) := by decide +kernel
theorem dX7_classOf_23 : decode cX7_classOf 23 = .ok (.aload_n 0, 1) := by decide +kernel
theorem dX7_classOf_24 : decode cX7_classOf 24 = .ok (.getfield 63, 3) := by decide +kernel
theorem dX7_classOf_27 : decode cX7_classOf 27 = .ok (.iload_n 1, 1) := by decide +kernel
theorem dX7_classOf_28 : decode cX7_classOf 28 = .ok (.iaload, 1) := by decide +kernel
theorem dX7_classOf_29 : decode cX7_classOf 29 = .ok (.iaload, 1) := by decide +kernel
theorem dX7_classOf_30 : decode cX7_classOf 30 = .ok (.ireturn, 1) := by decide +kernel
theorem dX7_isRow_0 : decode cX7_isRow 0 = .ok (.aload_n 0, 1) := by decide +kernel
theorem dX7_isRow_1 : decode cX7_isRow 1 = .ok (.getfield 35, 3) := by decide +kernel
theorem dX7_isRow_4 : decode cX7_isRow 4 = .ok (.aload_n 0, 1) := by decide +kernel
theorem dX7_isRow_5 : decode cX7_isRow 5 = .ok (.getfield 63, 3) := by decide +kernel
theorem dX7_isRow_8 : decode cX7_isRow 8 = .ok (.iload_n 1, 1) := by decide +kernel
theorem dX7_isRow_9 : decode cX7_isRow 9 = .ok (.iaload, 1) := by decide +kernel
theorem dX7_isRow_10 : decode cX7_isRow 10 = .ok (.iaload, 1) := by decide +kernel
theorem dX7_isRow_11 : decode cX7_isRow 11 = .ok (.iconst 1, 1) := by decide +kernel
theorem dX7_isRow_12 : decode cX7_isRow 12 = .ok (.if_icmp .ne 7, 3) := by decide +kernel
theorem dX7_isRow_15 : decode cX7_isRow 15 = .ok (.iconst 1, 1) := by decide +kernel
theorem dX7_isRow_16 : decode cX7_isRow 16 = .ok (.goto 4, 3) := by decide +kernel
theorem dX7_isRow_19 : decode cX7_isRow 19 = .ok (.iconst 0, 1) := by decide +kernel
theorem dX7_isRow_20 : decode cX7_isRow 20 = .ok (.ireturn, 1) := by decide +kernel
theorem dX7_methodFor_0 : decode cX7_methodFor 0 = .ok (.iload_n 1, 1) := by decide +kernel
theorem dX7_methodFor_1 : decode cX7_methodFor 1 = .ok (.istore_n 3, 1) := by decide +kernel
theorem dX7_methodFor_2 : decode cX7_methodFor 2 = .ok (.iload_n 3, 1) := by decide +kernel
theorem dX7_methodFor_3 : decode cX7_methodFor 3 = .ok (.ifCond .lt 56, 3) := by decide +kernel
theorem dX7_methodFor_6 : decode cX7_methodFor 6 = .ok (.iconst 0, 1) := by decide +kernel
theorem dX7_methodFor_7 : decode cX7_methodFor 7 = .ok (.istore 4, 2) := by decide +kernel
theorem dX7_methodFor_9 : decode cX7_methodFor 9 = .ok (.iload 4, 2) := by decide +kernel
theorem dX7_methodFor_11 : decode cX7_methodFor 11 = .ok (.aload_n 0, 1) := by decide +kernel
theorem dX7_methodFor_12 : decode cX7_methodFor 12 = .ok (.getfield 115, 3) := by decide +kernel
theorem dX7_methodFor_15 : decode cX7_methodFor 15 = .ok (.if_icmp .ge 34, 3) := by decide +kernel
theorem dX7_methodFor_18 : decode cX7_methodFor 18 = .ok (.aload_n 0, 1) := by decide +kernel
theorem dX7_methodFor_19 : decode cX7_methodFor 19 = .ok (.getfield 17, 3) := by decide +kernel
theorem dX7_methodFor_22 : decode cX7_methodFor 22 = .ok (.iload 4, 2) := by decide +kernel
theorem dX7_methodFor_24 : decode cX7_methodFor 24 = .ok (.iaload, 1) := by decide +kernel
theorem dX7_methodFor_25 : decode cX7_methodFor 25 = .ok (.iload_n 3, 1) := by decide +kernel
theorem dX7_methodFor_26 : decode cX7_methodFor 26 = .ok (.if_icmp .ne 17, 3) := by decide +kernel
theorem dX7_methodFor_29 : decode cX7_methodFor 29 = .ok (.aload_n 0, 1) := by decide +kernel
theorem dX7_methodFor_30 : decode cX7_methodFor 30 = .ok (.getfield 20, 3) := by decide +kernel
theorem dX7_methodFor_33 : decode cX7_methodFor 33 = .ok (.iload 4, 2) := by decide +kernel
theorem dX7_methodFor_35 : decode cX7_methodFor 35 = .ok (.iaload, 1) := by decide +kernel
theorem dX7_methodFor_36 : decode cX7_methodFor 36 = .ok (.iload_n 2, 1) := by decide +kernel
theorem dX7_methodFor_37 : decode cX7_methodFor 37 = .ok (.if_icmp .ne 6, 3) := by decide +kernel
theorem dX7_methodFor_40 : decode cX7_methodFor 40 = .ok (.iload 4, 2) := by decide +kernel
theorem dX7_methodFor_42 : decode cX7_methodFor 42 = .ok (.ireturn, 1) := by decide +kernel
theorem dX7_methodFor_43 : decode cX7_methodFor 43 = .ok (.iinc 4 1, 3) := by decide +kernel
theorem dX7_methodFor_46 : decode cX7_methodFor 46 = .ok (.goto (-37), 3) := by decide +kernel
theorem dX7_methodFor_49 : decode cX7_methodFor 49 = .ok (.aload_n 0, 1) := by decide +kernel
theorem dX7_methodFor_50 : decode cX7_methodFor 50 = .ok (.getfield 13, 3) := by decide +kernel
theorem dX7_methodFor_53 : decode cX7_methodFor 53 = .ok (.iload_n 3, 1) := by decide +kernel
theorem dX7_methodFor_54 : decode cX7_methodFor 54 = .ok (.iaload, 1) := by decide +kernel
theorem dX7_methodFor_55 : decode cX7_methodFor 55 = .ok (.istore_n 3, 1) := by decide +kernel
theorem dX7_methodFor_56 : decode cX7_methodFor 56 = .ok (.goto (-54), 3) := by decide +kernel
theorem dX7_methodFor_59 : decode cX7_methodFor 59 = .ok (.iconst (-1), 1) := by decide +kernel
theorem dX7_methodFor_60 : decode cX7_methodFor 60 = .ok (.ireturn, 1) := by decide +kernel
theorem dX7_context_0 : decode cX7_context 0 = .ok (.iload_n 3, 1) := by decide +kernel
theorem dX7_context_1 : decode cX7_context 1 = .ok (.ifCond .ge 15, 3) := by decide +kernel
theorem dX7_context_4 : decode cX7_context 4 = .ok (.aload_n 0, 1) := by decide +kernel
theorem dX7_context_5 : decode cX7_context 5 = .ok (.getfield 145, 3) := by decide +kernel
theorem dX7_context_8 : decode cX7_context 8 = .ok (.iconst 1, 1) := by decide +kernel
theorem dX7_context_9 : decode cX7_context 9 = .ok (.if_icmp .ne 7, 3) := by decide +kernel
theorem dX7_context_12 : decode cX7_context 12 = .ok (.iconst 1, 1) := by decide +kernel
theorem dX7_context_13 : decode cX7_context 13 = .ok (.goto 4, 3) := by decide +kernel
theorem dX7_context_16 : decode cX7_context 16 = .ok (.iconst 0, 1) := by decide +kernel
theorem dX7_context_17 : decode cX7_context 17 = .ok (.istore 4, 2) := by decide +kernel
theorem dX7_context_19 : decode cX7_context 19 = .ok (.iload_n 3, 1) := by decide +kernel
theorem dX7_context_20 : decode cX7_context 20 = .ok (.ifCond .lt 14, 3) := by decide +kernel
theorem dX7_context_23 : decode cX7_context 23 = .ok (.aload_n 0, 1) := by decide +kernel
theorem dX7_context_24 : decode cX7_context 24 = .ok (.getfield 145, 3) := by decide +kernel
theorem dX7_context_27 : decode cX7_context 27 = .ok (.ifCond .le 7, 3) := by decide +kernel
theorem dX7_context_30 : decode cX7_context 30 = .ok (.iconst 1, 1) := by decide +kernel
theorem dX7_context_31 : decode cX7_context 31 = .ok (.goto 4, 3) := by decide +kernel
theorem dX7_context_34 : decode cX7_context 34 = .ok (.iconst 0, 1) := by decide +kernel
theorem dX7_context_35 : decode cX7_context 35 = .ok (.istore 5, 2) := by decide +kernel
theorem dX7_context_37 : decode cX7_context 37 = .ok (.aload_n 0, 1) := by decide +kernel
theorem dX7_context_38 : decode cX7_context 38 = .ok (.iload 4, 2) := by decide +kernel
theorem dX7_context_40 : decode cX7_context 40 = .ok (.ifCond .eq 12, 3) := by decide +kernel
theorem dX7_context_43 : decode cX7_context 43 = .ok (.aload_n 0, 1) := by decide +kernel
theorem dX7_context_44 : decode cX7_context 44 = .ok (.getfield 53, 3) := by decide +kernel
theorem dX7_context_47 : decode cX7_context 47 = .ok (.iload_n 1, 1) := by decide +kernel
theorem dX7_context_48 : decode cX7_context 48 = .ok (.iaload, 1) := by decide +kernel
theorem dX7_context_49 : decode cX7_context 49 = .ok (.goto 21, 3) := by decide +kernel
theorem dX7_context_52 : decode cX7_context 52 = .ok (.iload 5, 2) := by decide +kernel
theorem dX7_context_54 : decode cX7_context 54 = .ok (.ifCond .eq 15, 3) := by decide +kernel
theorem dX7_context_57 : decode cX7_context 57 = .ok (.bipush 100, 2) := by decide +kernel
theorem dX7_context_59 : decode cX7_context 59 = .ok (.aload_n 0, 1) := by decide +kernel
theorem dX7_context_60 : decode cX7_context 60 = .ok (.getfield 63, 3) := by decide +kernel
theorem dX7_context_63 : decode cX7_context 63 = .ok (.iload_n 3, 1) := by decide +kernel
theorem dX7_context_64 : decode cX7_context 64 = .ok (.iaload, 1) := by decide +kernel
theorem dX7_context_65 : decode cX7_context 65 = .ok (.iadd, 1) := by decide +kernel
theorem dX7_context_66 : decode cX7_context 66 = .ok (.goto 4, 3) := by decide +kernel
theorem dX7_context_69 : decode cX7_context 69 = .ok (.iload_n 2, 1) := by decide +kernel
theorem dX7_context_70 : decode cX7_context 70 = .ok (.putfield 148, 3) := by decide +kernel
theorem dX7_context_73 : decode cX7_context 73 = .ok (.aload_n 0, 1) := by decide +kernel
theorem dX7_context_74 : decode cX7_context 74 = .ok (.iload 4, 2) := by decide +kernel
theorem dX7_context_76 : decode cX7_context 76 = .ok (.ifCond .eq 12, 3) := by decide +kernel
theorem dX7_context_79 : decode cX7_context 79 = .ok (.aload_n 0, 1) := by decide +kernel
theorem dX7_context_80 : decode cX7_context 80 = .ok (.getfield 56, 3) := by decide +kernel
theorem dX7_context_83 : decode cX7_context 83 = .ok (.iload_n 1, 1) := by decide +kernel
theorem dX7_context_84 : decode cX7_context 84 = .ok (.iaload, 1) := by decide +kernel
theorem dX7_context_85 : decode cX7_context 85 = .ok (.goto 28, 3) := by decide +kernel
theorem dX7_context_88 : decode cX7_context 88 = .ok (.iload 5, 2) := by decide +kernel
theorem dX7_context_90 : decode cX7_context 90 = .ok (.ifCond .eq 17, 3) := by decide +kernel
theorem dX7_context_93 : decode cX7_context 93 = .ok (.aload_n 0, 1) := by decide +kernel
theorem dX7_context_94 : decode cX7_context 94 = .ok (.getfield 53, 3) := by decide +kernel
theorem dX7_context_97 : decode cX7_context 97 = .ok (.aload_n 0, 1) := by decide +kernel
theorem dX7_context_98 : decode cX7_context 98 = .ok (.getfield 66, 3) := by decide +kernel
theorem dX7_context_101 : decode cX7_context 101 = .ok (.iload_n 3, 1) := by decide +kernel
theorem dX7_context_102 : decode cX7_context 102 = .ok (.iaload, 1) := by decide +kernel
theorem dX7_context_103 : decode cX7_context 103 = .ok (.iaload, 1) := by decide +kernel
theorem dX7_context_104 : decode cX7_context 104 = .ok (.goto 9, 3) := by decide +kernel
theorem dX7_context_107 : decode cX7_context 107 = .ok (.aload_n 0, 1) := by decide +kernel
theorem dX7_context_108 : decode cX7_context 108 = .ok (.getfield 53, 3) := by decide +kernel
theorem dX7_context_111 : decode cX7_context 111 = .ok (.iload_n 1, 1) := by decide +kernel
theorem dX7_context_112 : decode cX7_context 112 = .ok (.iaload, 1) := by decide +kernel
theorem dX7_context_113 : decode cX7_context 113 = .ok (.putfield 151, 3) := by decide +kernel
theorem dX7_context_116 : decode cX7_context 116 = .ok (.aload_n 0, 1) := by decide +kernel
theorem dX7_context_117 : decode cX7_context 117 = .ok (.aload_n 0, 1) := by decide +kernel
theorem dX7_context_118 : decode cX7_context 118 = .ok (.getfield 154, 3) := by decide +kernel
theorem dX7_context_121 : decode cX7_context 121 = .ok (.ifCond .ne 7, 3) := by decide +kernel
theorem dX7_context_124 : decode cX7_context 124 = .ok (.iconst (-1), 1) := by decide +kernel
theorem dX7_context_125 : decode cX7_context 125 = .ok (.goto 7, 3) := by decide +kernel
theorem dX7_context_128 : decode cX7_context 128 = .ok (.aload_n 0, 1) := by decide +kernel
theorem dX7_context_129 : decode cX7_context 129 = .ok (.getfield 148, 3) := by decide +kernel
theorem dX7_context_132 : decode cX7_context 132 = .ok (.putfield 148, 3) := by decide +kernel
theorem dX7_context_135 : decode cX7_context 135 = .ok (.aload_n 0, 1) := by decide +kernel
theorem dX7_context_136 : decode cX7_context 136 = .ok (.aload_n 0, 1) := by decide +kernel
theorem dX7_context_137 : decode cX7_context 137 = .ok (.getfield 154, 3) := by decide +kernel
theorem dX7_context_140 : decode cX7_context 140 = .ok (.iconst 2, 1) := by decide +kernel
theorem dX7_context_141 : decode cX7_context 141 = .ok (.if_icmp .ge 7, 3) := by decide +kernel
theorem dX7_context_144 : decode cX7_context 144 = .ok (.iconst (-1), 1) := by decide +kernel
theorem dX7_context_145 : decode cX7_context 145 = .ok (.goto 7, 3) := by decide +kernel
theorem dX7_context_148 : decode cX7_context 148 = .ok (.aload_n 0, 1) := by decide +kernel
theorem dX7_context_149 : decode cX7_context 149 = .ok (.getfield 151, 3) := by decide +kernel
theorem dX7_context_152 : decode cX7_context 152 = .ok (.putfield 151, 3) := by decide +kernel
theorem dX7_context_155 : decode cX7_context 155 = .ok (.return_, 1) := by decide +kernel
theorem dX7_nodeOf_0 : decode cX7_nodeOf 0 = .ok (.iconst 0, 1) := by decide +kernel
theorem dX7_nodeOf_1 : decode cX7_nodeOf 1 = .ok (.istore_n 2, 1) := by decide +kernel
theorem dX7_nodeOf_2 : decode cX7_nodeOf 2 = .ok (.iload_n 2, 1) := by decide +kernel
theorem dX7_nodeOf_3 : decode cX7_nodeOf 3 = .ok (.aload_n 0, 1) := by decide +kernel
theorem dX7_nodeOf_4 : decode cX7_nodeOf 4 = .ok (.getfield 108, 3) := by decide +kernel
theorem dX7_nodeOf_7 : decode cX7_nodeOf 7 = .ok (.if_icmp .ge 45, 3) := by decide +kernel
theorem dX7_nodeOf_10 : decode cX7_nodeOf 10 = .ok (.aload_n 0, 1) := by decide +kernel
theorem dX7_nodeOf_11 : decode cX7_nodeOf 11 = .ok (.getfield 50, 3) := by decide +kernel
theorem dX7_nodeOf_14 : decode cX7_nodeOf 14 = .ok (.iload_n 2, 1) := by decide +kernel
theorem dX7_nodeOf_15 : decode cX7_nodeOf 15 = .ok (.iaload, 1) := by decide +kernel
theorem dX7_nodeOf_16 : decode cX7_nodeOf 16 = .ok (.iload_n 1, 1) := by decide +kernel
theorem dX7_nodeOf_17 : decode cX7_nodeOf 17 = .ok (.if_icmp .ne 29, 3) := by decide +kernel
theorem dX7_nodeOf_20 : decode cX7_nodeOf 20 = .ok (.aload_n 0, 1) := by decide +kernel
theorem dX7_nodeOf_21 : decode cX7_nodeOf 21 = .ok (.getfield 53, 3) := by decide +kernel
theorem dX7_nodeOf_24 : decode cX7_nodeOf 24 = .ok (.iload_n 2, 1) := by decide +kernel
theorem dX7_nodeOf_25 : decode cX7_nodeOf 25 = .ok (.iaload, 1) := by decide +kernel
theorem dX7_nodeOf_26 : decode cX7_nodeOf 26 = .ok (.aload_n 0, 1) := by decide +kernel
theorem dX7_nodeOf_27 : decode cX7_nodeOf 27 = .ok (.getfield 148, 3) := by decide +kernel
theorem dX7_nodeOf_30 : decode cX7_nodeOf 30 = .ok (.if_icmp .ne 16, 3) := by decide +kernel
theorem dX7_nodeOf_33 : decode cX7_nodeOf 33 = .ok (.aload_n 0, 1) := by decide +kernel
theorem dX7_nodeOf_34 : decode cX7_nodeOf 34 = .ok (.getfield 56, 3) := by decide +kernel
theorem dX7_nodeOf_37 : decode cX7_nodeOf 37 = .ok (.iload_n 2, 1) := by decide +kernel
theorem dX7_nodeOf_38 : decode cX7_nodeOf 38 = .ok (.iaload, 1) := by decide +kernel
theorem dX7_nodeOf_39 : decode cX7_nodeOf 39 = .ok (.aload_n 0, 1) := by decide +kernel
theorem dX7_nodeOf_40 : decode cX7_nodeOf 40 = .ok (.getfield 151, 3) := by decide +kernel
theorem dX7_nodeOf_43 : decode cX7_nodeOf 43 = .ok (.if_icmp .eq 9, 3) := by decide +kernel
theorem dX7_nodeOf_46 : decode cX7_nodeOf 46 = .ok (.iinc 2 1, 3) := by decide +kernel
theorem dX7_nodeOf_49 : decode cX7_nodeOf 49 = .ok (.goto (-47), 3) := by decide +kernel
theorem dX7_nodeOf_52 : decode cX7_nodeOf 52 = .ok (.iload_n 2, 1) := by decide +kernel
theorem dX7_nodeOf_53 : decode cX7_nodeOf 53 = .ok (.ireturn, 1) := by decide +kernel
theorem dX7_newNode_0 : decode cX7_newNode 0 = .ok (.aload_n 0, 1) := by decide +kernel
theorem dX7_newNode_1 : decode cX7_newNode 1 = .ok (.iload_n 1, 1) := by decide +kernel
theorem dX7_newNode_2 : decode cX7_newNode 2 = .ok (.invokevirtual 157, 3) := by decide +kernel
theorem dX7_newNode_5 : decode cX7_newNode 5 = .ok (.istore_n 2, 1) := by decide +kernel
theorem dX7_newNode_6 : decode cX7_newNode 6 = .ok (.iload_n 2, 1) := by decide +kernel
theorem dX7_newNode_7 : decode cX7_newNode 7 = .ok (.bipush 80, 2) := by decide +kernel
theorem dX7_newNode_9 : decode cX7_newNode 9 = .ok (.if_icmp .ne 10, 3) := by decide +kernel
theorem dX7_newNode_12 : decode cX7_newNode 12 = .ok (.aload_n 0, 1) := by decide +kernel
theorem dX7_newNode_13 : decode cX7_newNode 13 = .ok (.iconst 1, 1) := by decide +kernel
theorem dX7_newNode_14 : decode cX7_newNode 14 = .ok (.putfield 161, 3) := by decide +kernel
theorem dX7_newNode_17 : decode cX7_newNode 17 = .ok (.iconst 0, 1) := by decide +kernel
theorem dX7_newNode_18 : decode cX7_newNode 18 = .ok (.ireturn, 1) := by decide +kernel
theorem dX7_newNode_19 : decode cX7_newNode 19 = .ok (.iload_n 2, 1) := by decide +kernel
theorem dX7_newNode_20 : decode cX7_newNode 20 = .ok (.aload_n 0, 1) := by decide +kernel
theorem dX7_newNode_21 : decode cX7_newNode 21 = .ok (.getfield 108, 3) := by decide +kernel
theorem dX7_newNode_24 : decode cX7_newNode 24 = .ok (.if_icmp .ne 71, 3) := by decide +kernel
theorem dX7_newNode_27 : decode cX7_newNode 27 = .ok (.aload_n 0, 1) := by decide +kernel
theorem dX7_newNode_28 : decode cX7_newNode 28 = .ok (.getfield 50, 3) := by decide +kernel
theorem dX7_newNode_31 : decode cX7_newNode 31 = .ok (.iload_n 2, 1) := by decide +kernel
theorem dX7_newNode_32 : decode cX7_newNode 32 = .ok (.iload_n 1, 1) := by decide +kernel
theorem dX7_newNode_33 : decode cX7_newNode 33 = .ok (.iastore, 1) := by decide +kernel
theorem dX7_newNode_34 : decode cX7_newNode 34 = .ok (.aload_n 0, 1) := by decide +kernel
theorem dX7_newNode_35 : decode cX7_newNode 35 = .ok (.getfield 53, 3) := by decide +kernel
theorem dX7_newNode_38 : decode cX7_newNode 38 = .ok (.iload_n 2, 1) := by decide +kernel
theorem dX7_newNode_39 : decode cX7_newNode 39 = .ok (.aload_n 0, 1) := by decide +kernel
theorem dX7_newNode_40 : decode cX7_newNode 40 = .ok (.getfield 148, 3) := by decide +kernel
theorem dX7_newNode_43 : decode cX7_newNode 43 = .ok (.iastore, 1) := by decide +kernel
theorem dX7_newNode_44 : decode cX7_newNode 44 = .ok (.aload_n 0, 1) := by decide +kernel
theorem dX7_newNode_45 : decode cX7_newNode 45 = .ok (.getfield 56, 3) := by decide +kernel
theorem dX7_newNode_48 : decode cX7_newNode 48 = .ok (.iload_n 2, 1) := by decide +kernel
theorem dX7_newNode_49 : decode cX7_newNode 49 = .ok (.aload_n 0, 1) := by decide +kernel
theorem dX7_newNode_50 : decode cX7_newNode 50 = .ok (.getfield 151, 3) := by decide +kernel
theorem dX7_newNode_53 : decode cX7_newNode 53 = .ok (.iastore, 1) := by decide +kernel
theorem dX7_newNode_54 : decode cX7_newNode 54 = .ok (.iconst 0, 1) := by decide +kernel
theorem dX7_newNode_55 : decode cX7_newNode 55 = .ok (.istore_n 3, 1) := by decide +kernel
theorem dX7_newNode_56 : decode cX7_newNode 56 = .ok (.iload_n 3, 1) := by decide +kernel
theorem dX7_newNode_57 : decode cX7_newNode 57 = .ok (.bipush 8, 2) := by decide +kernel
theorem dX7_newNode_59 : decode cX7_newNode 59 = .ok (.if_icmp .ge 21, 3) := by decide +kernel
theorem dX7_newNode_62 : decode cX7_newNode 62 = .ok (.aload_n 0, 1) := by decide +kernel
theorem dX7_newNode_63 : decode cX7_newNode 63 = .ok (.getfield 59, 3) := by decide +kernel
theorem dX7_newNode_66 : decode cX7_newNode 66 = .ok (.bipush 8, 2) := by decide +kernel
theorem dX7_newNode_68 : decode cX7_newNode 68 = .ok (.iload_n 2, 1) := by decide +kernel
theorem dX7_newNode_69 : decode cX7_newNode 69 = .ok (.imul, 1) := by decide +kernel
theorem dX7_newNode_70 : decode cX7_newNode 70 = .ok (.iload_n 3, 1) := by decide +kernel
theorem dX7_newNode_71 : decode cX7_newNode 71 = .ok (.iadd, 1) := by decide +kernel
theorem dX7_newNode_72 : decode cX7_newNode 72 = .ok (.lconst 0, 1) := by decide +kernel
theorem dX7_newNode_73 : decode cX7_newNode 73 = .ok (.lastore, 1) := by decide +kernel
theorem dX7_newNode_74 : decode cX7_newNode 74 = .ok (.iinc 3 1, 3) := by decide +kernel
theorem dX7_newNode_77 : decode cX7_newNode 77 = .ok (.goto (-21), 3) := by decide +kernel
theorem dX7_newNode_80 : decode cX7_newNode 80 = .ok (.aload_n 0, 1) := by decide +kernel
theorem dX7_newNode_81 : decode cX7_newNode 81 = .ok (.dup, 1) := by decide +kernel
theorem dX7_newNode_82 : decode cX7_newNode 82 = .ok (.getfield 108, 3) := by decide +kernel
theorem dX7_newNode_85 : decode cX7_newNode 85 = .ok (.iconst 1, 1) := by decide +kernel
theorem dX7_newNode_86 : decode cX7_newNode 86 = .ok (.iadd, 1) := by decide +kernel
theorem dX7_newNode_87 : decode cX7_newNode 87 = .ok (.putfield 108, 3) := by decide +kernel
theorem dX7_newNode_90 : decode cX7_newNode 90 = .ok (.aload_n 0, 1) := by decide +kernel
theorem dX7_newNode_91 : decode cX7_newNode 91 = .ok (.iconst 1, 1) := by decide +kernel
theorem dX7_newNode_92 : decode cX7_newNode 92 = .ok (.putfield 164, 3) := by decide +kernel
theorem dX7_newNode_95 : decode cX7_newNode 95 = .ok (.iload_n 2, 1) := by decide +kernel
theorem dX7_newNode_96 : decode cX7_newNode 96 = .ok (.ireturn, 1) := by decide +kernel
theorem dX7_nameOf_0 : decode cX7_nameOf 0 = .ok (.iconst 0, 1) := by decide +kernel
theorem dX7_nameOf_1 : decode cX7_nameOf 1 = .ok (.istore_n 3, 1) := by decide +kernel
theorem dX7_nameOf_2 : decode cX7_nameOf 2 = .ok (.iload_n 3, 1) := by decide +kernel
theorem dX7_nameOf_3 : decode cX7_nameOf 3 = .ok (.aload_n 0, 1) := by decide +kernel
theorem dX7_nameOf_4 : decode cX7_nameOf 4 = .ok (.getfield 167, 3) := by decide +kernel
theorem dX7_nameOf_7 : decode cX7_nameOf 7 = .ok (.if_icmp .ge 29, 3) := by decide +kernel
theorem dX7_nameOf_10 : decode cX7_nameOf 10 = .ok (.aload_n 0, 1) := by decide +kernel
theorem dX7_nameOf_11 : decode cX7_nameOf 11 = .ok (.getfield 63, 3) := by decide +kernel
theorem dX7_nameOf_14 : decode cX7_nameOf 14 = .ok (.iload_n 3, 1) := by decide +kernel
theorem dX7_nameOf_15 : decode cX7_nameOf 15 = .ok (.iaload, 1) := by decide +kernel
theorem dX7_nameOf_16 : decode cX7_nameOf 16 = .ok (.iload_n 1, 1) := by decide +kernel
theorem dX7_nameOf_17 : decode cX7_nameOf 17 = .ok (.if_icmp .ne 13, 3) := by decide +kernel
theorem dX7_nameOf_20 : decode cX7_nameOf 20 = .ok (.aload_n 0, 1) := by decide +kernel
theorem dX7_nameOf_21 : decode cX7_nameOf 21 = .ok (.getfield 66, 3) := by decide +kernel
theorem dX7_nameOf_24 : decode cX7_nameOf 24 = .ok (.iload_n 3, 1) := by decide +kernel
theorem dX7_nameOf_25 : decode cX7_nameOf 25 = .ok (.iaload, 1) := by decide +kernel
theorem dX7_nameOf_26 : decode cX7_nameOf 26 = .ok (.iload_n 2, 1) := by decide +kernel
theorem dX7_nameOf_27 : decode cX7_nameOf 27 = .ok (.if_icmp .eq 9, 3) := by decide +kernel
theorem dX7_nameOf_30 : decode cX7_nameOf 30 = .ok (.iinc 3 1, 3) := by decide +kernel
theorem dX7_nameOf_33 : decode cX7_nameOf 33 = .ok (.goto (-31), 3) := by decide +kernel
theorem dX7_nameOf_36 : decode cX7_nameOf 36 = .ok (.iload_n 3, 1) := by decide +kernel
theorem dX7_nameOf_37 : decode cX7_nameOf 37 = .ok (.ireturn, 1) := by decide +kernel
theorem dX7_newName_0 : decode cX7_newName 0 = .ok (.aload_n 0, 1) := by decide +kernel
theorem dX7_newName_1 : decode cX7_newName 1 = .ok (.iload_n 2, 1) := by decide +kernel
theorem dX7_newName_2 : decode cX7_newName 2 = .ok (.iload_n 1, 1) := by decide +kernel
theorem dX7_newName_3 : decode cX7_newName 3 = .ok (.invokevirtual 170, 3) := by decide +kernel
theorem dX7_newName_6 : decode cX7_newName 6 = .ok (.istore_n 3, 1) := by decide +kernel
theorem dX7_newName_7 : decode cX7_newName 7 = .ok (.iload_n 3, 1) := by decide +kernel
theorem dX7_newName_8 : decode cX7_newName 8 = .ok (.bipush 60, 2) := by decide +kernel
theorem dX7_newName_10 : decode cX7_newName 10 = .ok (.if_icmp .ne 10, 3) := by decide +kernel
theorem dX7_newName_13 : decode cX7_newName 13 = .ok (.aload_n 0, 1) := by decide +kernel
theorem dX7_newName_14 : decode cX7_newName 14 = .ok (.iconst 1, 1) := by decide +kernel
theorem dX7_newName_15 : decode cX7_newName 15 = .ok (.putfield 161, 3) := by decide +kernel
theorem dX7_newName_18 : decode cX7_newName 18 = .ok (.iconst 0, 1) := by decide +kernel
theorem dX7_newName_19 : decode cX7_newName 19 = .ok (.ireturn, 1) := by decide +kernel
theorem dX7_newName_20 : decode cX7_newName 20 = .ok (.iload_n 3, 1) := by decide +kernel
theorem dX7_newName_21 : decode cX7_newName 21 = .ok (.aload_n 0, 1) := by decide +kernel
theorem dX7_newName_22 : decode cX7_newName 22 = .ok (.getfield 167, 3) := by decide +kernel
theorem dX7_newName_25 : decode cX7_newName 25 = .ok (.if_icmp .ne 59, 3) := by decide +kernel
theorem dX7_newName_28 : decode cX7_newName 28 = .ok (.aload_n 0, 1) := by decide +kernel
theorem dX7_newName_29 : decode cX7_newName 29 = .ok (.getfield 63, 3) := by decide +kernel
theorem dX7_newName_32 : decode cX7_newName 32 = .ok (.iload_n 3, 1) := by decide +kernel
theorem dX7_newName_33 : decode cX7_newName 33 = .ok (.iload_n 2, 1) := by decide +kernel
theorem dX7_newName_34 : decode cX7_newName 34 = .ok (.iastore, 1) := by decide +kernel
theorem dX7_newName_35 : decode cX7_newName 35 = .ok (.aload_n 0, 1) := by decide +kernel
theorem dX7_newName_36 : decode cX7_newName 36 = .ok (.getfield 66, 3) := by decide +kernel
theorem dX7_newName_39 : decode cX7_newName 39 = .ok (.iload_n 3, 1) := by decide +kernel
theorem dX7_newName_40 : decode cX7_newName 40 = .ok (.iload_n 1, 1) := by decide +kernel
theorem dX7_newName_41 : decode cX7_newName 41 = .ok (.iastore, 1) := by decide +kernel
theorem dX7_newName_42 : decode cX7_newName 42 = .ok (.iconst 0, 1) := by decide +kernel
theorem dX7_newName_43 : decode cX7_newName 43 = .ok (.istore 4, 2) := by decide +kernel
theorem dX7_newName_45 : decode cX7_newName 45 = .ok (.iload 4, 2) := by decide +kernel
theorem dX7_newName_47 : decode cX7_newName 47 = .ok (.iconst 5, 1) := by decide +kernel
theorem dX7_newName_48 : decode cX7_newName 48 = .ok (.if_icmp .ge 21, 3) := by decide +kernel
theorem dX7_newName_51 : decode cX7_newName 51 = .ok (.aload_n 0, 1) := by decide +kernel
theorem dX7_newName_52 : decode cX7_newName 52 = .ok (.getfield 69, 3) := by decide +kernel
theorem dX7_newName_55 : decode cX7_newName 55 = .ok (.iconst 5, 1) := by decide +kernel
theorem dX7_newName_56 : decode cX7_newName 56 = .ok (.iload_n 3, 1) := by decide +kernel
theorem dX7_newName_57 : decode cX7_newName 57 = .ok (.imul, 1) := by decide +kernel
theorem dX7_newName_58 : decode cX7_newName 58 = .ok (.iload 4, 2) := by decide +kernel
theorem dX7_newName_60 : decode cX7_newName 60 = .ok (.iadd, 1) := by decide +kernel
theorem dX7_newName_61 : decode cX7_newName 61 = .ok (.lconst 0, 1) := by decide +kernel
theorem dX7_newName_62 : decode cX7_newName 62 = .ok (.lastore, 1) := by decide +kernel
theorem dX7_newName_63 : decode cX7_newName 63 = .ok (.iinc 4 1, 3) := by decide +kernel
theorem dX7_newName_66 : decode cX7_newName 66 = .ok (.goto (-21), 3) := by decide +kernel
theorem dX7_newName_69 : decode cX7_newName 69 = .ok (.aload_n 0, 1) := by decide +kernel
theorem dX7_newName_70 : decode cX7_newName 70 = .ok (.dup, 1) := by decide +kernel
theorem dX7_newName_71 : decode cX7_newName 71 = .ok (.getfield 167, 3) := by decide +kernel
theorem dX7_newName_74 : decode cX7_newName 74 = .ok (.iconst 1, 1) := by decide +kernel
theorem dX7_newName_75 : decode cX7_newName 75 = .ok (.iadd, 1) := by decide +kernel
theorem dX7_newName_76 : decode cX7_newName 76 = .ok (.putfield 167, 3) := by decide +kernel
theorem dX7_newName_79 : decode cX7_newName 79 = .ok (.aload_n 0, 1) := by decide +kernel
theorem dX7_newName_80 : decode cX7_newName 80 = .ok (.iconst 1, 1) := by decide +kernel
theorem dX7_newName_81 : decode cX7_newName 81 = .ok (.putfield 164, 3) := by decide +kernel
theorem dX7_newName_84 : decode cX7_newName 84 = .ok (.iload_n 3, 1) := by decide +kernel
theorem dX7_newName_85 : decode cX7_newName 85 = .ok (.ireturn, 1) := by decide +kernel
theorem dX7_holds_0 : decode cX7_holds 0 = .ok (.aload_n 0, 1) := by decide +kernel
theorem dX7_holds_1 : decode cX7_holds 1 = .ok (.getfield 59, 3) := by decide +kernel
theorem dX7_holds_4 : decode cX7_holds 4 = .ok (.bipush 8, 2) := by decide +kernel
theorem dX7_holds_6 : decode cX7_holds 6 = .ok (.iload_n 1, 1) := by decide +kernel
theorem dX7_holds_7 : decode cX7_holds 7 = .ok (.imul, 1) := by decide +kernel
theorem dX7_holds_8 : decode cX7_holds 8 = .ok (.iload_n 2, 1) := by decide +kernel
theorem dX7_holds_9 : decode cX7_holds 9 = .ok (.iadd, 1) := by decide +kernel
theorem dX7_holds_10 : decode cX7_holds 10 = .ok (.laload, 1) := by decide +kernel
theorem dX7_holds_11 : decode cX7_holds 11 = .ok (.lstore 5, 2) := by decide +kernel
theorem dX7_holds_13 : decode cX7_holds 13 = .ok (.aload_n 0, 1) := by decide +kernel
theorem dX7_holds_14 : decode cX7_holds 14 = .ok (.getfield 59, 3) := by decide +kernel
theorem dX7_holds_17 : decode cX7_holds 17 = .ok (.bipush 8, 2) := by decide +kernel
theorem dX7_holds_19 : decode cX7_holds 19 = .ok (.iload_n 1, 1) := by decide +kernel
theorem dX7_holds_20 : decode cX7_holds 20 = .ok (.imul, 1) := by decide +kernel
theorem dX7_holds_21 : decode cX7_holds 21 = .ok (.iload_n 2, 1) := by decide +kernel
theorem dX7_holds_22 : decode cX7_holds 22 = .ok (.iadd, 1) := by decide +kernel
theorem dX7_holds_23 : decode cX7_holds 23 = .ok (.lload 5, 2) := by decide +kernel
theorem dX7_holds_25 : decode cX7_holds 25 = .ok (.lload_n 3, 1) := by decide +kernel
theorem dX7_holds_26 : decode cX7_holds 26 = .ok (.lor, 1) := by decide +kernel
theorem dX7_holds_27 : decode cX7_holds 27 = .ok (.lastore, 1) := by decide +kernel
theorem dX7_holds_28 : decode cX7_holds 28 = .ok (.aload_n 0, 1) := by decide +kernel
theorem dX7_holds_29 : decode cX7_holds 29 = .ok (.aload_n 0, 1) := by decide +kernel
theorem dX7_holds_30 : decode cX7_holds 30 = .ok (.getfield 164, 3) := by decide +kernel
theorem dX7_holds_33 : decode cX7_holds 33 = .ok (.ifCond .ne 20, 3) := by decide +kernel
theorem dX7_holds_36 : decode cX7_holds 36 = .ok (.aload_n 0, 1) := by decide +kernel
theorem dX7_holds_37 : decode cX7_holds 37 = .ok (.getfield 59, 3) := by decide +kernel
theorem dX7_holds_40 : decode cX7_holds 40 = .ok (.bipush 8, 2) := by decide +kernel
theorem dX7_holds_42 : decode cX7_holds 42 = .ok (.iload_n 1, 1) := by decide +kernel
theorem dX7_holds_43 : decode cX7_holds 43 = .ok (.imul, 1) := by decide +kernel
theorem dX7_holds_44 : decode cX7_holds 44 = .ok (.iload_n 2, 1) := by decide +kernel
theorem dX7_holds_45 : decode cX7_holds 45 = .ok (.iadd, 1) := by decide +kernel
theorem dX7_holds_46 : decode cX7_holds 46 = .ok (.laload, 1) := by decide +kernel
theorem dX7_holds_47 : decode cX7_holds 47 = .ok (.lload 5, 2) := by decide +kernel
theorem dX7_holds_49 : decode cX7_holds 49 = .ok (.lcmp, 1) := by decide +kernel
theorem dX7_holds_50 : decode cX7_holds 50 = .ok (.ifCond .eq 7, 3) := by decide +kernel
theorem dX7_holds_53 : decode cX7_holds 53 = .ok (.iconst 1, 1) := by decide +kernel
theorem dX7_holds_54 : decode cX7_holds 54 = .ok (.goto 4, 3) := by decide +kernel
theorem dX7_holds_57 : decode cX7_holds 57 = .ok (.iconst 0, 1) := by decide +kernel
theorem dX7_holds_58 : decode cX7_holds 58 = .ok (.putfield 164, 3) := by decide +kernel
theorem dX7_holds_61 : decode cX7_holds 61 = .ok (.return_, 1) := by decide +kernel
theorem dX7_lies_0 : decode cX7_lies 0 = .ok (.aload_n 0, 1) := by decide +kernel
theorem dX7_lies_1 : decode cX7_lies 1 = .ok (.getfield 69, 3) := by decide +kernel
theorem dX7_lies_4 : decode cX7_lies 4 = .ok (.iconst 5, 1) := by decide +kernel
theorem dX7_lies_5 : decode cX7_lies 5 = .ok (.iload_n 1, 1) := by decide +kernel
theorem dX7_lies_6 : decode cX7_lies 6 = .ok (.imul, 1) := by decide +kernel
theorem dX7_lies_7 : decode cX7_lies 7 = .ok (.iload_n 2, 1) := by decide +kernel
theorem dX7_lies_8 : decode cX7_lies 8 = .ok (.iadd, 1) := by decide +kernel
theorem dX7_lies_9 : decode cX7_lies 9 = .ok (.laload, 1) := by decide +kernel
theorem dX7_lies_10 : decode cX7_lies 10 = .ok (.lstore 5, 2) := by decide +kernel
theorem dX7_lies_12 : decode cX7_lies 12 = .ok (.aload_n 0, 1) := by decide +kernel
theorem dX7_lies_13 : decode cX7_lies 13 = .ok (.getfield 69, 3) := by decide +kernel
theorem dX7_lies_16 : decode cX7_lies 16 = .ok (.iconst 5, 1) := by decide +kernel
theorem dX7_lies_17 : decode cX7_lies 17 = .ok (.iload_n 1, 1) := by decide +kernel
theorem dX7_lies_18 : decode cX7_lies 18 = .ok (.imul, 1) := by decide +kernel
theorem dX7_lies_19 : decode cX7_lies 19 = .ok (.iload_n 2, 1) := by decide +kernel
theorem dX7_lies_20 : decode cX7_lies 20 = .ok (.iadd, 1) := by decide +kernel
theorem dX7_lies_21 : decode cX7_lies 21 = .ok (.lload 5, 2) := by decide +kernel
theorem dX7_lies_23 : decode cX7_lies 23 = .ok (.lload_n 3, 1) := by decide +kernel
theorem dX7_lies_24 : decode cX7_lies 24 = .ok (.lor, 1) := by decide +kernel
theorem dX7_lies_25 : decode cX7_lies 25 = .ok (.lastore, 1) := by decide +kernel
theorem dX7_lies_26 : decode cX7_lies 26 = .ok (.aload_n 0, 1) := by decide +kernel
theorem dX7_lies_27 : decode cX7_lies 27 = .ok (.aload_n 0, 1) := by decide +kernel
theorem dX7_lies_28 : decode cX7_lies 28 = .ok (.getfield 164, 3) := by decide +kernel
theorem dX7_lies_31 : decode cX7_lies 31 = .ok (.ifCond .ne 19, 3) := by decide +kernel
theorem dX7_lies_34 : decode cX7_lies 34 = .ok (.aload_n 0, 1) := by decide +kernel
theorem dX7_lies_35 : decode cX7_lies 35 = .ok (.getfield 69, 3) := by decide +kernel
theorem dX7_lies_38 : decode cX7_lies 38 = .ok (.iconst 5, 1) := by decide +kernel
theorem dX7_lies_39 : decode cX7_lies 39 = .ok (.iload_n 1, 1) := by decide +kernel
theorem dX7_lies_40 : decode cX7_lies 40 = .ok (.imul, 1) := by decide +kernel
theorem dX7_lies_41 : decode cX7_lies 41 = .ok (.iload_n 2, 1) := by decide +kernel
theorem dX7_lies_42 : decode cX7_lies 42 = .ok (.iadd, 1) := by decide +kernel
theorem dX7_lies_43 : decode cX7_lies 43 = .ok (.laload, 1) := by decide +kernel
theorem dX7_lies_44 : decode cX7_lies 44 = .ok (.lload 5, 2) := by decide +kernel
theorem dX7_lies_46 : decode cX7_lies 46 = .ok (.lcmp, 1) := by decide +kernel
theorem dX7_lies_47 : decode cX7_lies 47 = .ok (.ifCond .eq 7, 3) := by decide +kernel
theorem dX7_lies_50 : decode cX7_lies 50 = .ok (.iconst 1, 1) := by decide +kernel
theorem dX7_lies_51 : decode cX7_lies 51 = .ok (.goto 4, 3) := by decide +kernel
theorem dX7_lies_54 : decode cX7_lies 54 = .ok (.iconst 0, 1) := by decide +kernel
theorem dX7_lies_55 : decode cX7_lies 55 = .ok (.putfield 164, 3) := by decide +kernel
theorem dX7_lies_58 : decode cX7_lies 58 = .ok (.return_, 1) := by decide +kernel
theorem dX7_below_0 : decode cX7_below 0 = .ok (.lconst 0, 1) := by decide +kernel
theorem dX7_below_1 : decode cX7_below 1 = .ok (.lstore 4, 2) := by decide +kernel
theorem dX7_below_3 : decode cX7_below 3 = .ok (.iconst 0, 1) := by decide +kernel
theorem dX7_below_4 : decode cX7_below 4 = .ok (.istore 6, 2) := by decide +kernel
theorem dX7_below_6 : decode cX7_below 6 = .ok (.iload 6, 2) := by decide +kernel
theorem dX7_below_8 : decode cX7_below 8 = .ok (.aload_n 0, 1) := by decide +kernel
theorem dX7_below_9 : decode cX7_below 9 = .ok (.getfield 167, 3) := by decide +kernel
theorem dX7_below_12 : decode cX7_below 12 = .ok (.if_icmp .ge 43, 3) := by decide +kernel
theorem dX7_below_15 : decode cX7_below 15 = .ok (.lload_n 1, 1) := by decide +kernel
theorem dX7_below_16 : decode cX7_below 16 = .ok (.iload 6, 2) := by decide +kernel
theorem dX7_below_18 : decode cX7_below 18 = .ok (.lshr, 1) := by decide +kernel
theorem dX7_below_19 : decode cX7_below 19 = .ok (.lconst 1, 1) := by decide +kernel
theorem dX7_below_20 : decode cX7_below 20 = .ok (.land, 1) := by decide +kernel
theorem dX7_below_21 : decode cX7_below 21 = .ok (.lconst 1, 1) := by decide +kernel
theorem dX7_below_22 : decode cX7_below 22 = .ok (.lcmp, 1) := by decide +kernel
theorem dX7_below_23 : decode cX7_below 23 = .ok (.ifCond .ne 26, 3) := by decide +kernel
theorem dX7_below_26 : decode cX7_below 26 = .ok (.aload_n 0, 1) := by decide +kernel
theorem dX7_below_27 : decode cX7_below 27 = .ok (.aload_n 0, 1) := by decide +kernel
theorem dX7_below_28 : decode cX7_below 28 = .ok (.iload 6, 2) := by decide +kernel
theorem dX7_below_30 : decode cX7_below 30 = .ok (.invokevirtual 174, 3) := by decide +kernel
theorem dX7_below_33 : decode cX7_below 33 = .ok (.iload_n 3, 1) := by decide +kernel
theorem dX7_below_34 : decode cX7_below 34 = .ok (.invokevirtual 177, 3) := by decide +kernel
theorem dX7_below_37 : decode cX7_below 37 = .ok (.ifCond .eq 12, 3) := by decide +kernel
theorem dX7_below_40 : decode cX7_below 40 = .ok (.lload 4, 2) := by decide +kernel
