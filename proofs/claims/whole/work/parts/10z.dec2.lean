theorem dX8_roomIn_33 : decode cX8_roomIn 33 = .ok (.getfield 44, 3) := by decide +kernel
theorem dX8_roomIn_36 : decode cX8_roomIn 36 = .ok (.aload_n 0, 1) := by decide +kernel
theorem dX8_roomIn_37 : decode cX8_roomIn 37 = .ok (.getfield 19, 3) := by decide +kernel
theorem dX8_roomIn_40 : decode cX8_roomIn 40 = .ok (.invokevirtual 330, 3) := by decide +kernel
theorem dX8_roomIn_43 : decode cX8_roomIn 43 = .ok (.istore_n 2, 1) := by decide +kernel
theorem dX8_roomIn_44 : decode cX8_roomIn 44 = .ok (.iinc 3 1, 3) := by decide +kernel
theorem dX8_roomIn_47 : decode cX8_roomIn 47 = .ok (.goto (-20), 3) := by decide +kernel
theorem dX8_roomIn_50 : decode cX8_roomIn 50 = .ok (.iload_n 2, 1) := by decide +kernel
theorem dX8_roomIn_51 : decode cX8_roomIn 51 = .ok (.ireturn, 1) := by decide +kernel
theorem dX8_humidityIn_0 : decode cX8_humidityIn 0 = .ok (.aload_n 0, 1) := by decide +kernel
theorem dX8_humidityIn_1 : decode cX8_humidityIn 1 = .ok (.iload_n 1, 1) := by decide +kernel
theorem dX8_humidityIn_2 : decode cX8_humidityIn 2 = .ok (.invokevirtual 156, 3) := by decide +kernel
theorem dX8_humidityIn_5 : decode cX8_humidityIn 5 = .ok (.astore_n 3, 1) := by decide +kernel
theorem dX8_humidityIn_6 : decode cX8_humidityIn 6 = .ok (.aload_n 0, 1) := by decide +kernel
theorem dX8_humidityIn_7 : decode cX8_humidityIn 7 = .ok (.iload_n 2, 1) := by decide +kernel
theorem dX8_humidityIn_8 : decode cX8_humidityIn 8 = .ok (.iconst 0, 1) := by decide +kernel
theorem dX8_humidityIn_9 : decode cX8_humidityIn 9 = .ok (.sipush 2000, 3) := by decide +kernel
theorem dX8_humidityIn_12 : decode cX8_humidityIn 12 = .ok (.invokevirtual 317, 3) := by decide +kernel
theorem dX8_humidityIn_15 : decode cX8_humidityIn 15 = .ok (.aload_n 0, 1) := by decide +kernel
theorem dX8_humidityIn_16 : decode cX8_humidityIn 16 = .ok (.getfield 44, 3) := by decide +kernel
theorem dX8_humidityIn_19 : decode cX8_humidityIn 19 = .ok (.aload_n 0, 1) := by decide +kernel
theorem dX8_humidityIn_20 : decode cX8_humidityIn 20 = .ok (.getfield 29, 3) := by decide +kernel
theorem dX8_humidityIn_23 : decode cX8_humidityIn 23 = .ok (.getfield 95, 3) := by decide +kernel
theorem dX8_humidityIn_26 : decode cX8_humidityIn 26 = .ok (.invokevirtual 326, 3) := by decide +kernel
theorem dX8_humidityIn_29 : decode cX8_humidityIn 29 = .ok (.aload_n 0, 1) := by decide +kernel
theorem dX8_humidityIn_30 : decode cX8_humidityIn 30 = .ok (.getfield 51, 3) := by decide +kernel
theorem dX8_humidityIn_33 : decode cX8_humidityIn 33 = .ok (.aload_n 3, 1) := by decide +kernel
theorem dX8_humidityIn_34 : decode cX8_humidityIn 34 = .ok (.invokevirtual 331, 3) := by decide +kernel
theorem dX8_humidityIn_37 : decode cX8_humidityIn 37 = .ok (.iconst 0, 1) := by decide +kernel
theorem dX8_humidityIn_38 : decode cX8_humidityIn 38 = .ok (.istore 4, 2) := by decide +kernel
theorem dX8_humidityIn_40 : decode cX8_humidityIn 40 = .ok (.iload 4, 2) := by decide +kernel
theorem dX8_humidityIn_42 : decode cX8_humidityIn 42 = .ok (.iload_n 2, 1) := by decide +kernel
theorem dX8_humidityIn_43 : decode cX8_humidityIn 43 = .ok (.if_icmp .ge 28, 3) := by decide +kernel
theorem dX8_humidityIn_46 : decode cX8_humidityIn 46 = .ok (.aload_n 0, 1) := by decide +kernel
theorem dX8_humidityIn_47 : decode cX8_humidityIn 47 = .ok (.getfield 51, 3) := by decide +kernel
theorem dX8_humidityIn_50 : decode cX8_humidityIn 50 = .ok (.aload_n 0, 1) := by decide +kernel
theorem dX8_humidityIn_51 : decode cX8_humidityIn 51 = .ok (.getfield 44, 3) := by decide +kernel
theorem dX8_humidityIn_54 : decode cX8_humidityIn 54 = .ok (.aload_n 0, 1) := by decide +kernel
theorem dX8_humidityIn_55 : decode cX8_humidityIn 55 = .ok (.getfield 19, 3) := by decide +kernel
theorem dX8_humidityIn_58 : decode cX8_humidityIn 58 = .ok (.invokevirtual 330, 3) := by decide +kernel
theorem dX8_humidityIn_61 : decode cX8_humidityIn 61 = .ok (.invokevirtual 334, 3) := by decide +kernel
theorem dX8_humidityIn_64 : decode cX8_humidityIn 64 = .ok (.pop, 1) := by decide +kernel
theorem dX8_humidityIn_65 : decode cX8_humidityIn 65 = .ok (.iinc 4 1, 3) := by decide +kernel
theorem dX8_humidityIn_68 : decode cX8_humidityIn 68 = .ok (.goto (-28), 3) := by decide +kernel
theorem dX8_humidityIn_71 : decode cX8_humidityIn 71 = .ok (.aload_n 0, 1) := by decide +kernel
theorem dX8_humidityIn_72 : decode cX8_humidityIn 72 = .ok (.getfield 51, 3) := by decide +kernel
theorem dX8_humidityIn_75 : decode cX8_humidityIn 75 = .ok (.invokevirtual 173, 3) := by decide +kernel
theorem dX8_humidityIn_78 : decode cX8_humidityIn 78 = .ok (.ireturn, 1) := by decide +kernel
theorem dX8_unsafeIn_0 : decode cX8_unsafeIn 0 = .ok (.aload_n 0, 1) := by decide +kernel
theorem dX8_unsafeIn_1 : decode cX8_unsafeIn 1 = .ok (.getfield 51, 3) := by decide +kernel
theorem dX8_unsafeIn_4 : decode cX8_unsafeIn 4 = .ok (.aload_n 0, 1) := by decide +kernel
theorem dX8_unsafeIn_5 : decode cX8_unsafeIn 5 = .ok (.iload_n 1, 1) := by decide +kernel
theorem dX8_unsafeIn_6 : decode cX8_unsafeIn 6 = .ok (.invokevirtual 156, 3) := by decide +kernel
theorem dX8_unsafeIn_9 : decode cX8_unsafeIn 9 = .ok (.invokevirtual 331, 3) := by decide +kernel
theorem dX8_unsafeIn_12 : decode cX8_unsafeIn 12 = .ok (.aload_n 0, 1) := by decide +kernel
theorem dX8_unsafeIn_13 : decode cX8_unsafeIn 13 = .ok (.getfield 44, 3) := by decide +kernel
theorem dX8_unsafeIn_16 : decode cX8_unsafeIn 16 = .ok (.aload_n 0, 1) := by decide +kernel
theorem dX8_unsafeIn_17 : decode cX8_unsafeIn 17 = .ok (.getfield 29, 3) := by decide +kernel
theorem dX8_unsafeIn_20 : decode cX8_unsafeIn 20 = .ok (.getfield 95, 3) := by decide +kernel
theorem dX8_unsafeIn_23 : decode cX8_unsafeIn 23 = .ok (.invokevirtual 326, 3) := by decide +kernel
theorem dX8_unsafeIn_26 : decode cX8_unsafeIn 26 = .ok (.iconst 1, 1) := by decide +kernel
theorem dX8_unsafeIn_27 : decode cX8_unsafeIn 27 = .ok (.istore_n 2, 1) := by decide +kernel
theorem dX8_unsafeIn_28 : decode cX8_unsafeIn 28 = .ok (.iload_n 2, 1) := by decide +kernel
theorem dX8_unsafeIn_29 : decode cX8_unsafeIn 29 = .ok (.sipush 2000, 3) := by decide +kernel
theorem dX8_unsafeIn_32 : decode cX8_unsafeIn 32 = .ok (.if_icmp .gt 40, 3) := by decide +kernel
theorem dX8_unsafeIn_35 : decode cX8_unsafeIn 35 = .ok (.aload_n 0, 1) := by decide +kernel
theorem dX8_unsafeIn_36 : decode cX8_unsafeIn 36 = .ok (.getfield 51, 3) := by decide +kernel
theorem dX8_unsafeIn_39 : decode cX8_unsafeIn 39 = .ok (.aload_n 0, 1) := by decide +kernel
theorem dX8_unsafeIn_40 : decode cX8_unsafeIn 40 = .ok (.getfield 44, 3) := by decide +kernel
theorem dX8_unsafeIn_43 : decode cX8_unsafeIn 43 = .ok (.aload_n 0, 1) := by decide +kernel
theorem dX8_unsafeIn_44 : decode cX8_unsafeIn 44 = .ok (.getfield 19, 3) := by decide +kernel
theorem dX8_unsafeIn_47 : decode cX8_unsafeIn 47 = .ok (.invokevirtual 330, 3) := by decide +kernel
theorem dX8_unsafeIn_50 : decode cX8_unsafeIn 50 = .ok (.invokevirtual 334, 3) := by decide +kernel
theorem dX8_unsafeIn_53 : decode cX8_unsafeIn 53 = .ok (.pop, 1) := by decide +kernel
theorem dX8_unsafeIn_54 : decode cX8_unsafeIn 54 = .ok (.aload_n 0, 1) := by decide +kernel
theorem dX8_unsafeIn_55 : decode cX8_unsafeIn 55 = .ok (.getfield 51, 3) := by decide +kernel
theorem dX8_unsafeIn_58 : decode cX8_unsafeIn 58 = .ok (.invokevirtual 336, 3) := by decide +kernel
theorem dX8_unsafeIn_61 : decode cX8_unsafeIn 61 = .ok (.ifCond .eq 5, 3) := by decide +kernel
theorem dX8_unsafeIn_64 : decode cX8_unsafeIn 64 = .ok (.iload_n 2, 1) := by decide +kernel
theorem dX8_unsafeIn_65 : decode cX8_unsafeIn 65 = .ok (.ireturn, 1) := by decide +kernel
theorem dX8_unsafeIn_66 : decode cX8_unsafeIn 66 = .ok (.iinc 2 1, 3) := by decide +kernel
theorem dX8_unsafeIn_69 : decode cX8_unsafeIn 69 = .ok (.goto (-41), 3) := by decide +kernel
theorem dX8_unsafeIn_72 : decode cX8_unsafeIn 72 = .ok (.iconst (-1), 1) := by decide +kernel
theorem dX8_unsafeIn_73 : decode cX8_unsafeIn 73 = .ok (.ireturn, 1) := by decide +kernel
theorem dX8_restOf_0 : decode cX8_restOf 0 = .ok (.aload_n 0, 1) := by decide +kernel
theorem dX8_restOf_1 : decode cX8_restOf 1 = .ok (.iload_n 1, 1) := by decide +kernel
theorem dX8_restOf_2 : decode cX8_restOf 2 = .ok (.invokevirtual 156, 3) := by decide +kernel
theorem dX8_restOf_5 : decode cX8_restOf 5 = .ok (.invokevirtual 339, 3) := by decide +kernel
theorem dX8_restOf_8 : decode cX8_restOf 8 = .ok (.istore_n 2, 1) := by decide +kernel
theorem dX8_restOf_9 : decode cX8_restOf 9 = .ok (.iload_n 2, 1) := by decide +kernel
theorem dX8_restOf_10 : decode cX8_restOf 10 = .ok (.iconst (-1), 1) := by decide +kernel
theorem dX8_restOf_11 : decode cX8_restOf 11 = .ok (.if_icmp .ne 14, 3) := by decide +kernel
theorem dX8_restOf_14 : decode cX8_restOf 14 = .ok (.new 220, 3) := by decide +kernel
theorem dX8_restOf_17 : decode cX8_restOf 17 = .ok (.dup, 1) := by decide +kernel
theorem dX8_restOf_18 : decode cX8_restOf 18 = .ok (.ldc_w 342, 3) := by decide +kernel
theorem dX8_restOf_21 : decode cX8_restOf 21 = .ok (.invokespecial 224, 3) := by decide +kernel
theorem dX8_restOf_24 : decode cX8_restOf 24 = .ok (.athrow, 1) := by decide +kernel
theorem dX8_restOf_25 : decode cX8_restOf 25 = .ok (.iload_n 2, 1) := by decide +kernel
theorem dX8_restOf_26 : decode cX8_restOf 26 = .ok (.ireturn, 1) := by decide +kernel
theorem dX8_massFor_0 : decode cX8_massFor 0 = .ok (.aload_n 0, 1) := by decide +kernel
theorem dX8_massFor_1 : decode cX8_massFor 1 = .ok (.iload_n 1, 1) := by decide +kernel
theorem dX8_massFor_2 : decode cX8_massFor 2 = .ok (.invokevirtual 156, 3) := by decide +kernel
theorem dX8_massFor_5 : decode cX8_massFor 5 = .ok (.astore 5, 2) := by decide +kernel
theorem dX8_massFor_7 : decode cX8_massFor 7 = .ok (.aload_n 0, 1) := by decide +kernel
theorem dX8_massFor_8 : decode cX8_massFor 8 = .ok (.iload_n 2, 1) := by decide +kernel
theorem dX8_massFor_9 : decode cX8_massFor 9 = .ok (.invokevirtual 143, 3) := by decide +kernel
theorem dX8_massFor_12 : decode cX8_massFor 12 = .ok (.astore 6, 2) := by decide +kernel
theorem dX8_massFor_14 : decode cX8_massFor 14 = .ok (.aload_n 0, 1) := by decide +kernel
theorem dX8_massFor_15 : decode cX8_massFor 15 = .ok (.iload_n 3, 1) := by decide +kernel
theorem dX8_massFor_16 : decode cX8_massFor 16 = .ok (.invokevirtual 241, 3) := by decide +kernel
theorem dX8_massFor_19 : decode cX8_massFor 19 = .ok (.aload_n 0, 1) := by decide +kernel
theorem dX8_massFor_20 : decode cX8_massFor 20 = .ok (.iload 4, 2) := by decide +kernel
theorem dX8_massFor_22 : decode cX8_massFor 22 = .ok (.iconst 1, 1) := by decide +kernel
theorem dX8_massFor_23 : decode cX8_massFor 23 = .ok (.bipush 72, 2) := by decide +kernel
theorem dX8_massFor_25 : decode cX8_massFor 25 = .ok (.invokevirtual 317, 3) := by decide +kernel
theorem dX8_massFor_28 : decode cX8_massFor 28 = .ok (.aload_n 0, 1) := by decide +kernel
theorem dX8_massFor_29 : decode cX8_massFor 29 = .ok (.iload 4, 2) := by decide +kernel
theorem dX8_massFor_31 : decode cX8_massFor 31 = .ok (.invokevirtual 344, 3) := by decide +kernel
theorem dX8_massFor_34 : decode cX8_massFor 34 = .ok (.iconst 1, 1) := by decide +kernel
theorem dX8_massFor_35 : decode cX8_massFor 35 = .ok (.istore 7, 2) := by decide +kernel
theorem dX8_massFor_37 : decode cX8_massFor 37 = .ok (.iload 7, 2) := by decide +kernel
theorem dX8_massFor_39 : decode cX8_massFor 39 = .ok (.sipush 999, 3) := by decide +kernel
theorem dX8_massFor_42 : decode cX8_massFor 42 = .ok (.if_icmp .gt 57, 3) := by decide +kernel
theorem dX8_massFor_45 : decode cX8_massFor 45 = .ok (.aload_n 0, 1) := by decide +kernel
theorem dX8_massFor_46 : decode cX8_massFor 46 = .ok (.getfield 51, 3) := by decide +kernel
theorem dX8_massFor_49 : decode cX8_massFor 49 = .ok (.aload 5, 2) := by decide +kernel
theorem dX8_massFor_51 : decode cX8_massFor 51 = .ok (.invokevirtual 331, 3) := by decide +kernel
theorem dX8_massFor_54 : decode cX8_massFor 54 = .ok (.aload_n 0, 1) := by decide +kernel
theorem dX8_massFor_55 : decode cX8_massFor 55 = .ok (.getfield 51, 3) := by decide +kernel
theorem dX8_massFor_58 : decode cX8_massFor 58 = .ok (.aload_n 0, 1) := by decide +kernel
theorem dX8_massFor_59 : decode cX8_massFor 59 = .ok (.getfield 29, 3) := by decide +kernel
theorem dX8_massFor_62 : decode cX8_massFor 62 = .ok (.getfield 114, 3) := by decide +kernel
theorem dX8_massFor_65 : decode cX8_massFor 65 = .ok (.aload 6, 2) := by decide +kernel
theorem dX8_massFor_67 : decode cX8_massFor 67 = .ok (.iload 7, 2) := by decide +kernel
theorem dX8_massFor_69 : decode cX8_massFor 69 = .ok (.aload 6, 2) := by decide +kernel
theorem dX8_massFor_71 : decode cX8_massFor 71 = .ok (.iload_n 3, 1) := by decide +kernel
theorem dX8_massFor_72 : decode cX8_massFor 72 = .ok (.iload 7, 2) := by decide +kernel
theorem dX8_massFor_74 : decode cX8_massFor 74 = .ok (.invokevirtual 284, 3) := by decide +kernel
theorem dX8_massFor_77 : decode cX8_massFor 77 = .ok (.invokevirtual 288, 3) := by decide +kernel
theorem dX8_massFor_80 : decode cX8_massFor 80 = .ok (.aload_n 0, 1) := by decide +kernel
theorem dX8_massFor_81 : decode cX8_massFor 81 = .ok (.iload 4, 2) := by decide +kernel
theorem dX8_massFor_83 : decode cX8_massFor 83 = .ok (.iconst 1, 1) := by decide +kernel
theorem dX8_massFor_84 : decode cX8_massFor 84 = .ok (.invokevirtual 347, 3) := by decide +kernel
theorem dX8_massFor_87 : decode cX8_massFor 87 = .ok (.ifCond .ne 6, 3) := by decide +kernel
theorem dX8_massFor_90 : decode cX8_massFor 90 = .ok (.iload 7, 2) := by decide +kernel
theorem dX8_massFor_92 : decode cX8_massFor 92 = .ok (.ireturn, 1) := by decide +kernel
theorem dX8_massFor_93 : decode cX8_massFor 93 = .ok (.iinc 7 1, 3) := by decide +kernel
theorem dX8_massFor_96 : decode cX8_massFor 96 = .ok (.goto (-59), 3) := by decide +kernel
theorem dX8_massFor_99 : decode cX8_massFor 99 = .ok (.new 220, 3) := by decide +kernel
theorem dX8_massFor_102 : decode cX8_massFor 102 = .ok (.dup, 1) := by decide +kernel
theorem dX8_massFor_103 : decode cX8_massFor 103 = .ok (.ldc_w 350, 3) := by decide +kernel
theorem dX8_massFor_106 : decode cX8_massFor 106 = .ok (.invokespecial 224, 3) := by decide +kernel
theorem dX8_massFor_109 : decode cX8_massFor 109 = .ok (.athrow, 1) := by decide +kernel
theorem dX8_bestFor_0 : decode cX8_bestFor 0 = .ok (.aload_n 0, 1) := by decide +kernel
theorem dX8_bestFor_1 : decode cX8_bestFor 1 = .ok (.aload_n 0, 1) := by decide +kernel
theorem dX8_bestFor_2 : decode cX8_bestFor 2 = .ok (.iload_n 1, 1) := by decide +kernel
theorem dX8_bestFor_3 : decode cX8_bestFor 3 = .ok (.invokevirtual 295, 3) := by decide +kernel
theorem dX8_bestFor_6 : decode cX8_bestFor 6 = .ok (.invokevirtual 156, 3) := by decide +kernel
theorem dX8_bestFor_9 : decode cX8_bestFor 9 = .ok (.astore_n 3, 1) := by decide +kernel
theorem dX8_bestFor_10 : decode cX8_bestFor 10 = .ok (.aload_n 0, 1) := by decide +kernel
theorem dX8_bestFor_11 : decode cX8_bestFor 11 = .ok (.iload_n 2, 1) := by decide +kernel
theorem dX8_bestFor_12 : decode cX8_bestFor 12 = .ok (.iconst 1, 1) := by decide +kernel
theorem dX8_bestFor_13 : decode cX8_bestFor 13 = .ok (.bipush 72, 2) := by decide +kernel
theorem dX8_bestFor_15 : decode cX8_bestFor 15 = .ok (.invokevirtual 317, 3) := by decide +kernel
theorem dX8_bestFor_18 : decode cX8_bestFor 18 = .ok (.aload_n 0, 1) := by decide +kernel
theorem dX8_bestFor_19 : decode cX8_bestFor 19 = .ok (.iload_n 2, 1) := by decide +kernel
theorem dX8_bestFor_20 : decode cX8_bestFor 20 = .ok (.invokevirtual 344, 3) := by decide +kernel
theorem dX8_bestFor_23 : decode cX8_bestFor 23 = .ok (.aload_n 3, 1) := by decide +kernel
theorem dX8_bestFor_24 : decode cX8_bestFor 24 = .ok (.iload_n 1, 1) := by decide +kernel
theorem dX8_bestFor_25 : decode cX8_bestFor 25 = .ok (.invokevirtual 298, 3) := by decide +kernel
theorem dX8_bestFor_28 : decode cX8_bestFor 28 = .ok (.istore 4, 2) := by decide +kernel
theorem dX8_bestFor_30 : decode cX8_bestFor 30 = .ok (.iconst 0, 1) := by decide +kernel
theorem dX8_bestFor_31 : decode cX8_bestFor 31 = .ok (.istore 5, 2) := by decide +kernel
theorem dX8_bestFor_33 : decode cX8_bestFor 33 = .ok (.iload_n 2, 1) := by decide +kernel
theorem dX8_bestFor_34 : decode cX8_bestFor 34 = .ok (.iconst 1, 1) := by decide +kernel
theorem dX8_bestFor_35 : decode cX8_bestFor 35 = .ok (.iadd, 1) := by decide +kernel
theorem dX8_bestFor_36 : decode cX8_bestFor 36 = .ok (.istore 6, 2) := by decide +kernel
theorem dX8_bestFor_38 : decode cX8_bestFor 38 = .ok (.iconst 0, 1) := by decide +kernel
theorem dX8_bestFor_39 : decode cX8_bestFor 39 = .ok (.istore 7, 2) := by decide +kernel
theorem dX8_bestFor_41 : decode cX8_bestFor 41 = .ok (.iload 7, 2) := by decide +kernel
theorem dX8_bestFor_43 : decode cX8_bestFor 43 = .ok (.sipush 1000, 3) := by decide +kernel
theorem dX8_bestFor_46 : decode cX8_bestFor 46 = .ok (.if_icmp .gt 59, 3) := by decide +kernel
theorem dX8_bestFor_49 : decode cX8_bestFor 49 = .ok (.aload_n 0, 1) := by decide +kernel
theorem dX8_bestFor_50 : decode cX8_bestFor 50 = .ok (.getfield 51, 3) := by decide +kernel
theorem dX8_bestFor_53 : decode cX8_bestFor 53 = .ok (.aload_n 3, 1) := by decide +kernel
theorem dX8_bestFor_54 : decode cX8_bestFor 54 = .ok (.invokevirtual 331, 3) := by decide +kernel
theorem dX8_bestFor_57 : decode cX8_bestFor 57 = .ok (.aload_n 0, 1) := by decide +kernel
theorem dX8_bestFor_58 : decode cX8_bestFor 58 = .ok (.getfield 51, 3) := by decide +kernel
theorem dX8_bestFor_61 : decode cX8_bestFor 61 = .ok (.iload 4, 2) := by decide +kernel
theorem dX8_bestFor_63 : decode cX8_bestFor 63 = .ok (.aload_n 0, 1) := by decide +kernel
theorem dX8_bestFor_64 : decode cX8_bestFor 64 = .ok (.getfield 29, 3) := by decide +kernel
theorem dX8_bestFor_67 : decode cX8_bestFor 67 = .ok (.getfield 114, 3) := by decide +kernel
theorem dX8_bestFor_70 : decode cX8_bestFor 70 = .ok (.iload 7, 2) := by decide +kernel
theorem dX8_bestFor_72 : decode cX8_bestFor 72 = .ok (.invokevirtual 313, 3) := by decide +kernel
theorem dX8_bestFor_75 : decode cX8_bestFor 75 = .ok (.aload_n 0, 1) := by decide +kernel
theorem dX8_bestFor_76 : decode cX8_bestFor 76 = .ok (.iload_n 2, 1) := by decide +kernel
theorem dX8_bestFor_77 : decode cX8_bestFor 77 = .ok (.iload 6, 2) := by decide +kernel
theorem dX8_bestFor_79 : decode cX8_bestFor 79 = .ok (.invokevirtual 347, 3) := by decide +kernel
theorem dX8_bestFor_82 : decode cX8_bestFor 82 = .ok (.istore 8, 2) := by decide +kernel
theorem dX8_bestFor_84 : decode cX8_bestFor 84 = .ok (.iload 8, 2) := by decide +kernel
theorem dX8_bestFor_86 : decode cX8_bestFor 86 = .ok (.iload 6, 2) := by decide +kernel
theorem dX8_bestFor_88 : decode cX8_bestFor 88 = .ok (.if_icmp .ge 11, 3) := by decide +kernel
theorem dX8_bestFor_91 : decode cX8_bestFor 91 = .ok (.iload 8, 2) := by decide +kernel
theorem dX8_bestFor_93 : decode cX8_bestFor 93 = .ok (.istore 6, 2) := by decide +kernel
theorem dX8_bestFor_95 : decode cX8_bestFor 95 = .ok (.iload 7, 2) := by decide +kernel
theorem dX8_bestFor_97 : decode cX8_bestFor 97 = .ok (.istore 5, 2) := by decide +kernel
theorem dX8_bestFor_99 : decode cX8_bestFor 99 = .ok (.iinc 7 50, 3) := by decide +kernel
theorem dX8_bestFor_102 : decode cX8_bestFor 102 = .ok (.goto (-61), 3) := by decide +kernel
theorem dX8_bestFor_105 : decode cX8_bestFor 105 = .ok (.iload 5, 2) := by decide +kernel
theorem dX8_bestFor_107 : decode cX8_bestFor 107 = .ok (.ireturn, 1) := by decide +kernel
theorem dX8_foreseeRooms_0 : decode cX8_foreseeRooms 0 = .ok (.aload_n 0, 1) := by decide +kernel
theorem dX8_foreseeRooms_1 : decode cX8_foreseeRooms 1 = .ok (.getfield 44, 3) := by decide +kernel
theorem dX8_foreseeRooms_4 : decode cX8_foreseeRooms 4 = .ok (.aload_n 0, 1) := by decide +kernel
theorem dX8_foreseeRooms_5 : decode cX8_foreseeRooms 5 = .ok (.getfield 29, 3) := by decide +kernel
theorem dX8_foreseeRooms_8 : decode cX8_foreseeRooms 8 = .ok (.getfield 95, 3) := by decide +kernel
theorem dX8_foreseeRooms_11 : decode cX8_foreseeRooms 11 = .ok (.invokevirtual 326, 3) := by decide +kernel
theorem dX8_foreseeRooms_14 : decode cX8_foreseeRooms 14 = .ok (.iconst 0, 1) := by decide +kernel
theorem dX8_foreseeRooms_15 : decode cX8_foreseeRooms 15 = .ok (.istore_n 2, 1) := by decide +kernel
theorem dX8_foreseeRooms_16 : decode cX8_foreseeRooms 16 = .ok (.iload_n 2, 1) := by decide +kernel
theorem dX8_foreseeRooms_17 : decode cX8_foreseeRooms 17 = .ok (.iload_n 1, 1) := by decide +kernel
theorem dX8_foreseeRooms_18 : decode cX8_foreseeRooms 18 = .ok (.if_icmp .ge 35, 3) := by decide +kernel
theorem dX8_foreseeRooms_21 : decode cX8_foreseeRooms 21 = .ok (.iload_n 2, 1) := by decide +kernel
theorem dX8_foreseeRooms_22 : decode cX8_foreseeRooms 22 = .ok (.aload_n 0, 1) := by decide +kernel
theorem dX8_foreseeRooms_23 : decode cX8_foreseeRooms 23 = .ok (.getfield 55, 3) := by decide +kernel
theorem dX8_foreseeRooms_26 : decode cX8_foreseeRooms 26 = .ok (.arraylength, 1) := by decide +kernel
theorem dX8_foreseeRooms_27 : decode cX8_foreseeRooms 27 = .ok (.if_icmp .ge 26, 3) := by decide +kernel
theorem dX8_foreseeRooms_30 : decode cX8_foreseeRooms 30 = .ok (.aload_n 0, 1) := by decide +kernel
theorem dX8_foreseeRooms_31 : decode cX8_foreseeRooms 31 = .ok (.getfield 55, 3) := by decide +kernel
theorem dX8_foreseeRooms_34 : decode cX8_foreseeRooms 34 = .ok (.iload_n 2, 1) := by decide +kernel
theorem dX8_foreseeRooms_35 : decode cX8_foreseeRooms 35 = .ok (.aload_n 0, 1) := by decide +kernel
theorem dX8_foreseeRooms_36 : decode cX8_foreseeRooms 36 = .ok (.getfield 44, 3) := by decide +kernel
theorem dX8_foreseeRooms_39 : decode cX8_foreseeRooms 39 = .ok (.aload_n 0, 1) := by decide +kernel
theorem dX8_foreseeRooms_40 : decode cX8_foreseeRooms 40 = .ok (.getfield 19, 3) := by decide +kernel
theorem dX8_foreseeRooms_43 : decode cX8_foreseeRooms 43 = .ok (.invokevirtual 330, 3) := by decide +kernel
theorem dX8_foreseeRooms_46 : decode cX8_foreseeRooms 46 = .ok (.iastore, 1) := by decide +kernel
theorem dX8_foreseeRooms_47 : decode cX8_foreseeRooms 47 = .ok (.iinc 2 1, 3) := by decide +kernel
theorem dX8_foreseeRooms_50 : decode cX8_foreseeRooms 50 = .ok (.goto (-34), 3) := by decide +kernel
theorem dX8_foreseeRooms_53 : decode cX8_foreseeRooms 53 = .ok (.return_, 1) := by decide +kernel
theorem dX8_unsafeHoursOfTrial_0 : decode cX8_unsafeHoursOfTrial 0 = .ok (.iconst 0, 1) := by decide +kernel
theorem dX8_unsafeHoursOfTrial_1 : decode cX8_unsafeHoursOfTrial 1 = .ok (.istore_n 3, 1) := by decide +kernel
theorem dX8_unsafeHoursOfTrial_2 : decode cX8_unsafeHoursOfTrial 2 = .ok (.iconst 0, 1) := by decide +kernel
theorem dX8_unsafeHoursOfTrial_3 : decode cX8_unsafeHoursOfTrial 3 = .ok (.istore 4, 2) := by decide +kernel
theorem dX8_unsafeHoursOfTrial_5 : decode cX8_unsafeHoursOfTrial 5 = .ok (.iload 4, 2) := by decide +kernel
theorem dX8_unsafeHoursOfTrial_7 : decode cX8_unsafeHoursOfTrial 7 = .ok (.iload_n 1, 1) := by decide +kernel
theorem dX8_unsafeHoursOfTrial_8 : decode cX8_unsafeHoursOfTrial 8 = .ok (.if_icmp .ge 52, 3) := by decide +kernel
theorem dX8_unsafeHoursOfTrial_11 : decode cX8_unsafeHoursOfTrial 11 = .ok (.iload 4, 2) := by decide +kernel
theorem dX8_unsafeHoursOfTrial_13 : decode cX8_unsafeHoursOfTrial 13 = .ok (.aload_n 0, 1) := by decide +kernel
theorem dX8_unsafeHoursOfTrial_14 : decode cX8_unsafeHoursOfTrial 14 = .ok (.getfield 55, 3) := by decide +kernel
theorem dX8_unsafeHoursOfTrial_17 : decode cX8_unsafeHoursOfTrial 17 = .ok (.arraylength, 1) := by decide +kernel
theorem dX8_unsafeHoursOfTrial_18 : decode cX8_unsafeHoursOfTrial 18 = .ok (.if_icmp .ge 42, 3) := by decide +kernel
theorem dX8_unsafeHoursOfTrial_21 : decode cX8_unsafeHoursOfTrial 21 = .ok (.iload_n 3, 1) := by decide +kernel
theorem dX8_unsafeHoursOfTrial_22 : decode cX8_unsafeHoursOfTrial 22 = .ok (.iload_n 2, 1) := by decide +kernel
theorem dX8_unsafeHoursOfTrial_23 : decode cX8_unsafeHoursOfTrial 23 = .ok (.if_icmp .ge 37, 3) := by decide +kernel
theorem dX8_unsafeHoursOfTrial_26 : decode cX8_unsafeHoursOfTrial 26 = .ok (.aload_n 0, 1) := by decide +kernel
theorem dX8_unsafeHoursOfTrial_27 : decode cX8_unsafeHoursOfTrial 27 = .ok (.getfield 51, 3) := by decide +kernel
theorem dX8_unsafeHoursOfTrial_30 : decode cX8_unsafeHoursOfTrial 30 = .ok (.aload_n 0, 1) := by decide +kernel
theorem dX8_unsafeHoursOfTrial_31 : decode cX8_unsafeHoursOfTrial 31 = .ok (.getfield 55, 3) := by decide +kernel
theorem dX8_unsafeHoursOfTrial_34 : decode cX8_unsafeHoursOfTrial 34 = .ok (.iload 4, 2) := by decide +kernel
theorem dX8_unsafeHoursOfTrial_36 : decode cX8_unsafeHoursOfTrial 36 = .ok (.iaload, 1) := by decide +kernel
theorem dX8_unsafeHoursOfTrial_37 : decode cX8_unsafeHoursOfTrial 37 = .ok (.invokevirtual 334, 3) := by decide +kernel
theorem dX8_unsafeHoursOfTrial_40 : decode cX8_unsafeHoursOfTrial 40 = .ok (.pop, 1) := by decide +kernel
theorem dX8_unsafeHoursOfTrial_41 : decode cX8_unsafeHoursOfTrial 41 = .ok (.aload_n 0, 1) := by decide +kernel
theorem dX8_unsafeHoursOfTrial_42 : decode cX8_unsafeHoursOfTrial 42 = .ok (.getfield 51, 3) := by decide +kernel
theorem dX8_unsafeHoursOfTrial_45 : decode cX8_unsafeHoursOfTrial 45 = .ok (.invokevirtual 336, 3) := by decide +kernel
theorem dX8_unsafeHoursOfTrial_48 : decode cX8_unsafeHoursOfTrial 48 = .ok (.ifCond .eq 6, 3) := by decide +kernel
theorem dX8_unsafeHoursOfTrial_51 : decode cX8_unsafeHoursOfTrial 51 = .ok (.iinc 3 1, 3) := by decide +kernel
theorem dX8_unsafeHoursOfTrial_54 : decode cX8_unsafeHoursOfTrial 54 = .ok (.iinc 4 1, 3) := by decide +kernel
theorem dX8_unsafeHoursOfTrial_57 : decode cX8_unsafeHoursOfTrial 57 = .ok (.goto (-52), 3) := by decide +kernel
theorem dX8_unsafeHoursOfTrial_60 : decode cX8_unsafeHoursOfTrial 60 = .ok (.iload_n 3, 1) := by decide +kernel
theorem dX8_unsafeHoursOfTrial_61 : decode cX8_unsafeHoursOfTrial 61 = .ok (.ireturn, 1) := by decide +kernel
theorem dX8_save_0 : decode cX8_save 0 = .ok (.aload_n 0, 1) := by decide +kernel
theorem dX8_save_1 : decode cX8_save 1 = .ok (.iload_n 1, 1) := by decide +kernel
theorem dX8_save_2 : decode cX8_save 2 = .ok (.invokevirtual 352, 3) := by decide +kernel
theorem dX8_save_5 : decode cX8_save 5 = .ok (.aload_n 0, 1) := by decide +kernel
theorem dX8_save_6 : decode cX8_save 6 = .ok (.getfield 33, 3) := by decide +kernel
theorem dX8_save_9 : decode cX8_save 9 = .ok (.iload_n 1, 1) := by decide +kernel
theorem dX8_save_10 : decode cX8_save 10 = .ok (.aaload, 1) := by decide +kernel
theorem dX8_save_11 : decode cX8_save 11 = .ok (.aload_n 0, 1) := by decide +kernel
theorem dX8_save_12 : decode cX8_save 12 = .ok (.getfield 29, 3) := by decide +kernel
theorem dX8_save_15 : decode cX8_save 15 = .ok (.invokevirtual 355, 3) := by decide +kernel
theorem dX8_save_18 : decode cX8_save 18 = .ok (.aload_n 0, 1) := by decide +kernel
theorem dX8_save_19 : decode cX8_save 19 = .ok (.getfield 37, 3) := by decide +kernel
theorem dX8_save_22 : decode cX8_save 22 = .ok (.iload_n 1, 1) := by decide +kernel
theorem dX8_save_23 : decode cX8_save 23 = .ok (.iconst 1, 1) := by decide +kernel
theorem dX8_save_24 : decode cX8_save 24 = .ok (.bastore, 1) := by decide +kernel
theorem dX8_save_25 : decode cX8_save 25 = .ok (.return_, 1) := by decide +kernel
theorem dX8_restore_0 : decode cX8_restore 0 = .ok (.aload_n 0, 1) := by decide +kernel
theorem dX8_restore_1 : decode cX8_restore 1 = .ok (.iload_n 1, 1) := by decide +kernel
theorem dX8_restore_2 : decode cX8_restore 2 = .ok (.invokevirtual 352, 3) := by decide +kernel
theorem dX8_restore_5 : decode cX8_restore 5 = .ok (.aload_n 0, 1) := by decide +kernel
theorem dX8_restore_6 : decode cX8_restore 6 = .ok (.getfield 37, 3) := by decide +kernel
theorem dX8_restore_9 : decode cX8_restore 9 = .ok (.iload_n 1, 1) := by decide +kernel
theorem dX8_restore_10 : decode cX8_restore 10 = .ok (.baload, 1) := by decide +kernel
theorem dX8_restore_11 : decode cX8_restore 11 = .ok (.ifCond .ne 14, 3) := by decide +kernel
theorem dX8_restore_14 : decode cX8_restore 14 = .ok (.new 220, 3) := by decide +kernel
theorem dX8_restore_17 : decode cX8_restore 17 = .ok (.dup, 1) := by decide +kernel
theorem dX8_restore_18 : decode cX8_restore 18 = .ok (.ldc_w 358, 3) := by decide +kernel
theorem dX8_restore_21 : decode cX8_restore 21 = .ok (.invokespecial 224, 3) := by decide +kernel
theorem dX8_restore_24 : decode cX8_restore 24 = .ok (.athrow, 1) := by decide +kernel
theorem dX8_restore_25 : decode cX8_restore 25 = .ok (.aload_n 0, 1) := by decide +kernel
theorem dX8_restore_26 : decode cX8_restore 26 = .ok (.getfield 29, 3) := by decide +kernel
theorem dX8_restore_29 : decode cX8_restore 29 = .ok (.aload_n 0, 1) := by decide +kernel
theorem dX8_restore_30 : decode cX8_restore 30 = .ok (.getfield 33, 3) := by decide +kernel
theorem dX8_restore_33 : decode cX8_restore 33 = .ok (.iload_n 1, 1) := by decide +kernel
theorem dX8_restore_34 : decode cX8_restore 34 = .ok (.aaload, 1) := by decide +kernel
theorem dX8_restore_35 : decode cX8_restore 35 = .ok (.invokevirtual 355, 3) := by decide +kernel
theorem dX8_restore_38 : decode cX8_restore 38 = .ok (.return_, 1) := by decide +kernel
theorem dX8_vitrineAt_0 : decode cX8_vitrineAt 0 = .ok (.iload_n 1, 1) := by decide +kernel
theorem dX8_vitrineAt_1 : decode cX8_vitrineAt 1 = .ok (.ifCond .lt 14, 3) := by decide +kernel
theorem dX8_vitrineAt_4 : decode cX8_vitrineAt 4 = .ok (.iload_n 1, 1) := by decide +kernel
theorem dX8_vitrineAt_5 : decode cX8_vitrineAt 5 = .ok (.aload_n 0, 1) := by decide +kernel
theorem dX8_vitrineAt_6 : decode cX8_vitrineAt 6 = .ok (.getfield 19, 3) := by decide +kernel
theorem dX8_vitrineAt_9 : decode cX8_vitrineAt 9 = .ok (.getfield 86, 3) := by decide +kernel
theorem dX8_vitrineAt_12 : decode cX8_vitrineAt 12 = .ok (.if_icmp .lt 14, 3) := by decide +kernel
theorem dX8_vitrineAt_15 : decode cX8_vitrineAt 15 = .ok (.new 74, 3) := by decide +kernel
theorem dX8_vitrineAt_18 : decode cX8_vitrineAt 18 = .ok (.dup, 1) := by decide +kernel
theorem dX8_vitrineAt_19 : decode cX8_vitrineAt 19 = .ok (.ldc_w 360, 3) := by decide +kernel
theorem dX8_vitrineAt_22 : decode cX8_vitrineAt 22 = .ok (.invokespecial 78, 3) := by decide +kernel
theorem dX8_vitrineAt_25 : decode cX8_vitrineAt 25 = .ok (.athrow, 1) := by decide +kernel
theorem dX8_vitrineAt_26 : decode cX8_vitrineAt 26 = .ok (.aload_n 0, 1) := by decide +kernel
theorem dX8_vitrineAt_27 : decode cX8_vitrineAt 27 = .ok (.getfield 29, 3) := by decide +kernel
theorem dX8_vitrineAt_30 : decode cX8_vitrineAt 30 = .ok (.getfield 362, 3) := by decide +kernel
theorem dX8_vitrineAt_33 : decode cX8_vitrineAt 33 = .ok (.iload_n 1, 1) := by decide +kernel
theorem dX8_vitrineAt_34 : decode cX8_vitrineAt 34 = .ok (.aaload, 1) := by decide +kernel
theorem dX8_vitrineAt_35 : decode cX8_vitrineAt 35 = .ok (.areturn, 1) := by decide +kernel
theorem dX8_logbookAt_0 : decode cX8_logbookAt 0 = .ok (.iload_n 1, 1) := by decide +kernel
theorem dX8_logbookAt_1 : decode cX8_logbookAt 1 = .ok (.ifCond .lt 14, 3) := by decide +kernel
theorem dX8_logbookAt_4 : decode cX8_logbookAt 4 = .ok (.iload_n 1, 1) := by decide +kernel
theorem dX8_logbookAt_5 : decode cX8_logbookAt 5 = .ok (.aload_n 0, 1) := by decide +kernel
theorem dX8_logbookAt_6 : decode cX8_logbookAt 6 = .ok (.getfield 19, 3) := by decide +kernel
theorem dX8_logbookAt_9 : decode cX8_logbookAt 9 = .ok (.getfield 86, 3) := by decide +kernel
theorem dX8_logbookAt_12 : decode cX8_logbookAt 12 = .ok (.if_icmp .lt 14, 3) := by decide +kernel
theorem dX8_logbookAt_15 : decode cX8_logbookAt 15 = .ok (.new 74, 3) := by decide +kernel
theorem dX8_logbookAt_18 : decode cX8_logbookAt 18 = .ok (.dup, 1) := by decide +kernel
theorem dX8_logbookAt_19 : decode cX8_logbookAt 19 = .ok (.ldc_w 360, 3) := by decide +kernel
theorem dX8_logbookAt_22 : decode cX8_logbookAt 22 = .ok (.invokespecial 78, 3) := by decide +kernel
theorem dX8_logbookAt_25 : decode cX8_logbookAt 25 = .ok (.athrow, 1) := by decide +kernel
theorem dX8_logbookAt_26 : decode cX8_logbookAt 26 = .ok (.aload_n 0, 1) := by decide +kernel
theorem dX8_logbookAt_27 : decode cX8_logbookAt 27 = .ok (.getfield 29, 3) := by decide +kernel
theorem dX8_logbookAt_30 : decode cX8_logbookAt 30 = .ok (.getfield 366, 3) := by decide +kernel
theorem dX8_logbookAt_33 : decode cX8_logbookAt 33 = .ok (.iload_n 1, 1) := by decide +kernel
theorem dX8_logbookAt_34 : decode cX8_logbookAt 34 = .ok (.aaload, 1) := by decide +kernel
theorem dX8_logbookAt_35 : decode cX8_logbookAt 35 = .ok (.areturn, 1) := by decide +kernel
theorem dX8_kindAt_0 : decode cX8_kindAt 0 = .ok (.iload_n 1, 1) := by decide +kernel
theorem dX8_kindAt_1 : decode cX8_kindAt 1 = .ok (.ifCond .lt 14, 3) := by decide +kernel
theorem dX8_kindAt_4 : decode cX8_kindAt 4 = .ok (.iload_n 1, 1) := by decide +kernel
theorem dX8_kindAt_5 : decode cX8_kindAt 5 = .ok (.aload_n 0, 1) := by decide +kernel
theorem dX8_kindAt_6 : decode cX8_kindAt 6 = .ok (.getfield 19, 3) := by decide +kernel
theorem dX8_kindAt_9 : decode cX8_kindAt 9 = .ok (.getfield 108, 3) := by decide +kernel
theorem dX8_kindAt_12 : decode cX8_kindAt 12 = .ok (.if_icmp .lt 14, 3) := by decide +kernel
theorem dX8_kindAt_15 : decode cX8_kindAt 15 = .ok (.new 74, 3) := by decide +kernel
theorem dX8_kindAt_18 : decode cX8_kindAt 18 = .ok (.dup, 1) := by decide +kernel
theorem dX8_kindAt_19 : decode cX8_kindAt 19 = .ok (.ldc_w 370, 3) := by decide +kernel
theorem dX8_kindAt_22 : decode cX8_kindAt 22 = .ok (.invokespecial 78, 3) := by decide +kernel
theorem dX8_kindAt_25 : decode cX8_kindAt 25 = .ok (.athrow, 1) := by decide +kernel
theorem dX8_kindAt_26 : decode cX8_kindAt 26 = .ok (.aload_n 0, 1) := by decide +kernel
theorem dX8_kindAt_27 : decode cX8_kindAt 27 = .ok (.getfield 19, 3) := by decide +kernel
theorem dX8_kindAt_30 : decode cX8_kindAt 30 = .ok (.getfield 372, 3) := by decide +kernel
theorem dX8_kindAt_33 : decode cX8_kindAt 33 = .ok (.iload_n 1, 1) := by decide +kernel
theorem dX8_kindAt_34 : decode cX8_kindAt 34 = .ok (.aaload, 1) := by decide +kernel
theorem dX8_kindAt_35 : decode cX8_kindAt 35 = .ok (.areturn, 1) := by decide +kernel
theorem dX8_requireHumidity_0 : decode cX8_requireHumidity 0 = .ok (.iload_n 1, 1) := by decide +kernel
theorem dX8_requireHumidity_1 : decode cX8_requireHumidity 1 = .ok (.ifCond .lt 10, 3) := by decide +kernel
theorem dX8_requireHumidity_4 : decode cX8_requireHumidity 4 = .ok (.iload_n 1, 1) := by decide +kernel
theorem dX8_requireHumidity_5 : decode cX8_requireHumidity 5 = .ok (.sipush 1000, 3) := by decide +kernel
theorem dX8_requireHumidity_8 : decode cX8_requireHumidity 8 = .ok (.if_icmp .le 14, 3) := by decide +kernel
theorem dX8_requireHumidity_11 : decode cX8_requireHumidity 11 = .ok (.new 127, 3) := by decide +kernel
theorem dX8_requireHumidity_14 : decode cX8_requireHumidity 14 = .ok (.dup, 1) := by decide +kernel
theorem dX8_requireHumidity_15 : decode cX8_requireHumidity 15 = .ok (.ldc_w 376, 3) := by decide +kernel
theorem dX8_requireHumidity_18 : decode cX8_requireHumidity 18 = .ok (.invokespecial 131, 3) := by decide +kernel
theorem dX8_requireHumidity_21 : decode cX8_requireHumidity 21 = .ok (.athrow, 1) := by decide +kernel
theorem dX8_requireHumidity_22 : decode cX8_requireHumidity 22 = .ok (.return_, 1) := by decide +kernel
theorem dX8_requireHours_0 : decode cX8_requireHours 0 = .ok (.iload_n 1, 1) := by decide +kernel
theorem dX8_requireHours_1 : decode cX8_requireHours 1 = .ok (.iload_n 2, 1) := by decide +kernel
theorem dX8_requireHours_2 : decode cX8_requireHours 2 = .ok (.if_icmp .lt 8, 3) := by decide +kernel
theorem dX8_requireHours_5 : decode cX8_requireHours 5 = .ok (.iload_n 1, 1) := by decide +kernel
theorem dX8_requireHours_6 : decode cX8_requireHours 6 = .ok (.iload_n 3, 1) := by decide +kernel
theorem dX8_requireHours_7 : decode cX8_requireHours 7 = .ok (.if_icmp .le 14, 3) := by decide +kernel
theorem dX8_requireHours_10 : decode cX8_requireHours 10 = .ok (.new 127, 3) := by decide +kernel
theorem dX8_requireHours_13 : decode cX8_requireHours 13 = .ok (.dup, 1) := by decide +kernel
theorem dX8_requireHours_14 : decode cX8_requireHours 14 = .ok (.ldc_w 378, 3) := by decide +kernel
theorem dX8_requireHours_17 : decode cX8_requireHours 17 = .ok (.invokespecial 131, 3) := by decide +kernel
theorem dX8_requireHours_20 : decode cX8_requireHours 20 = .ok (.athrow, 1) := by decide +kernel
theorem dX8_requireHours_21 : decode cX8_requireHours 21 = .ok (.return_, 1) := by decide +kernel
theorem dX8_requireAnHour_0 : decode cX8_requireAnHour 0 = .ok (.aload_n 0, 1) := by decide +kernel
theorem dX8_requireAnHour_1 : decode cX8_requireAnHour 1 = .ok (.getfield 29, 3) := by decide +kernel
theorem dX8_requireAnHour_4 : decode cX8_requireAnHour 4 = .ok (.getfield 95, 3) := by decide +kernel
theorem dX8_requireAnHour_7 : decode cX8_requireAnHour 7 = .ok (.getfield 98, 3) := by decide +kernel
theorem dX8_requireAnHour_10 : decode cX8_requireAnHour 10 = .ok (.iconst 1, 1) := by decide +kernel
theorem dX8_requireAnHour_11 : decode cX8_requireAnHour 11 = .ok (.if_icmp .ge 14, 3) := by decide +kernel
theorem dX8_requireAnHour_14 : decode cX8_requireAnHour 14 = .ok (.new 220, 3) := by decide +kernel
theorem dX8_requireAnHour_17 : decode cX8_requireAnHour 17 = .ok (.dup, 1) := by decide +kernel
theorem dX8_requireAnHour_18 : decode cX8_requireAnHour 18 = .ok (.ldc_w 380, 3) := by decide +kernel
theorem dX8_requireAnHour_21 : decode cX8_requireAnHour 21 = .ok (.invokespecial 224, 3) := by decide +kernel
theorem dX8_requireAnHour_24 : decode cX8_requireAnHour 24 = .ok (.athrow, 1) := by decide +kernel
theorem dX8_requireAnHour_25 : decode cX8_requireAnHour 25 = .ok (.return_, 1) := by decide +kernel
theorem dX8_requireSlot_0 : decode cX8_requireSlot 0 = .ok (.iload_n 1, 1) := by decide +kernel
theorem dX8_requireSlot_1 : decode cX8_requireSlot 1 = .ok (.ifCond .lt 8, 3) := by decide +kernel
theorem dX8_requireSlot_4 : decode cX8_requireSlot 4 = .ok (.iload_n 1, 1) := by decide +kernel
theorem dX8_requireSlot_5 : decode cX8_requireSlot 5 = .ok (.iconst 2, 1) := by decide +kernel
theorem dX8_requireSlot_6 : decode cX8_requireSlot 6 = .ok (.if_icmp .lt 14, 3) := by decide +kernel
theorem dX8_requireSlot_9 : decode cX8_requireSlot 9 = .ok (.new 74, 3) := by decide +kernel
theorem dX8_requireSlot_12 : decode cX8_requireSlot 12 = .ok (.dup, 1) := by decide +kernel
theorem dX8_requireSlot_13 : decode cX8_requireSlot 13 = .ok (.ldc_w 382, 3) := by decide +kernel
theorem dX8_requireSlot_16 : decode cX8_requireSlot 16 = .ok (.invokespecial 78, 3) := by decide +kernel
theorem dX8_requireSlot_19 : decode cX8_requireSlot 19 = .ok (.athrow, 1) := by decide +kernel
theorem dX8_requireSlot_20 : decode cX8_requireSlot 20 = .ok (.return_, 1) := by decide +kernel
theorem dX8_onLine_0 : decode cX8_onLine 0 = .ok (.iload_n 3, 1) := by decide +kernel
theorem dX8_onLine_1 : decode cX8_onLine 1 = .ok (.iconst 1, 1) := by decide +kernel
theorem dX8_onLine_2 : decode cX8_onLine 2 = .ok (.if_icmp .ge 7, 3) := by decide +kernel
theorem dX8_onLine_5 : decode cX8_onLine 5 = .ok (.iload_n 0, 1) := by decide +kernel
theorem dX8_onLine_6 : decode cX8_onLine 6 = .ok (.goto 12, 3) := by decide +kernel
theorem dX8_onLine_9 : decode cX8_onLine 9 = .ok (.iload_n 0, 1) := by decide +kernel
theorem dX8_onLine_10 : decode cX8_onLine 10 = .ok (.iload_n 1, 1) := by decide +kernel
theorem dX8_onLine_11 : decode cX8_onLine 11 = .ok (.iload_n 0, 1) := by decide +kernel
theorem dX8_onLine_12 : decode cX8_onLine 12 = .ok (.isub, 1) := by decide +kernel
theorem dX8_onLine_13 : decode cX8_onLine 13 = .ok (.iload_n 2, 1) := by decide +kernel
theorem dX8_onLine_14 : decode cX8_onLine 14 = .ok (.imul, 1) := by decide +kernel
theorem dX8_onLine_15 : decode cX8_onLine 15 = .ok (.iload_n 3, 1) := by decide +kernel
theorem dX8_onLine_16 : decode cX8_onLine 16 = .ok (.idiv, 1) := by decide +kernel
theorem dX8_onLine_17 : decode cX8_onLine 17 = .ok (.iadd, 1) := by decide +kernel
theorem dX8_onLine_18 : decode cX8_onLine 18 = .ok (.ireturn, 1) := by decide +kernel
theorem dX9_init_0 : decode cX9_init 0 = .ok (.aload_n 0, 1) := by decide +kernel
theorem dX9_init_1 : decode cX9_init 1 = .ok (.invokespecial 1, 3) := by decide +kernel
theorem dX9_init_4 : decode cX9_init 4 = .ok (.aload_n 0, 1) := by decide +kernel
theorem dX9_init_5 : decode cX9_init 5 = .ok (.bipush 116, 2) := by decide +kernel
theorem dX9_init_7 : decode cX9_init 7 = .ok (.newarray .int, 2) := by decide +kernel
theorem dX9_init_9 : decode cX9_init 9 = .ok (.putfield 7, 3) := by decide +kernel
theorem dX9_init_12 : decode cX9_init 12 = .ok (.aload_n 0, 1) := by decide +kernel
theorem dX9_init_13 : decode cX9_init 13 = .ok (.bipush 116, 2) := by decide +kernel
theorem dX9_init_15 : decode cX9_init 15 = .ok (.newarray .int, 2) := by decide +kernel
theorem dX9_init_17 : decode cX9_init 17 = .ok (.putfield 13, 3) := by decide +kernel
theorem dX9_init_20 : decode cX9_init 20 = .ok (.aload_n 0, 1) := by decide +kernel
theorem dX9_init_21 : decode cX9_init 21 = .ok (.sipush 340, 3) := by decide +kernel
theorem dX9_init_24 : decode cX9_init 24 = .ok (.newarray .int, 2) := by decide +kernel
theorem dX9_init_26 : decode cX9_init 26 = .ok (.putfield 16, 3) := by decide +kernel
theorem dX9_init_29 : decode cX9_init 29 = .ok (.aload_n 0, 1) := by decide +kernel
theorem dX9_init_30 : decode cX9_init 30 = .ok (.sipush 340, 3) := by decide +kernel
theorem dX9_init_33 : decode cX9_init 33 = .ok (.newarray .int, 2) := by decide +kernel
theorem dX9_init_35 : decode cX9_init 35 = .ok (.putfield 19, 3) := by decide +kernel
theorem dX9_init_38 : decode cX9_init 38 = .ok (.aload_n 0, 1) := by decide +kernel
theorem dX9_init_39 : decode cX9_init 39 = .ok (.sipush 680, 3) := by decide +kernel
theorem dX9_init_42 : decode cX9_init 42 = .ok (.newarray .int, 2) := by decide +kernel
theorem dX9_init_44 : decode cX9_init 44 = .ok (.putfield 22, 3) := by decide +kernel
theorem dX9_init_47 : decode cX9_init 47 = .ok (.aload_n 0, 1) := by decide +kernel
theorem dX9_init_48 : decode cX9_init 48 = .ok (.sipush 340, 3) := by decide +kernel
theorem dX9_init_51 : decode cX9_init 51 = .ok (.newarray .int, 2) := by decide +kernel
theorem dX9_init_53 : decode cX9_init 53 = .ok (.putfield 25, 3) := by decide +kernel
theorem dX9_init_56 : decode cX9_init 56 = .ok (.aload_n 0, 1) := by decide +kernel
theorem dX9_init_57 : decode cX9_init 57 = .ok (.bipush 30, 2) := by decide +kernel
theorem dX9_init_59 : decode cX9_init 59 = .ok (.newarray .long, 2) := by decide +kernel
theorem dX9_init_61 : decode cX9_init 61 = .ok (.putfield 28, 3) := by decide +kernel
theorem dX9_init_64 : decode cX9_init 64 = .ok (.aload_n 0, 1) := by decide +kernel
theorem dX9_init_65 : decode cX9_init 65 = .ok (.bipush 30, 2) := by decide +kernel
theorem dX9_init_67 : decode cX9_init 67 = .ok (.newarray .long, 2) := by decide +kernel
theorem dX9_init_69 : decode cX9_init 69 = .ok (.putfield 32, 3) := by decide +kernel
theorem dX9_init_72 : decode cX9_init 72 = .ok (.aload_n 0, 1) := by decide +kernel
theorem dX9_init_73 : decode cX9_init 73 = .ok (.bipush 60, 2) := by decide +kernel
theorem dX9_init_75 : decode cX9_init 75 = .ok (.newarray .long, 2) := by decide +kernel
theorem dX9_init_77 : decode cX9_init 77 = .ok (.putfield 35, 3) := by decide +kernel
theorem dX9_init_80 : decode cX9_init 80 = .ok (.aload_n 0, 1) := by decide +kernel
theorem dX9_init_81 : decode cX9_init 81 = .ok (.iconst 2, 1) := by decide +kernel
theorem dX9_init_82 : decode cX9_init 82 = .ok (.newarray .boolean, 2) := by decide +kernel
theorem dX9_init_84 : decode cX9_init 84 = .ok (.putfield 38, 3) := by decide +kernel
theorem dX9_init_87 : decode cX9_init 87 = .ok (.aload_n 0, 1) := by decide +kernel
theorem dX9_init_88 : decode cX9_init 88 = .ok (.sipush 900, 3) := by decide +kernel
theorem dX9_init_91 : decode cX9_init 91 = .ok (.newarray .int, 2) := by decide +kernel
theorem dX9_init_93 : decode cX9_init 93 = .ok (.putfield 42, 3) := by decide +kernel
theorem dX9_init_96 : decode cX9_init 96 = .ok (.aload_n 0, 1) := by decide +kernel
theorem dX9_init_97 : decode cX9_init 97 = .ok (.iconst (-1), 1) := by decide +kernel
theorem dX9_init_98 : decode cX9_init 98 = .ok (.putfield 45, 3) := by decide +kernel
theorem dX9_init_101 : decode cX9_init 101 = .ok (.aload_n 0, 1) := by decide +kernel
theorem dX9_init_102 : decode cX9_init 102 = .ok (.iconst 4, 1) := by decide +kernel
theorem dX9_init_103 : decode cX9_init 103 = .ok (.newarray .long, 2) := by decide +kernel
theorem dX9_init_105 : decode cX9_init 105 = .ok (.putfield 49, 3) := by decide +kernel
theorem dX9_init_108 : decode cX9_init 108 = .ok (.aload_n 0, 1) := by decide +kernel
theorem dX9_init_109 : decode cX9_init 109 = .ok (.bipush 6, 2) := by decide +kernel
theorem dX9_init_111 : decode cX9_init 111 = .ok (.newarray .long, 2) := by decide +kernel
theorem dX9_init_113 : decode cX9_init 113 = .ok (.putfield 52, 3) := by decide +kernel
theorem dX9_init_116 : decode cX9_init 116 = .ok (.aload_n 0, 1) := by decide +kernel
theorem dX9_init_117 : decode cX9_init 117 = .ok (.invokevirtual 55, 3) := by decide +kernel
theorem dX9_init_120 : decode cX9_init 120 = .ok (.aload_n 0, 1) := by decide +kernel
theorem dX9_init_121 : decode cX9_init 121 = .ok (.invokevirtual 58, 3) := by decide +kernel
theorem dX9_init_124 : decode cX9_init 124 = .ok (.return_, 1) := by decide +kernel
theorem dX9_thrown_0 : decode cX9_thrown 0 = .ok (.aload_n 0, 1) := by decide +kernel
theorem dX9_thrown_1 : decode cX9_thrown 1 = .ok (.getfield 61, 3) := by decide +kernel
theorem dX9_thrown_4 : decode cX9_thrown 4 = .ok (.ireturn, 1) := by decide +kernel
theorem dX9_isIn_0 : decode cX9_isIn 0 = .ok (.iload_n 0, 1) := by decide +kernel
theorem dX9_isIn_1 : decode cX9_isIn 1 = .ok (.iload_n 1, 1) := by decide +kernel
theorem dX9_isIn_2 : decode cX9_isIn 2 = .ok (.if_icmp .lt 12, 3) := by decide +kernel
theorem dX9_isIn_5 : decode cX9_isIn 5 = .ok (.iload_n 0, 1) := by decide +kernel
theorem dX9_isIn_6 : decode cX9_isIn 6 = .ok (.iload_n 2, 1) := by decide +kernel
theorem dX9_isIn_7 : decode cX9_isIn 7 = .ok (.if_icmp .gt 7, 3) := by decide +kernel
theorem dX9_isIn_10 : decode cX9_isIn 10 = .ok (.iconst 1, 1) := by decide +kernel
theorem dX9_isIn_11 : decode cX9_isIn 11 = .ok (.goto 4, 3) := by decide +kernel
theorem dX9_isIn_14 : decode cX9_isIn 14 = .ok (.iconst 0, 1) := by decide +kernel
theorem dX9_isIn_15 : decode cX9_isIn 15 = .ok (.ireturn, 1) := by decide +kernel
theorem dX9_may_0 : decode cX9_may 0 = .ok (.iload_n 1, 1) := by decide +kernel
theorem dX9_may_1 : decode cX9_may 1 = .ok (.ifCond .ne 15, 3) := by decide +kernel
theorem dX9_may_4 : decode cX9_may 4 = .ok (.aload_n 0, 1) := by decide +kernel
theorem dX9_may_5 : decode cX9_may 5 = .ok (.getfield 61, 3) := by decide +kernel
theorem dX9_may_8 : decode cX9_may 8 = .ok (.ifCond .ne 8, 3) := by decide +kernel
theorem dX9_may_11 : decode cX9_may 11 = .ok (.aload_n 0, 1) := by decide +kernel
theorem dX9_may_12 : decode cX9_may 12 = .ok (.iload_n 2, 1) := by decide +kernel
theorem dX9_may_13 : decode cX9_may 13 = .ok (.putfield 61, 3) := by decide +kernel
theorem dX9_may_16 : decode cX9_may 16 = .ok (.aload_n 0, 1) := by decide +kernel
theorem dX9_may_17 : decode cX9_may 17 = .ok (.getfield 61, 3) := by decide +kernel
theorem dX9_may_20 : decode cX9_may 20 = .ok (.ifCond .ne 7, 3) := by decide +kernel
theorem dX9_may_23 : decode cX9_may 23 = .ok (.iconst 1, 1) := by decide +kernel
theorem dX9_may_24 : decode cX9_may 24 = .ok (.goto 4, 3) := by decide +kernel
theorem dX9_may_27 : decode cX9_may 27 = .ok (.iconst 0, 1) := by decide +kernel
theorem dX9_may_28 : decode cX9_may 28 = .ok (.ireturn, 1) := by decide +kernel
theorem dX9_plain_0 : decode cX9_plain 0 = .ok (.iconst 0, 1) := by decide +kernel
theorem dX9_plain_1 : decode cX9_plain 1 = .ok (.istore_n 1, 1) := by decide +kernel
theorem dX9_plain_2 : decode cX9_plain 2 = .ok (.iload_n 1, 1) := by decide +kernel
theorem dX9_plain_3 : decode cX9_plain 3 = .ok (.bipush 116, 2) := by decide +kernel
theorem dX9_plain_5 : decode cX9_plain 5 = .ok (.if_icmp .ge 16, 3) := by decide +kernel
theorem dX9_plain_8 : decode cX9_plain 8 = .ok (.aload_n 0, 1) := by decide +kernel
theorem dX9_plain_9 : decode cX9_plain 9 = .ok (.getfield 13, 3) := by decide +kernel
theorem dX9_plain_12 : decode cX9_plain 12 = .ok (.iload_n 1, 1) := by decide +kernel
theorem dX9_plain_13 : decode cX9_plain 13 = .ok (.iconst 0, 1) := by decide +kernel
theorem dX9_plain_14 : decode cX9_plain 14 = .ok (.iastore, 1) := by decide +kernel
theorem dX9_plain_15 : decode cX9_plain 15 = .ok (.iinc 1 1, 3) := by decide +kernel
theorem dX9_plain_18 : decode cX9_plain 18 = .ok (.goto (-16), 3) := by decide +kernel
theorem dX9_plain_21 : decode cX9_plain 21 = .ok (.iconst 0, 1) := by decide +kernel
theorem dX9_plain_22 : decode cX9_plain 22 = .ok (.istore_n 1, 1) := by decide +kernel
theorem dX9_plain_23 : decode cX9_plain 23 = .ok (.iload_n 1, 1) := by decide +kernel
theorem dX9_plain_24 : decode cX9_plain 24 = .ok (.sipush 340, 3) := by decide +kernel
theorem dX9_plain_27 : decode cX9_plain 27 = .ok (.if_icmp .ge 16, 3) := by decide +kernel
theorem dX9_plain_30 : decode cX9_plain 30 = .ok (.aload_n 0, 1) := by decide +kernel
theorem dX9_plain_31 : decode cX9_plain 31 = .ok (.getfield 25, 3) := by decide +kernel
theorem dX9_plain_34 : decode cX9_plain 34 = .ok (.iload_n 1, 1) := by decide +kernel
theorem dX9_plain_35 : decode cX9_plain 35 = .ok (.iconst 0, 1) := by decide +kernel
theorem dX9_plain_36 : decode cX9_plain 36 = .ok (.iastore, 1) := by decide +kernel
theorem dX9_plain_37 : decode cX9_plain 37 = .ok (.iinc 1 1, 3) := by decide +kernel
theorem dX9_plain_40 : decode cX9_plain 40 = .ok (.goto (-17), 3) := by decide +kernel
theorem dX9_plain_43 : decode cX9_plain 43 = .ok (.return_, 1) := by decide +kernel
theorem dX9_takes_0 : decode cX9_takes 0 = .ok (.iconst 0, 1) := by decide +kernel
theorem dX9_takes_1 : decode cX9_takes 1 = .ok (.istore_n 1, 1) := by decide +kernel
theorem dX9_takes_2 : decode cX9_takes 2 = .ok (.iload_n 1, 1) := by decide +kernel
theorem dX9_takes_3 : decode cX9_takes 3 = .ok (.bipush 116, 2) := by decide +kernel
theorem dX9_takes_5 : decode cX9_takes 5 = .ok (.if_icmp .ge 21, 3) := by decide +kernel
theorem dX9_takes_8 : decode cX9_takes 8 = .ok (.aload_n 0, 1) := by decide +kernel
theorem dX9_takes_9 : decode cX9_takes 9 = .ok (.getfield 7, 3) := by decide +kernel
theorem dX9_takes_12 : decode cX9_takes 12 = .ok (.iload_n 1, 1) := by decide +kernel
theorem dX9_takes_13 : decode cX9_takes 13 = .ok (.aload_n 0, 1) := by decide +kernel
theorem dX9_takes_14 : decode cX9_takes 14 = .ok (.getfield 13, 3) := by decide +kernel
theorem dX9_takes_17 : decode cX9_takes 17 = .ok (.iload_n 1, 1) := by decide +kernel
theorem dX9_takes_18 : decode cX9_takes 18 = .ok (.iaload, 1) := by decide +kernel
theorem dX9_takes_19 : decode cX9_takes 19 = .ok (.iastore, 1) := by decide +kernel
theorem dX9_takes_20 : decode cX9_takes 20 = .ok (.iinc 1 1, 3) := by decide +kernel
theorem dX9_takes_23 : decode cX9_takes 23 = .ok (.goto (-21), 3) := by decide +kernel
theorem dX9_takes_26 : decode cX9_takes 26 = .ok (.iconst 0, 1) := by decide +kernel
theorem dX9_takes_27 : decode cX9_takes 27 = .ok (.istore_n 1, 1) := by decide +kernel
theorem dX9_takes_28 : decode cX9_takes 28 = .ok (.iload_n 1, 1) := by decide +kernel
theorem dX9_takes_29 : decode cX9_takes 29 = .ok (.sipush 340, 3) := by decide +kernel
theorem dX9_takes_32 : decode cX9_takes 32 = .ok (.if_icmp .ge 21, 3) := by decide +kernel
theorem dX9_takes_35 : decode cX9_takes 35 = .ok (.aload_n 0, 1) := by decide +kernel
theorem dX9_takes_36 : decode cX9_takes 36 = .ok (.getfield 16, 3) := by decide +kernel
theorem dX9_takes_39 : decode cX9_takes 39 = .ok (.iload_n 1, 1) := by decide +kernel
theorem dX9_takes_40 : decode cX9_takes 40 = .ok (.aload_n 0, 1) := by decide +kernel
theorem dX9_takes_41 : decode cX9_takes 41 = .ok (.getfield 25, 3) := by decide +kernel
theorem dX9_takes_44 : decode cX9_takes 44 = .ok (.iload_n 1, 1) := by decide +kernel
theorem dX9_takes_45 : decode cX9_takes 45 = .ok (.iaload, 1) := by decide +kernel
theorem dX9_takes_46 : decode cX9_takes 46 = .ok (.iastore, 1) := by decide +kernel
theorem dX9_takes_47 : decode cX9_takes 47 = .ok (.iinc 1 1, 3) := by decide +kernel
theorem dX9_takes_50 : decode cX9_takes 50 = .ok (.goto (-22), 3) := by decide +kernel
theorem dX9_takes_53 : decode cX9_takes 53 = .ok (.iconst 0, 1) := by decide +kernel
theorem dX9_takes_54 : decode cX9_takes 54 = .ok (.istore_n 1, 1) := by decide +kernel
theorem dX9_takes_55 : decode cX9_takes 55 = .ok (.iload_n 1, 1) := by decide +kernel
theorem dX9_takes_56 : decode cX9_takes 56 = .ok (.bipush 30, 2) := by decide +kernel
theorem dX9_takes_58 : decode cX9_takes 58 = .ok (.if_icmp .ge 16, 3) := by decide +kernel
theorem dX9_takes_61 : decode cX9_takes 61 = .ok (.aload_n 0, 1) := by decide +kernel
theorem dX9_takes_62 : decode cX9_takes 62 = .ok (.getfield 28, 3) := by decide +kernel
theorem dX9_takes_65 : decode cX9_takes 65 = .ok (.iload_n 1, 1) := by decide +kernel
theorem dX9_takes_66 : decode cX9_takes 66 = .ok (.lconst 0, 1) := by decide +kernel
theorem dX9_takes_67 : decode cX9_takes 67 = .ok (.lastore, 1) := by decide +kernel
theorem dX9_takes_68 : decode cX9_takes 68 = .ok (.iinc 1 1, 3) := by decide +kernel
theorem dX9_takes_71 : decode cX9_takes 71 = .ok (.goto (-16), 3) := by decide +kernel
theorem dX9_takes_74 : decode cX9_takes 74 = .ok (.iconst 0, 1) := by decide +kernel
theorem dX9_takes_75 : decode cX9_takes 75 = .ok (.istore_n 1, 1) := by decide +kernel
theorem dX9_takes_76 : decode cX9_takes 76 = .ok (.iload_n 1, 1) := by decide +kernel
theorem dX9_takes_77 : decode cX9_takes 77 = .ok (.aload_n 0, 1) := by decide +kernel
theorem dX9_takes_78 : decode cX9_takes 78 = .ok (.getfield 7, 3) := by decide +kernel
theorem dX9_takes_81 : decode cX9_takes 81 = .ok (.iconst 5, 1) := by decide +kernel
theorem dX9_takes_82 : decode cX9_takes 82 = .ok (.iaload, 1) := by decide +kernel
theorem dX9_takes_83 : decode cX9_takes 83 = .ok (.if_icmp .ge 90, 3) := by decide +kernel
theorem dX9_takes_86 : decode cX9_takes 86 = .ok (.iconst 0, 1) := by decide +kernel
theorem dX9_takes_87 : decode cX9_takes 87 = .ok (.istore_n 2, 1) := by decide +kernel
theorem dX9_takes_88 : decode cX9_takes 88 = .ok (.iload_n 2, 1) := by decide +kernel
theorem dX9_takes_89 : decode cX9_takes 89 = .ok (.aload_n 0, 1) := by decide +kernel
theorem dX9_takes_90 : decode cX9_takes 90 = .ok (.iload_n 1, 1) := by decide +kernel
theorem dX9_takes_91 : decode cX9_takes 91 = .ok (.iconst 4, 1) := by decide +kernel
theorem dX9_takes_92 : decode cX9_takes 92 = .ok (.invokevirtual 64, 3) := by decide +kernel
theorem dX9_takes_95 : decode cX9_takes 95 = .ok (.if_icmp .ge 41, 3) := by decide +kernel
theorem dX9_takes_98 : decode cX9_takes 98 = .ok (.aload_n 0, 1) := by decide +kernel
theorem dX9_takes_99 : decode cX9_takes 99 = .ok (.iload_n 1, 1) := by decide +kernel
theorem dX9_takes_100 : decode cX9_takes 100 = .ok (.iload_n 2, 1) := by decide +kernel
theorem dX9_takes_101 : decode cX9_takes 101 = .ok (.iconst 3, 1) := by decide +kernel
theorem dX9_takes_102 : decode cX9_takes 102 = .ok (.aload_n 0, 1) := by decide +kernel
theorem dX9_takes_103 : decode cX9_takes 103 = .ok (.aload_n 0, 1) := by decide +kernel
theorem dX9_takes_104 : decode cX9_takes 104 = .ok (.iload_n 1, 1) := by decide +kernel
theorem dX9_takes_105 : decode cX9_takes 105 = .ok (.iload_n 2, 1) := by decide +kernel
theorem dX9_takes_106 : decode cX9_takes 106 = .ok (.iconst 1, 1) := by decide +kernel
theorem dX9_takes_107 : decode cX9_takes 107 = .ok (.invokevirtual 68, 3) := by decide +kernel
theorem dX9_takes_110 : decode cX9_takes 110 = .ok (.aload_n 0, 1) := by decide +kernel
theorem dX9_takes_111 : decode cX9_takes 111 = .ok (.iload_n 1, 1) := by decide +kernel
theorem dX9_takes_112 : decode cX9_takes 112 = .ok (.iload_n 2, 1) := by decide +kernel
theorem dX9_takes_113 : decode cX9_takes 113 = .ok (.iconst 2, 1) := by decide +kernel
theorem dX9_takes_114 : decode cX9_takes 114 = .ok (.invokevirtual 68, 3) := by decide +kernel
theorem dX9_takes_117 : decode cX9_takes 117 = .ok (.aload_n 0, 1) := by decide +kernel
theorem dX9_takes_118 : decode cX9_takes 118 = .ok (.iload_n 1, 1) := by decide +kernel
theorem dX9_takes_119 : decode cX9_takes 119 = .ok (.iload_n 2, 1) := by decide +kernel
theorem dX9_takes_120 : decode cX9_takes 120 = .ok (.iconst 3, 1) := by decide +kernel
theorem dX9_takes_121 : decode cX9_takes 121 = .ok (.invokevirtual 68, 3) := by decide +kernel
theorem dX9_takes_124 : decode cX9_takes 124 = .ok (.invokevirtual 72, 3) := by decide +kernel
theorem dX9_takes_127 : decode cX9_takes 127 = .ok (.invokevirtual 75, 3) := by decide +kernel
theorem dX9_takes_130 : decode cX9_takes 130 = .ok (.iinc 2 1, 3) := by decide +kernel
theorem dX9_takes_133 : decode cX9_takes 133 = .ok (.goto (-45), 3) := by decide +kernel
theorem dX9_takes_136 : decode cX9_takes 136 = .ok (.aload_n 0, 1) := by decide +kernel
theorem dX9_takes_137 : decode cX9_takes 137 = .ok (.iload_n 1, 1) := by decide +kernel
theorem dX9_takes_138 : decode cX9_takes 138 = .ok (.bipush 6, 2) := by decide +kernel
theorem dX9_takes_140 : decode cX9_takes 140 = .ok (.iconst (-1), 1) := by decide +kernel
theorem dX9_takes_141 : decode cX9_takes 141 = .ok (.invokevirtual 79, 3) := by decide +kernel
theorem dX9_takes_144 : decode cX9_takes 144 = .ok (.aload_n 0, 1) := by decide +kernel
theorem dX9_takes_145 : decode cX9_takes 145 = .ok (.iload_n 1, 1) := by decide +kernel
theorem dX9_takes_146 : decode cX9_takes 146 = .ok (.bipush 7, 2) := by decide +kernel
theorem dX9_takes_148 : decode cX9_takes 148 = .ok (.iconst (-1), 1) := by decide +kernel
theorem dX9_takes_149 : decode cX9_takes 149 = .ok (.invokevirtual 79, 3) := by decide +kernel
theorem dX9_takes_152 : decode cX9_takes 152 = .ok (.aload_n 0, 1) := by decide +kernel
theorem dX9_takes_153 : decode cX9_takes 153 = .ok (.getfield 28, 3) := by decide +kernel
theorem dX9_takes_156 : decode cX9_takes 156 = .ok (.iconst 5, 1) := by decide +kernel
theorem dX9_takes_157 : decode cX9_takes 157 = .ok (.iload_n 1, 1) := by decide +kernel
theorem dX9_takes_158 : decode cX9_takes 158 = .ok (.imul, 1) := by decide +kernel
theorem dX9_takes_159 : decode cX9_takes 159 = .ok (.iconst 1, 1) := by decide +kernel
theorem dX9_takes_160 : decode cX9_takes 160 = .ok (.iadd, 1) := by decide +kernel
theorem dX9_takes_161 : decode cX9_takes 161 = .ok (.aload_n 0, 1) := by decide +kernel
theorem dX9_takes_162 : decode cX9_takes 162 = .ok (.iload_n 1, 1) := by decide +kernel
theorem dX9_takes_163 : decode cX9_takes 163 = .ok (.invokevirtual 83, 3) := by decide +kernel
theorem dX9_takes_166 : decode cX9_takes 166 = .ok (.lastore, 1) := by decide +kernel
theorem dX9_takes_167 : decode cX9_takes 167 = .ok (.iinc 1 1, 3) := by decide +kernel
theorem dX9_takes_170 : decode cX9_takes 170 = .ok (.goto (-94), 3) := by decide +kernel
theorem dX9_takes_173 : decode cX9_takes 173 = .ok (.aload_n 0, 1) := by decide +kernel
theorem dX9_takes_174 : decode cX9_takes 174 = .ok (.getfield 38, 3) := by decide +kernel
theorem dX9_takes_177 : decode cX9_takes 177 = .ok (.iconst 0, 1) := by decide +kernel
theorem dX9_takes_178 : decode cX9_takes 178 = .ok (.iconst 0, 1) := by decide +kernel
theorem dX9_takes_179 : decode cX9_takes 179 = .ok (.bastore, 1) := by decide +kernel
theorem dX9_takes_180 : decode cX9_takes 180 = .ok (.aload_n 0, 1) := by decide +kernel
theorem dX9_takes_181 : decode cX9_takes 181 = .ok (.getfield 38, 3) := by decide +kernel
theorem dX9_takes_184 : decode cX9_takes 184 = .ok (.iconst 1, 1) := by decide +kernel
theorem dX9_takes_185 : decode cX9_takes 185 = .ok (.iconst 0, 1) := by decide +kernel
theorem dX9_takes_186 : decode cX9_takes 186 = .ok (.bastore, 1) := by decide +kernel
theorem dX9_takes_187 : decode cX9_takes 187 = .ok (.return_, 1) := by decide +kernel
theorem dX9_of_0 : decode cX9_of 0 = .ok (.aload_n 0, 1) := by decide +kernel
theorem dX9_of_1 : decode cX9_of 1 = .ok (.getfield 16, 3) := by decide +kernel
theorem dX9_of_4 : decode cX9_of 4 = .ok (.iconst 4, 1) := by decide +kernel
theorem dX9_of_5 : decode cX9_of 5 = .ok (.bipush 56, 2) := by decide +kernel
theorem dX9_of_7 : decode cX9_of 7 = .ok (.iload_n 1, 1) := by decide +kernel
theorem dX9_of_8 : decode cX9_of 8 = .ok (.imul, 1) := by decide +kernel
theorem dX9_of_9 : decode cX9_of 9 = .ok (.iadd, 1) := by decide +kernel
theorem dX9_of_10 : decode cX9_of 10 = .ok (.iload_n 2, 1) := by decide +kernel
theorem dX9_of_11 : decode cX9_of 11 = .ok (.iadd, 1) := by decide +kernel
theorem dX9_of_12 : decode cX9_of 12 = .ok (.iaload, 1) := by decide +kernel
theorem dX9_of_13 : decode cX9_of 13 = .ok (.ireturn, 1) := by decide +kernel
theorem dX9_lays_0 : decode cX9_lays 0 = .ok (.aload_n 0, 1) := by decide +kernel
theorem dX9_lays_1 : decode cX9_lays 1 = .ok (.getfield 16, 3) := by decide +kernel
theorem dX9_lays_4 : decode cX9_lays 4 = .ok (.iconst 4, 1) := by decide +kernel
theorem dX9_lays_5 : decode cX9_lays 5 = .ok (.bipush 56, 2) := by decide +kernel
theorem dX9_lays_7 : decode cX9_lays 7 = .ok (.iload_n 1, 1) := by decide +kernel
theorem dX9_lays_8 : decode cX9_lays 8 = .ok (.imul, 1) := by decide +kernel
theorem dX9_lays_9 : decode cX9_lays 9 = .ok (.iadd, 1) := by decide +kernel
theorem dX9_lays_10 : decode cX9_lays 10 = .ok (.iload_n 2, 1) := by decide +kernel
theorem dX9_lays_11 : decode cX9_lays 11 = .ok (.iadd, 1) := by decide +kernel
theorem dX9_lays_12 : decode cX9_lays 12 = .ok (.iload_n 3, 1) := by decide +kernel
theorem dX9_lays_13 : decode cX9_lays 13 = .ok (.iastore, 1) := by decide +kernel
theorem dX9_lays_14 : decode cX9_lays 14 = .ok (.return_, 1) := by decide +kernel
theorem dX9_its_0 : decode cX9_its 0 = .ok (.aload_n 0, 1) := by decide +kernel
theorem dX9_its_1 : decode cX9_its 1 = .ok (.getfield 16, 3) := by decide +kernel
theorem dX9_its_4 : decode cX9_its 4 = .ok (.iconst 4, 1) := by decide +kernel
theorem dX9_its_5 : decode cX9_its 5 = .ok (.bipush 56, 2) := by decide +kernel
theorem dX9_its_7 : decode cX9_its 7 = .ok (.iload_n 1, 1) := by decide +kernel
theorem dX9_its_8 : decode cX9_its 8 = .ok (.imul, 1) := by decide +kernel
theorem dX9_its_9 : decode cX9_its 9 = .ok (.iadd, 1) := by decide +kernel
theorem dX9_its_10 : decode cX9_its 10 = .ok (.bipush 8, 2) := by decide +kernel
theorem dX9_its_12 : decode cX9_its 12 = .ok (.iadd, 1) := by decide +kernel
theorem dX9_its_13 : decode cX9_its 13 = .ok (.iconst 4, 1) := by decide +kernel
theorem dX9_its_14 : decode cX9_its 14 = .ok (.iload_n 2, 1) := by decide +kernel
theorem dX9_its_15 : decode cX9_its 15 = .ok (.imul, 1) := by decide +kernel
theorem dX9_its_16 : decode cX9_its 16 = .ok (.iadd, 1) := by decide +kernel
theorem dX9_its_17 : decode cX9_its 17 = .ok (.iload_n 3, 1) := by decide +kernel
theorem dX9_its_18 : decode cX9_its 18 = .ok (.iadd, 1) := by decide +kernel
theorem dX9_its_19 : decode cX9_its 19 = .ok (.iaload, 1) := by decide +kernel
theorem dX9_its_20 : decode cX9_its 20 = .ok (.ireturn, 1) := by decide +kernel
theorem dX9_cassettes_0 : decode cX9_cassettes 0 = .ok (.aload_n 0, 1) := by decide +kernel
theorem dX9_cassettes_1 : decode cX9_cassettes 1 = .ok (.getfield 16, 3) := by decide +kernel
theorem dX9_cassettes_4 : decode cX9_cassettes 4 = .ok (.iconst 4, 1) := by decide +kernel
theorem dX9_cassettes_5 : decode cX9_cassettes 5 = .ok (.bipush 56, 2) := by decide +kernel
theorem dX9_cassettes_7 : decode cX9_cassettes 7 = .ok (.iload_n 1, 1) := by decide +kernel
theorem dX9_cassettes_8 : decode cX9_cassettes 8 = .ok (.imul, 1) := by decide +kernel
theorem dX9_cassettes_9 : decode cX9_cassettes 9 = .ok (.iadd, 1) := by decide +kernel
theorem dX9_cassettes_10 : decode cX9_cassettes 10 = .ok (.bipush 8, 2) := by decide +kernel
theorem dX9_cassettes_12 : decode cX9_cassettes 12 = .ok (.iadd, 1) := by decide +kernel
theorem dX9_cassettes_13 : decode cX9_cassettes 13 = .ok (.iconst 4, 1) := by decide +kernel
theorem dX9_cassettes_14 : decode cX9_cassettes 14 = .ok (.iload_n 2, 1) := by decide +kernel
theorem dX9_cassettes_15 : decode cX9_cassettes 15 = .ok (.imul, 1) := by decide +kernel
theorem dX9_cassettes_16 : decode cX9_cassettes 16 = .ok (.iadd, 1) := by decide +kernel
theorem dX9_cassettes_17 : decode cX9_cassettes 17 = .ok (.iload_n 3, 1) := by decide +kernel
theorem dX9_cassettes_18 : decode cX9_cassettes 18 = .ok (.iadd, 1) := by decide +kernel
theorem dX9_cassettes_19 : decode cX9_cassettes 19 = .ok (.iload 4, 2) := by decide +kernel
theorem dX9_cassettes_21 : decode cX9_cassettes 21 = .ok (.iastore, 1) := by decide +kernel
theorem dX9_cassettes_22 : decode cX9_cassettes 22 = .ok (.return_, 1) := by decide +kernel
theorem dX9_counts_0 : decode cX9_counts 0 = .ok (.aload_n 0, 1) := by decide +kernel
theorem dX9_counts_1 : decode cX9_counts 1 = .ok (.getfield 28, 3) := by decide +kernel
theorem dX9_counts_4 : decode cX9_counts 4 = .ok (.iconst 5, 1) := by decide +kernel
theorem dX9_counts_5 : decode cX9_counts 5 = .ok (.iload_n 1, 1) := by decide +kernel
theorem dX9_counts_6 : decode cX9_counts 6 = .ok (.imul, 1) := by decide +kernel
theorem dX9_counts_7 : decode cX9_counts 7 = .ok (.iload_n 2, 1) := by decide +kernel
theorem dX9_counts_8 : decode cX9_counts 8 = .ok (.iadd, 1) := by decide +kernel
theorem dX9_counts_9 : decode cX9_counts 9 = .ok (.dup2, 1) := by decide +kernel
theorem dX9_counts_10 : decode cX9_counts 10 = .ok (.laload, 1) := by decide +kernel
theorem dX9_counts_11 : decode cX9_counts 11 = .ok (.lload_n 3, 1) := by decide +kernel
theorem dX9_counts_12 : decode cX9_counts 12 = .ok (.ladd, 1) := by decide +kernel
theorem dX9_counts_13 : decode cX9_counts 13 = .ok (.lastore, 1) := by decide +kernel
theorem dX9_counts_14 : decode cX9_counts 14 = .ok (.return_, 1) := by decide +kernel
theorem dX9_append_0 : decode cX9_append 0 = .ok (.aload_n 0, 1) := by decide +kernel
theorem dX9_append_1 : decode cX9_append 1 = .ok (.iconst 0, 1) := by decide +kernel
theorem dX9_append_2 : decode cX9_append 2 = .ok (.putfield 61, 3) := by decide +kernel
theorem dX9_append_5 : decode cX9_append 5 = .ok (.aload_n 0, 1) := by decide +kernel
theorem dX9_append_6 : decode cX9_append 6 = .ok (.aload_n 0, 1) := by decide +kernel
theorem dX9_append_7 : decode cX9_append 7 = .ok (.getfield 87, 3) := by decide +kernel
theorem dX9_append_10 : decode cX9_append 10 = .ok (.bipush 20, 2) := by decide +kernel
theorem dX9_append_12 : decode cX9_append 12 = .ok (.iadd, 1) := by decide +kernel
theorem dX9_append_13 : decode cX9_append 13 = .ok (.sipush 900, 3) := by decide +kernel
theorem dX9_append_16 : decode cX9_append 16 = .ok (.if_icmp .gt 7, 3) := by decide +kernel
theorem dX9_append_19 : decode cX9_append 19 = .ok (.iconst 1, 1) := by decide +kernel
theorem dX9_append_20 : decode cX9_append 20 = .ok (.goto 4, 3) := by decide +kernel
theorem dX9_append_23 : decode cX9_append 23 = .ok (.iconst 0, 1) := by decide +kernel
theorem dX9_append_24 : decode cX9_append 24 = .ok (.iconst 1, 1) := by decide +kernel
theorem dX9_append_25 : decode cX9_append 25 = .ok (.invokevirtual 90, 3) := by decide +kernel
theorem dX9_append_28 : decode cX9_append 28 = .ok (.ifCond .ne 5, 3) := by decide +kernel
theorem dX9_append_31 : decode cX9_append 31 = .ok (.iconst 0, 1) := by decide +kernel
theorem dX9_append_32 : decode cX9_append 32 = .ok (.ireturn, 1) := by decide +kernel
theorem dX9_append_33 : decode cX9_append 33 = .ok (.iconst 0, 1) := by decide +kernel
theorem dX9_append_34 : decode cX9_append 34 = .ok (.istore 6, 2) := by decide +kernel
theorem dX9_append_36 : decode cX9_append 36 = .ok (.iload 6, 2) := by decide +kernel
theorem dX9_append_38 : decode cX9_append 38 = .ok (.bipush 20, 2) := by decide +kernel
theorem dX9_append_40 : decode cX9_append 40 = .ok (.if_icmp .ge 86, 3) := by decide +kernel
theorem dX9_append_43 : decode cX9_append 43 = .ok (.iload 6, 2) := by decide +kernel
theorem dX9_append_45 : decode cX9_append 45 = .ok (.iconst 4, 1) := by decide +kernel
theorem dX9_append_46 : decode cX9_append 46 = .ok (.if_icmp .ge 7, 3) := by decide +kernel
theorem dX9_append_49 : decode cX9_append 49 = .ok (.iload_n 1, 1) := by decide +kernel
theorem dX9_append_50 : decode cX9_append 50 = .ok (.goto 39, 3) := by decide +kernel
theorem dX9_append_53 : decode cX9_append 53 = .ok (.iload 6, 2) := by decide +kernel
theorem dX9_append_55 : decode cX9_append 55 = .ok (.bipush 8, 2) := by decide +kernel
theorem dX9_append_57 : decode cX9_append 57 = .ok (.if_icmp .ge 7, 3) := by decide +kernel
theorem dX9_append_60 : decode cX9_append 60 = .ok (.iload_n 2, 1) := by decide +kernel
theorem dX9_append_61 : decode cX9_append 61 = .ok (.goto 28, 3) := by decide +kernel
theorem dX9_append_64 : decode cX9_append 64 = .ok (.iload 6, 2) := by decide +kernel
theorem dX9_append_66 : decode cX9_append 66 = .ok (.bipush 12, 2) := by decide +kernel
theorem dX9_append_68 : decode cX9_append 68 = .ok (.if_icmp .ge 7, 3) := by decide +kernel
theorem dX9_append_71 : decode cX9_append 71 = .ok (.iload_n 3, 1) := by decide +kernel
theorem dX9_append_72 : decode cX9_append 72 = .ok (.goto 17, 3) := by decide +kernel
theorem dX9_append_75 : decode cX9_append 75 = .ok (.iload 6, 2) := by decide +kernel
theorem dX9_append_77 : decode cX9_append 77 = .ok (.bipush 16, 2) := by decide +kernel
theorem dX9_append_79 : decode cX9_append 79 = .ok (.if_icmp .ge 8, 3) := by decide +kernel
theorem dX9_append_82 : decode cX9_append 82 = .ok (.iload 4, 2) := by decide +kernel
theorem dX9_append_84 : decode cX9_append 84 = .ok (.goto 5, 3) := by decide +kernel
theorem dX9_append_87 : decode cX9_append 87 = .ok (.iload 5, 2) := by decide +kernel
theorem dX9_append_89 : decode cX9_append 89 = .ok (.istore 7, 2) := by decide +kernel
theorem dX9_append_91 : decode cX9_append 91 = .ok (.aload_n 0, 1) := by decide +kernel
theorem dX9_append_92 : decode cX9_append 92 = .ok (.getfield 42, 3) := by decide +kernel
theorem dX9_append_95 : decode cX9_append 95 = .ok (.aload_n 0, 1) := by decide +kernel
theorem dX9_append_96 : decode cX9_append 96 = .ok (.getfield 87, 3) := by decide +kernel
theorem dX9_append_99 : decode cX9_append 99 = .ok (.iload 6, 2) := by decide +kernel
theorem dX9_append_101 : decode cX9_append 101 = .ok (.iadd, 1) := by decide +kernel
theorem dX9_append_102 : decode cX9_append 102 = .ok (.iload 7, 2) := by decide +kernel
theorem dX9_append_104 : decode cX9_append 104 = .ok (.bipush 24, 2) := by decide +kernel
theorem dX9_append_106 : decode cX9_append 106 = .ok (.bipush 8, 2) := by decide +kernel
theorem dX9_append_108 : decode cX9_append 108 = .ok (.iload 6, 2) := by decide +kernel
theorem dX9_append_110 : decode cX9_append 110 = .ok (.iconst 4, 1) := by decide +kernel
theorem dX9_append_111 : decode cX9_append 111 = .ok (.irem, 1) := by decide +kernel
theorem dX9_append_112 : decode cX9_append 112 = .ok (.imul, 1) := by decide +kernel
theorem dX9_append_113 : decode cX9_append 113 = .ok (.isub, 1) := by decide +kernel
theorem dX9_append_114 : decode cX9_append 114 = .ok (.ishr, 1) := by decide +kernel
theorem dX9_append_115 : decode cX9_append 115 = .ok (.sipush 255, 3) := by decide +kernel
theorem dX9_append_118 : decode cX9_append 118 = .ok (.iand, 1) := by decide +kernel
theorem dX9_append_119 : decode cX9_append 119 = .ok (.iastore, 1) := by decide +kernel
theorem dX9_append_120 : decode cX9_append 120 = .ok (.iinc 6 1, 3) := by decide +kernel
theorem dX9_append_123 : decode cX9_append 123 = .ok (.goto (-87), 3) := by decide +kernel
theorem dX9_append_126 : decode cX9_append 126 = .ok (.aload_n 0, 1) := by decide +kernel
theorem dX9_append_127 : decode cX9_append 127 = .ok (.dup, 1) := by decide +kernel
theorem dX9_append_128 : decode cX9_append 128 = .ok (.getfield 87, 3) := by decide +kernel
theorem dX9_append_131 : decode cX9_append 131 = .ok (.bipush 20, 2) := by decide +kernel
theorem dX9_append_133 : decode cX9_append 133 = .ok (.iadd, 1) := by decide +kernel
theorem dX9_append_134 : decode cX9_append 134 = .ok (.putfield 87, 3) := by decide +kernel
theorem dX9_append_137 : decode cX9_append 137 = .ok (.aload_n 0, 1) := by decide +kernel
theorem dX9_append_138 : decode cX9_append 138 = .ok (.getfield 87, 3) := by decide +kernel
theorem dX9_append_141 : decode cX9_append 141 = .ok (.ireturn, 1) := by decide +kernel
theorem dX9_truncate_0 : decode cX9_truncate 0 = .ok (.aload_n 0, 1) := by decide +kernel
theorem dX9_truncate_1 : decode cX9_truncate 1 = .ok (.iconst 0, 1) := by decide +kernel
theorem dX9_truncate_2 : decode cX9_truncate 2 = .ok (.putfield 61, 3) := by decide +kernel
theorem dX9_truncate_5 : decode cX9_truncate 5 = .ok (.aload_n 0, 1) := by decide +kernel
theorem dX9_truncate_6 : decode cX9_truncate 6 = .ok (.iload_n 1, 1) := by decide +kernel
theorem dX9_truncate_7 : decode cX9_truncate 7 = .ok (.iconst 0, 1) := by decide +kernel
theorem dX9_truncate_8 : decode cX9_truncate 8 = .ok (.aload_n 0, 1) := by decide +kernel
theorem dX9_truncate_9 : decode cX9_truncate 9 = .ok (.getfield 87, 3) := by decide +kernel
theorem dX9_truncate_12 : decode cX9_truncate 12 = .ok (.invokestatic 94, 3) := by decide +kernel
theorem dX9_truncate_15 : decode cX9_truncate 15 = .ok (.iconst 1, 1) := by decide +kernel
theorem dX9_truncate_16 : decode cX9_truncate 16 = .ok (.invokevirtual 90, 3) := by decide +kernel
theorem dX9_truncate_19 : decode cX9_truncate 19 = .ok (.ifCond .ne 5, 3) := by decide +kernel
theorem dX9_truncate_22 : decode cX9_truncate 22 = .ok (.iconst 0, 1) := by decide +kernel
theorem dX9_truncate_23 : decode cX9_truncate 23 = .ok (.ireturn, 1) := by decide +kernel
theorem dX9_truncate_24 : decode cX9_truncate 24 = .ok (.aload_n 0, 1) := by decide +kernel
theorem dX9_truncate_25 : decode cX9_truncate 25 = .ok (.iload_n 1, 1) := by decide +kernel
theorem dX9_truncate_26 : decode cX9_truncate 26 = .ok (.putfield 87, 3) := by decide +kernel
theorem dX9_truncate_29 : decode cX9_truncate 29 = .ok (.iload_n 1, 1) := by decide +kernel
theorem dX9_truncate_30 : decode cX9_truncate 30 = .ok (.ireturn, 1) := by decide +kernel
theorem dX9_at_0 : decode cX9_at 0 = .ok (.iload_n 1, 1) := by decide +kernel
theorem dX9_at_1 : decode cX9_at 1 = .ok (.aload_n 0, 1) := by decide +kernel
theorem dX9_at_2 : decode cX9_at 2 = .ok (.getfield 98, 3) := by decide +kernel
theorem dX9_at_5 : decode cX9_at 5 = .ok (.if_icmp .ge 12, 3) := by decide +kernel
theorem dX9_at_8 : decode cX9_at 8 = .ok (.aload_n 0, 1) := by decide +kernel
theorem dX9_at_9 : decode cX9_at 9 = .ok (.getfield 42, 3) := by decide +kernel
theorem dX9_at_12 : decode cX9_at 12 = .ok (.iload_n 1, 1) := by decide +kernel
theorem dX9_at_13 : decode cX9_at 13 = .ok (.iaload, 1) := by decide +kernel
theorem dX9_at_14 : decode cX9_at 14 = .ok (.goto 4, 3) := by decide +kernel
theorem dX9_at_17 : decode cX9_at 17 = .ok (.iconst (-1), 1) := by decide +kernel
theorem dX9_at_18 : decode cX9_at 18 = .ok (.ireturn, 1) := by decide +kernel
theorem dX9_isLetter_0 : decode cX9_isLetter 0 = .ok (.iload_n 0, 1) := by decide +kernel
theorem dX9_isLetter_1 : decode cX9_isLetter 1 = .ok (.bipush 97, 2) := by decide +kernel
theorem dX9_isLetter_3 : decode cX9_isLetter 3 = .ok (.if_icmp .lt 13, 3) := by decide +kernel
theorem dX9_isLetter_6 : decode cX9_isLetter 6 = .ok (.iload_n 0, 1) := by decide +kernel
theorem dX9_isLetter_7 : decode cX9_isLetter 7 = .ok (.bipush 122, 2) := by decide +kernel
theorem dX9_isLetter_9 : decode cX9_isLetter 9 = .ok (.if_icmp .gt 7, 3) := by decide +kernel
theorem dX9_isLetter_12 : decode cX9_isLetter 12 = .ok (.iconst 1, 1) := by decide +kernel
theorem dX9_isLetter_13 : decode cX9_isLetter 13 = .ok (.goto 4, 3) := by decide +kernel
theorem dX9_isLetter_16 : decode cX9_isLetter 16 = .ok (.iconst 0, 1) := by decide +kernel
theorem dX9_isLetter_17 : decode cX9_isLetter 17 = .ok (.ireturn, 1) := by decide +kernel
theorem dX9_isDigit_0 : decode cX9_isDigit 0 = .ok (.iload_n 0, 1) := by decide +kernel
theorem dX9_isDigit_1 : decode cX9_isDigit 1 = .ok (.bipush 48, 2) := by decide +kernel
theorem dX9_isDigit_3 : decode cX9_isDigit 3 = .ok (.if_icmp .lt 13, 3) := by decide +kernel
theorem dX9_isDigit_6 : decode cX9_isDigit 6 = .ok (.iload_n 0, 1) := by decide +kernel
theorem dX9_isDigit_7 : decode cX9_isDigit 7 = .ok (.bipush 57, 2) := by decide +kernel
theorem dX9_isDigit_9 : decode cX9_isDigit 9 = .ok (.if_icmp .gt 7, 3) := by decide +kernel
theorem dX9_isDigit_12 : decode cX9_isDigit 12 = .ok (.iconst 1, 1) := by decide +kernel
theorem dX9_isDigit_13 : decode cX9_isDigit 13 = .ok (.goto 4, 3) := by decide +kernel
theorem dX9_isDigit_16 : decode cX9_isDigit 16 = .ok (.iconst 0, 1) := by decide +kernel
theorem dX9_isDigit_17 : decode cX9_isDigit 17 = .ok (.ireturn, 1) := by decide +kernel
theorem dX9_token_0 : decode cX9_token 0 = .ok (.aload_n 0, 1) := by decide +kernel
theorem dX9_token_1 : decode cX9_token 1 = .ok (.aload_n 0, 1) := by decide +kernel
theorem dX9_token_2 : decode cX9_token 2 = .ok (.getfield 101, 3) := by decide +kernel
theorem dX9_token_5 : decode cX9_token 5 = .ok (.invokevirtual 104, 3) := by decide +kernel
theorem dX9_token_8 : decode cX9_token 8 = .ok (.bipush 10, 2) := by decide +kernel
theorem dX9_token_10 : decode cX9_token 10 = .ok (.if_icmp .eq 16, 3) := by decide +kernel
theorem dX9_token_13 : decode cX9_token 13 = .ok (.aload_n 0, 1) := by decide +kernel
theorem dX9_token_14 : decode cX9_token 14 = .ok (.aload_n 0, 1) := by decide +kernel
theorem dX9_token_15 : decode cX9_token 15 = .ok (.getfield 101, 3) := by decide +kernel
theorem dX9_token_18 : decode cX9_token 18 = .ok (.invokevirtual 104, 3) := by decide +kernel
theorem dX9_token_21 : decode cX9_token 21 = .ok (.bipush 32, 2) := by decide +kernel
theorem dX9_token_23 : decode cX9_token 23 = .ok (.if_icmp .ne 16, 3) := by decide +kernel
theorem dX9_token_26 : decode cX9_token 26 = .ok (.aload_n 0, 1) := by decide +kernel
theorem dX9_token_27 : decode cX9_token 27 = .ok (.dup, 1) := by decide +kernel
theorem dX9_token_28 : decode cX9_token 28 = .ok (.getfield 101, 3) := by decide +kernel
theorem dX9_token_31 : decode cX9_token 31 = .ok (.iconst 1, 1) := by decide +kernel
theorem dX9_token_32 : decode cX9_token 32 = .ok (.iadd, 1) := by decide +kernel
theorem dX9_token_33 : decode cX9_token 33 = .ok (.putfield 101, 3) := by decide +kernel
theorem dX9_token_36 : decode cX9_token 36 = .ok (.goto (-36), 3) := by decide +kernel
theorem dX9_token_39 : decode cX9_token 39 = .ok (.aload_n 0, 1) := by decide +kernel
theorem dX9_token_40 : decode cX9_token 40 = .ok (.aload_n 0, 1) := by decide +kernel
theorem dX9_token_41 : decode cX9_token 41 = .ok (.getfield 101, 3) := by decide +kernel
theorem dX9_token_44 : decode cX9_token 44 = .ok (.putfield 108, 3) := by decide +kernel
theorem dX9_token_47 : decode cX9_token 47 = .ok (.aload_n 0, 1) := by decide +kernel
theorem dX9_token_48 : decode cX9_token 48 = .ok (.aload_n 0, 1) := by decide +kernel
theorem dX9_token_49 : decode cX9_token 49 = .ok (.getfield 101, 3) := by decide +kernel
theorem dX9_token_52 : decode cX9_token 52 = .ok (.invokevirtual 104, 3) := by decide +kernel
theorem dX9_token_55 : decode cX9_token 55 = .ok (.istore_n 1, 1) := by decide +kernel
theorem dX9_token_56 : decode cX9_token 56 = .ok (.iload_n 1, 1) := by decide +kernel
theorem dX9_token_57 : decode cX9_token 57 = .ok (.iconst (-1), 1) := by decide +kernel
theorem dX9_token_58 : decode cX9_token 58 = .ok (.if_icmp .ne 11, 3) := by decide +kernel
theorem dX9_token_61 : decode cX9_token 61 = .ok (.aload_n 0, 1) := by decide +kernel
theorem dX9_token_62 : decode cX9_token 62 = .ok (.iconst 0, 1) := by decide +kernel
theorem dX9_token_63 : decode cX9_token 63 = .ok (.putfield 111, 3) := by decide +kernel
theorem dX9_token_66 : decode cX9_token 66 = .ok (.goto 215, 3) := by decide +kernel
theorem dX9_token_69 : decode cX9_token 69 = .ok (.iload_n 1, 1) := by decide +kernel
theorem dX9_token_70 : decode cX9_token 70 = .ok (.invokestatic 114, 3) := by decide +kernel
theorem dX9_token_73 : decode cX9_token 73 = .ok (.ifCond .eq 83, 3) := by decide +kernel
theorem dX9_token_76 : decode cX9_token 76 = .ok (.aload_n 0, 1) := by decide +kernel
theorem dX9_token_77 : decode cX9_token 77 = .ok (.lconst 0, 1) := by decide +kernel
theorem dX9_token_78 : decode cX9_token 78 = .ok (.putfield 118, 3) := by decide +kernel
theorem dX9_token_81 : decode cX9_token 81 = .ok (.aload_n 0, 1) := by decide +kernel
theorem dX9_token_82 : decode cX9_token 82 = .ok (.aload_n 0, 1) := by decide +kernel
theorem dX9_token_83 : decode cX9_token 83 = .ok (.getfield 101, 3) := by decide +kernel
theorem dX9_token_86 : decode cX9_token 86 = .ok (.invokevirtual 104, 3) := by decide +kernel
theorem dX9_token_89 : decode cX9_token 89 = .ok (.invokestatic 114, 3) := by decide +kernel
theorem dX9_token_92 : decode cX9_token 92 = .ok (.ifCond .eq 56, 3) := by decide +kernel
theorem dX9_token_95 : decode cX9_token 95 = .ok (.aload_n 0, 1) := by decide +kernel
theorem dX9_token_96 : decode cX9_token 96 = .ok (.getfield 101, 3) := by decide +kernel
theorem dX9_token_99 : decode cX9_token 99 = .ok (.aload_n 0, 1) := by decide +kernel
theorem dX9_token_100 : decode cX9_token 100 = .ok (.getfield 108, 3) := by decide +kernel
theorem dX9_token_103 : decode cX9_token 103 = .ok (.isub, 1) := by decide +kernel
theorem dX9_token_104 : decode cX9_token 104 = .ok (.bipush 8, 2) := by decide +kernel
theorem dX9_token_106 : decode cX9_token 106 = .ok (.if_icmp .ge 29, 3) := by decide +kernel
theorem dX9_token_109 : decode cX9_token 109 = .ok (.aload_n 0, 1) := by decide +kernel
theorem dX9_token_110 : decode cX9_token 110 = .ok (.ldc2_w 122, 3) := by decide +kernel
theorem dX9_token_113 : decode cX9_token 113 = .ok (.aload_n 0, 1) := by decide +kernel
theorem dX9_token_114 : decode cX9_token 114 = .ok (.getfield 118, 3) := by decide +kernel
theorem dX9_token_117 : decode cX9_token 117 = .ok (.lmul, 1) := by decide +kernel
theorem dX9_token_118 : decode cX9_token 118 = .ok (.aload_n 0, 1) := by decide +kernel
theorem dX9_token_119 : decode cX9_token 119 = .ok (.aload_n 0, 1) := by decide +kernel
theorem dX9_token_120 : decode cX9_token 120 = .ok (.getfield 101, 3) := by decide +kernel
theorem dX9_token_123 : decode cX9_token 123 = .ok (.invokevirtual 104, 3) := by decide +kernel
theorem dX9_token_126 : decode cX9_token 126 = .ok (.i2l, 1) := by decide +kernel
theorem dX9_token_127 : decode cX9_token 127 = .ok (.ladd, 1) := by decide +kernel
theorem dX9_token_128 : decode cX9_token 128 = .ok (.ldc2_w 124, 3) := by decide +kernel
theorem dX9_token_131 : decode cX9_token 131 = .ok (.lsub, 1) := by decide +kernel
theorem dX9_token_132 : decode cX9_token 132 = .ok (.putfield 118, 3) := by decide +kernel
theorem dX9_token_135 : decode cX9_token 135 = .ok (.aload_n 0, 1) := by decide +kernel
theorem dX9_token_136 : decode cX9_token 136 = .ok (.dup, 1) := by decide +kernel
theorem dX9_token_137 : decode cX9_token 137 = .ok (.getfield 101, 3) := by decide +kernel
theorem dX9_token_140 : decode cX9_token 140 = .ok (.iconst 1, 1) := by decide +kernel
theorem dX9_token_141 : decode cX9_token 141 = .ok (.iadd, 1) := by decide +kernel
theorem dX9_token_142 : decode cX9_token 142 = .ok (.putfield 101, 3) := by decide +kernel
theorem dX9_token_145 : decode cX9_token 145 = .ok (.goto (-64), 3) := by decide +kernel
theorem dX9_token_148 : decode cX9_token 148 = .ok (.aload_n 0, 1) := by decide +kernel
theorem dX9_token_149 : decode cX9_token 149 = .ok (.iconst 1, 1) := by decide +kernel
theorem dX9_token_150 : decode cX9_token 150 = .ok (.putfield 111, 3) := by decide +kernel
theorem dX9_token_153 : decode cX9_token 153 = .ok (.goto 128, 3) := by decide +kernel
theorem dX9_token_156 : decode cX9_token 156 = .ok (.iload_n 1, 1) := by decide +kernel
theorem dX9_token_157 : decode cX9_token 157 = .ok (.invokestatic 126, 3) := by decide +kernel
theorem dX9_token_160 : decode cX9_token 160 = .ok (.ifCond .eq 96, 3) := by decide +kernel
theorem dX9_token_163 : decode cX9_token 163 = .ok (.aload_n 0, 1) := by decide +kernel
theorem dX9_token_164 : decode cX9_token 164 = .ok (.iconst 0, 1) := by decide +kernel
theorem dX9_token_165 : decode cX9_token 165 = .ok (.putfield 129, 3) := by decide +kernel
theorem dX9_token_168 : decode cX9_token 168 = .ok (.aload_n 0, 1) := by decide +kernel
theorem dX9_token_169 : decode cX9_token 169 = .ok (.aload_n 0, 1) := by decide +kernel
theorem dX9_token_170 : decode cX9_token 170 = .ok (.getfield 101, 3) := by decide +kernel
theorem dX9_token_173 : decode cX9_token 173 = .ok (.invokevirtual 104, 3) := by decide +kernel
theorem dX9_token_176 : decode cX9_token 176 = .ok (.invokestatic 126, 3) := by decide +kernel
theorem dX9_token_179 : decode cX9_token 179 = .ok (.ifCond .eq 52, 3) := by decide +kernel
theorem dX9_token_182 : decode cX9_token 182 = .ok (.aload_n 0, 1) := by decide +kernel
theorem dX9_token_183 : decode cX9_token 183 = .ok (.getfield 101, 3) := by decide +kernel
theorem dX9_token_186 : decode cX9_token 186 = .ok (.aload_n 0, 1) := by decide +kernel
theorem dX9_token_187 : decode cX9_token 187 = .ok (.getfield 108, 3) := by decide +kernel
theorem dX9_token_190 : decode cX9_token 190 = .ok (.isub, 1) := by decide +kernel
theorem dX9_token_191 : decode cX9_token 191 = .ok (.iconst 4, 1) := by decide +kernel
theorem dX9_token_192 : decode cX9_token 192 = .ok (.if_icmp .ge 26, 3) := by decide +kernel
theorem dX9_token_195 : decode cX9_token 195 = .ok (.aload_n 0, 1) := by decide +kernel
theorem dX9_token_196 : decode cX9_token 196 = .ok (.bipush 10, 2) := by decide +kernel
theorem dX9_token_198 : decode cX9_token 198 = .ok (.aload_n 0, 1) := by decide +kernel
theorem dX9_token_199 : decode cX9_token 199 = .ok (.getfield 129, 3) := by decide +kernel
theorem dX9_token_202 : decode cX9_token 202 = .ok (.imul, 1) := by decide +kernel
theorem dX9_token_203 : decode cX9_token 203 = .ok (.aload_n 0, 1) := by decide +kernel
theorem dX9_token_204 : decode cX9_token 204 = .ok (.aload_n 0, 1) := by decide +kernel
theorem dX9_token_205 : decode cX9_token 205 = .ok (.getfield 101, 3) := by decide +kernel
theorem dX9_token_208 : decode cX9_token 208 = .ok (.invokevirtual 104, 3) := by decide +kernel
theorem dX9_token_211 : decode cX9_token 211 = .ok (.iadd, 1) := by decide +kernel
theorem dX9_token_212 : decode cX9_token 212 = .ok (.bipush 48, 2) := by decide +kernel
theorem dX9_token_214 : decode cX9_token 214 = .ok (.isub, 1) := by decide +kernel
theorem dX9_token_215 : decode cX9_token 215 = .ok (.putfield 129, 3) := by decide +kernel
theorem dX9_token_218 : decode cX9_token 218 = .ok (.aload_n 0, 1) := by decide +kernel
theorem dX9_token_219 : decode cX9_token 219 = .ok (.dup, 1) := by decide +kernel
theorem dX9_token_220 : decode cX9_token 220 = .ok (.getfield 101, 3) := by decide +kernel
theorem dX9_token_223 : decode cX9_token 223 = .ok (.iconst 1, 1) := by decide +kernel
theorem dX9_token_224 : decode cX9_token 224 = .ok (.iadd, 1) := by decide +kernel
theorem dX9_token_225 : decode cX9_token 225 = .ok (.putfield 101, 3) := by decide +kernel
theorem dX9_token_228 : decode cX9_token 228 = .ok (.goto (-60), 3) := by decide +kernel
theorem dX9_token_231 : decode cX9_token 231 = .ok (.aload_n 0, 1) := by decide +kernel
theorem dX9_token_232 : decode cX9_token 232 = .ok (.aload_n 0, 1) := by decide +kernel
theorem dX9_token_233 : decode cX9_token 233 = .ok (.getfield 101, 3) := by decide +kernel
theorem dX9_token_236 : decode cX9_token 236 = .ok (.aload_n 0, 1) := by decide +kernel
theorem dX9_token_237 : decode cX9_token 237 = .ok (.getfield 108, 3) := by decide +kernel
theorem dX9_token_240 : decode cX9_token 240 = .ok (.isub, 1) := by decide +kernel
theorem dX9_token_241 : decode cX9_token 241 = .ok (.iconst 4, 1) := by decide +kernel
theorem dX9_token_242 : decode cX9_token 242 = .ok (.if_icmp .le 7, 3) := by decide +kernel
theorem dX9_token_245 : decode cX9_token 245 = .ok (.iconst 4, 1) := by decide +kernel
theorem dX9_token_246 : decode cX9_token 246 = .ok (.goto 4, 3) := by decide +kernel
theorem dX9_token_249 : decode cX9_token 249 = .ok (.iconst 2, 1) := by decide +kernel
theorem dX9_token_250 : decode cX9_token 250 = .ok (.putfield 111, 3) := by decide +kernel
theorem dX9_token_253 : decode cX9_token 253 = .ok (.goto 28, 3) := by decide +kernel
theorem dX9_token_256 : decode cX9_token 256 = .ok (.aload_n 0, 1) := by decide +kernel
theorem dX9_token_257 : decode cX9_token 257 = .ok (.dup, 1) := by decide +kernel
theorem dX9_token_258 : decode cX9_token 258 = .ok (.getfield 101, 3) := by decide +kernel
theorem dX9_token_261 : decode cX9_token 261 = .ok (.iconst 1, 1) := by decide +kernel
theorem dX9_token_262 : decode cX9_token 262 = .ok (.iadd, 1) := by decide +kernel
theorem dX9_token_263 : decode cX9_token 263 = .ok (.putfield 101, 3) := by decide +kernel
theorem dX9_token_266 : decode cX9_token 266 = .ok (.aload_n 0, 1) := by decide +kernel
theorem dX9_token_267 : decode cX9_token 267 = .ok (.iload_n 1, 1) := by decide +kernel
theorem dX9_token_268 : decode cX9_token 268 = .ok (.bipush 59, 2) := by decide +kernel
theorem dX9_token_270 : decode cX9_token 270 = .ok (.if_icmp .ne 7, 3) := by decide +kernel
theorem dX9_token_273 : decode cX9_token 273 = .ok (.iconst 3, 1) := by decide +kernel
theorem dX9_token_274 : decode cX9_token 274 = .ok (.goto 4, 3) := by decide +kernel
theorem dX9_token_277 : decode cX9_token 277 = .ok (.iconst 4, 1) := by decide +kernel
theorem dX9_token_278 : decode cX9_token 278 = .ok (.putfield 111, 3) := by decide +kernel
theorem dX9_token_281 : decode cX9_token 281 = .ok (.return_, 1) := by decide +kernel
theorem dX9_isWrong_0 : decode cX9_isWrong 0 = .ok (.aload_n 0, 1) := by decide +kernel
theorem dX9_isWrong_1 : decode cX9_isWrong 1 = .ok (.getfield 132, 3) := by decide +kernel
theorem dX9_isWrong_4 : decode cX9_isWrong 4 = .ok (.ifCond .eq 7, 3) := by decide +kernel
theorem dX9_isWrong_7 : decode cX9_isWrong 7 = .ok (.iconst 1, 1) := by decide +kernel
theorem dX9_isWrong_8 : decode cX9_isWrong 8 = .ok (.goto 4, 3) := by decide +kernel
theorem dX9_isWrong_11 : decode cX9_isWrong 11 = .ok (.iconst 0, 1) := by decide +kernel
theorem dX9_isWrong_12 : decode cX9_isWrong 12 = .ok (.ireturn, 1) := by decide +kernel
theorem dX9_fails_0 : decode cX9_fails 0 = .ok (.aload_n 0, 1) := by decide +kernel
theorem dX9_fails_1 : decode cX9_fails 1 = .ok (.invokevirtual 135, 3) := by decide +kernel
theorem dX9_fails_4 : decode cX9_fails 4 = .ok (.ifCond .eq 4, 3) := by decide +kernel
theorem dX9_fails_7 : decode cX9_fails 7 = .ok (.return_, 1) := by decide +kernel
theorem dX9_fails_8 : decode cX9_fails 8 = .ok (.aload_n 0, 1) := by decide +kernel
theorem dX9_fails_9 : decode cX9_fails 9 = .ok (.iload_n 1, 1) := by decide +kernel
theorem dX9_fails_10 : decode cX9_fails 10 = .ok (.putfield 132, 3) := by decide +kernel
theorem dX9_fails_13 : decode cX9_fails 13 = .ok (.aload_n 0, 1) := by decide +kernel
theorem dX9_fails_14 : decode cX9_fails 14 = .ok (.aload_n 0, 1) := by decide +kernel
theorem dX9_fails_15 : decode cX9_fails 15 = .ok (.getfield 108, 3) := by decide +kernel
theorem dX9_fails_18 : decode cX9_fails 18 = .ok (.putfield 45, 3) := by decide +kernel
theorem dX9_fails_21 : decode cX9_fails 21 = .ok (.return_, 1) := by decide +kernel
theorem dX9_isWord_0 : decode cX9_isWord 0 = .ok (.aload_n 0, 1) := by decide +kernel
theorem dX9_isWord_1 : decode cX9_isWord 1 = .ok (.invokevirtual 135, 3) := by decide +kernel
theorem dX9_isWord_4 : decode cX9_isWord 4 = .ok (.ifCond .ne 27, 3) := by decide +kernel
theorem dX9_isWord_7 : decode cX9_isWord 7 = .ok (.aload_n 0, 1) := by decide +kernel
theorem dX9_isWord_8 : decode cX9_isWord 8 = .ok (.getfield 111, 3) := by decide +kernel
theorem dX9_isWord_11 : decode cX9_isWord 11 = .ok (.iconst 1, 1) := by decide +kernel
theorem dX9_isWord_12 : decode cX9_isWord 12 = .ok (.if_icmp .ne 19, 3) := by decide +kernel
theorem dX9_isWord_15 : decode cX9_isWord 15 = .ok (.aload_n 0, 1) := by decide +kernel
theorem dX9_isWord_16 : decode cX9_isWord 16 = .ok (.getfield 101, 3) := by decide +kernel
theorem dX9_isWord_19 : decode cX9_isWord 19 = .ok (.aload_n 0, 1) := by decide +kernel
theorem dX9_isWord_20 : decode cX9_isWord 20 = .ok (.getfield 108, 3) := by decide +kernel
theorem dX9_isWord_23 : decode cX9_isWord 23 = .ok (.isub, 1) := by decide +kernel
theorem dX9_isWord_24 : decode cX9_isWord 24 = .ok (.aload_n 1, 1) := by decide +kernel
theorem dX9_isWord_25 : decode cX9_isWord 25 = .ok (.invokevirtual 139, 3) := by decide +kernel
theorem dX9_isWord_28 : decode cX9_isWord 28 = .ok (.if_icmp .eq 5, 3) := by decide +kernel
theorem dX9_isWord_31 : decode cX9_isWord 31 = .ok (.iconst 0, 1) := by decide +kernel
theorem dX9_isWord_32 : decode cX9_isWord 32 = .ok (.ireturn, 1) := by decide +kernel
theorem dX9_isWord_33 : decode cX9_isWord 33 = .ok (.iconst 0, 1) := by decide +kernel
theorem dX9_isWord_34 : decode cX9_isWord 34 = .ok (.istore_n 2, 1) := by decide +kernel
theorem dX9_isWord_35 : decode cX9_isWord 35 = .ok (.iload_n 2, 1) := by decide +kernel
theorem dX9_isWord_36 : decode cX9_isWord 36 = .ok (.aload_n 1, 1) := by decide +kernel
theorem dX9_isWord_37 : decode cX9_isWord 37 = .ok (.invokevirtual 139, 3) := by decide +kernel
theorem dX9_isWord_40 : decode cX9_isWord 40 = .ok (.if_icmp .ge 29, 3) := by decide +kernel
theorem dX9_isWord_43 : decode cX9_isWord 43 = .ok (.aload_n 0, 1) := by decide +kernel
theorem dX9_isWord_44 : decode cX9_isWord 44 = .ok (.aload_n 0, 1) := by decide +kernel
theorem dX9_isWord_45 : decode cX9_isWord 45 = .ok (.getfield 108, 3) := by decide +kernel
theorem dX9_isWord_48 : decode cX9_isWord 48 = .ok (.iload_n 2, 1) := by decide +kernel
theorem dX9_isWord_49 : decode cX9_isWord 49 = .ok (.iadd, 1) := by decide +kernel
theorem dX9_isWord_50 : decode cX9_isWord 50 = .ok (.invokevirtual 104, 3) := by decide +kernel
theorem dX9_isWord_53 : decode cX9_isWord 53 = .ok (.aload_n 1, 1) := by decide +kernel
theorem dX9_isWord_54 : decode cX9_isWord 54 = .ok (.iload_n 2, 1) := by decide +kernel
theorem dX9_isWord_55 : decode cX9_isWord 55 = .ok (.invokevirtual 145, 3) := by decide +kernel
theorem dX9_isWord_58 : decode cX9_isWord 58 = .ok (.if_icmp .eq 5, 3) := by decide +kernel
theorem dX9_isWord_61 : decode cX9_isWord 61 = .ok (.iconst 0, 1) := by decide +kernel
theorem dX9_isWord_62 : decode cX9_isWord 62 = .ok (.ireturn, 1) := by decide +kernel
theorem dX9_isWord_63 : decode cX9_isWord 63 = .ok (.iinc 2 1, 3) := by decide +kernel
theorem dX9_isWord_66 : decode cX9_isWord 66 = .ok (.goto (-31), 3) := by decide +kernel
theorem dX9_isWord_69 : decode cX9_isWord 69 = .ok (.iconst 1, 1) := by decide +kernel
theorem dX9_isWord_70 : decode cX9_isWord 70 = .ok (.ireturn, 1) := by decide +kernel
theorem dX9_takesWord_0 : decode cX9_takesWord 0 = .ok (.aload_n 0, 1) := by decide +kernel
theorem dX9_takesWord_1 : decode cX9_takesWord 1 = .ok (.aload_n 1, 1) := by decide +kernel
theorem dX9_takesWord_2 : decode cX9_takesWord 2 = .ok (.invokevirtual 149, 3) := by decide +kernel
theorem dX9_takesWord_5 : decode cX9_takesWord 5 = .ok (.istore_n 2, 1) := by decide +kernel
theorem dX9_takesWord_6 : decode cX9_takesWord 6 = .ok (.iload_n 2, 1) := by decide +kernel
theorem dX9_takesWord_7 : decode cX9_takesWord 7 = .ok (.ifCond .eq 7, 3) := by decide +kernel
theorem dX9_takesWord_10 : decode cX9_takesWord 10 = .ok (.aload_n 0, 1) := by decide +kernel
theorem dX9_takesWord_11 : decode cX9_takesWord 11 = .ok (.invokevirtual 153, 3) := by decide +kernel
theorem dX9_takesWord_14 : decode cX9_takesWord 14 = .ok (.iload_n 2, 1) := by decide +kernel
theorem dX9_takesWord_15 : decode cX9_takesWord 15 = .ok (.ireturn, 1) := by decide +kernel
theorem dX9_figure_0 : decode cX9_figure 0 = .ok (.aload_n 0, 1) := by decide +kernel
theorem dX9_figure_1 : decode cX9_figure 1 = .ok (.invokevirtual 135, 3) := by decide +kernel
theorem dX9_figure_4 : decode cX9_figure 4 = .ok (.ifCond .eq 5, 3) := by decide +kernel
theorem dX9_figure_7 : decode cX9_figure 7 = .ok (.iload_n 1, 1) := by decide +kernel
theorem dX9_figure_8 : decode cX9_figure 8 = .ok (.ireturn, 1) := by decide +kernel
theorem dX9_figure_9 : decode cX9_figure 9 = .ok (.aload_n 0, 1) := by decide +kernel
theorem dX9_figure_10 : decode cX9_figure 10 = .ok (.getfield 111, 3) := by decide +kernel
theorem dX9_figure_13 : decode cX9_figure 13 = .ok (.iconst 2, 1) := by decide +kernel
theorem dX9_figure_14 : decode cX9_figure 14 = .ok (.if_icmp .eq 11, 3) := by decide +kernel
theorem dX9_figure_17 : decode cX9_figure 17 = .ok (.aload_n 0, 1) := by decide +kernel
theorem dX9_figure_18 : decode cX9_figure 18 = .ok (.iconst 1, 1) := by decide +kernel
theorem dX9_figure_19 : decode cX9_figure 19 = .ok (.invokevirtual 156, 3) := by decide +kernel
theorem dX9_figure_22 : decode cX9_figure 22 = .ok (.goto 20, 3) := by decide +kernel
theorem dX9_figure_25 : decode cX9_figure 25 = .ok (.aload_n 0, 1) := by decide +kernel
theorem dX9_figure_26 : decode cX9_figure 26 = .ok (.getfield 129, 3) := by decide +kernel
theorem dX9_figure_29 : decode cX9_figure 29 = .ok (.iload_n 1, 1) := by decide +kernel
theorem dX9_figure_30 : decode cX9_figure 30 = .ok (.iload_n 2, 1) := by decide +kernel
theorem dX9_figure_31 : decode cX9_figure 31 = .ok (.invokestatic 94, 3) := by decide +kernel
theorem dX9_figure_34 : decode cX9_figure 34 = .ok (.ifCond .ne 8, 3) := by decide +kernel
theorem dX9_figure_37 : decode cX9_figure 37 = .ok (.aload_n 0, 1) := by decide +kernel
theorem dX9_figure_38 : decode cX9_figure 38 = .ok (.iconst 2, 1) := by decide +kernel
theorem dX9_figure_39 : decode cX9_figure 39 = .ok (.invokevirtual 156, 3) := by decide +kernel
theorem dX9_figure_42 : decode cX9_figure 42 = .ok (.aload_n 0, 1) := by decide +kernel
theorem dX9_figure_43 : decode cX9_figure 43 = .ok (.getfield 129, 3) := by decide +kernel
theorem dX9_figure_46 : decode cX9_figure 46 = .ok (.istore_n 3, 1) := by decide +kernel
theorem dX9_figure_47 : decode cX9_figure 47 = .ok (.aload_n 0, 1) := by decide +kernel
theorem dX9_figure_48 : decode cX9_figure 48 = .ok (.invokevirtual 135, 3) := by decide +kernel
theorem dX9_figure_51 : decode cX9_figure 51 = .ok (.ifCond .ne 7, 3) := by decide +kernel
theorem dX9_figure_54 : decode cX9_figure 54 = .ok (.aload_n 0, 1) := by decide +kernel
theorem dX9_figure_55 : decode cX9_figure 55 = .ok (.invokevirtual 153, 3) := by decide +kernel
theorem dX9_figure_58 : decode cX9_figure 58 = .ok (.iload_n 3, 1) := by decide +kernel
theorem dX9_figure_59 : decode cX9_figure 59 = .ok (.ireturn, 1) := by decide +kernel
theorem dX9_ends_0 : decode cX9_ends 0 = .ok (.aload_n 0, 1) := by decide +kernel
theorem dX9_ends_1 : decode cX9_ends 1 = .ok (.getfield 111, 3) := by decide +kernel
theorem dX9_ends_4 : decode cX9_ends 4 = .ok (.iconst 3, 1) := by decide +kernel
theorem dX9_ends_5 : decode cX9_ends 5 = .ok (.if_icmp .eq 8, 3) := by decide +kernel
theorem dX9_ends_8 : decode cX9_ends 8 = .ok (.aload_n 0, 1) := by decide +kernel
theorem dX9_ends_9 : decode cX9_ends 9 = .ok (.iconst 1, 1) := by decide +kernel
theorem dX9_ends_10 : decode cX9_ends 10 = .ok (.invokevirtual 156, 3) := by decide +kernel
theorem dX9_ends_13 : decode cX9_ends 13 = .ok (.aload_n 0, 1) := by decide +kernel
theorem dX9_ends_14 : decode cX9_ends 14 = .ok (.invokevirtual 135, 3) := by decide +kernel
theorem dX9_ends_17 : decode cX9_ends 17 = .ok (.ifCond .ne 7, 3) := by decide +kernel
theorem dX9_ends_20 : decode cX9_ends 20 = .ok (.aload_n 0, 1) := by decide +kernel
theorem dX9_ends_21 : decode cX9_ends 21 = .ok (.invokevirtual 153, 3) := by decide +kernel
theorem dX9_ends_24 : decode cX9_ends 24 = .ok (.return_, 1) := by decide +kernel
theorem dX9_begins_0 : decode cX9_begins 0 = .ok (.aload_n 0, 1) := by decide +kernel
theorem dX9_begins_1 : decode cX9_begins 1 = .ok (.getfield 13, 3) := by decide +kernel
theorem dX9_begins_4 : decode cX9_begins 4 = .ok (.iload_n 1, 1) := by decide +kernel
theorem dX9_begins_5 : decode cX9_begins 5 = .ok (.iaload, 1) := by decide +kernel
theorem dX9_begins_6 : decode cX9_begins 6 = .ok (.iload_n 2, 1) := by decide +kernel
theorem dX9_begins_7 : decode cX9_begins 7 = .ok (.if_icmp .ne 8, 3) := by decide +kernel
theorem dX9_begins_10 : decode cX9_begins 10 = .ok (.aload_n 0, 1) := by decide +kernel
theorem dX9_begins_11 : decode cX9_begins 11 = .ok (.iconst 4, 1) := by decide +kernel
theorem dX9_begins_12 : decode cX9_begins 12 = .ok (.invokevirtual 156, 3) := by decide +kernel
theorem dX9_begins_15 : decode cX9_begins 15 = .ok (.aload_n 0, 1) := by decide +kernel
theorem dX9_begins_16 : decode cX9_begins 16 = .ok (.invokevirtual 135, 3) := by decide +kernel
theorem dX9_begins_19 : decode cX9_begins 19 = .ok (.ifCond .ne 7, 3) := by decide +kernel
theorem dX9_begins_22 : decode cX9_begins 22 = .ok (.aload_n 0, 1) := by decide +kernel
theorem dX9_begins_23 : decode cX9_begins 23 = .ok (.invokevirtual 153, 3) := by decide +kernel
theorem dX9_begins_26 : decode cX9_begins 26 = .ok (.aload_n 0, 1) := by decide +kernel
theorem dX9_begins_27 : decode cX9_begins 27 = .ok (.invokevirtual 135, 3) := by decide +kernel
theorem dX9_begins_30 : decode cX9_begins 30 = .ok (.ifCond .ne 7, 3) := by decide +kernel
theorem dX9_begins_33 : decode cX9_begins 33 = .ok (.iconst 1, 1) := by decide +kernel
theorem dX9_begins_34 : decode cX9_begins 34 = .ok (.goto 4, 3) := by decide +kernel
theorem dX9_begins_37 : decode cX9_begins 37 = .ok (.iconst 0, 1) := by decide +kernel
theorem dX9_begins_38 : decode cX9_begins 38 = .ok (.ireturn, 1) := by decide +kernel
theorem dX9_named_0 : decode cX9_named 0 = .ok (.aload_n 0, 1) := by decide +kernel
theorem dX9_named_1 : decode cX9_named 1 = .ok (.getfield 111, 3) := by decide +kernel
theorem dX9_named_4 : decode cX9_named 4 = .ok (.iconst 1, 1) := by decide +kernel
theorem dX9_named_5 : decode cX9_named 5 = .ok (.if_icmp .ne 17, 3) := by decide +kernel
theorem dX9_named_8 : decode cX9_named 8 = .ok (.aload_n 0, 1) := by decide +kernel
theorem dX9_named_9 : decode cX9_named 9 = .ok (.getfield 101, 3) := by decide +kernel
theorem dX9_named_12 : decode cX9_named 12 = .ok (.aload_n 0, 1) := by decide +kernel
theorem dX9_named_13 : decode cX9_named 13 = .ok (.getfield 108, 3) := by decide +kernel
theorem dX9_named_16 : decode cX9_named 16 = .ok (.isub, 1) := by decide +kernel
theorem dX9_named_17 : decode cX9_named 17 = .ok (.bipush 8, 2) := by decide +kernel
theorem dX9_named_19 : decode cX9_named 19 = .ok (.if_icmp .le 8, 3) := by decide +kernel
theorem dX9_named_22 : decode cX9_named 22 = .ok (.aload_n 0, 1) := by decide +kernel
theorem dX9_named_23 : decode cX9_named 23 = .ok (.iconst 1, 1) := by decide +kernel
theorem dX9_named_24 : decode cX9_named 24 = .ok (.invokevirtual 156, 3) := by decide +kernel
theorem dX9_named_27 : decode cX9_named 27 = .ok (.iconst 0, 1) := by decide +kernel
theorem dX9_named_28 : decode cX9_named 28 = .ok (.istore_n 3, 1) := by decide +kernel
theorem dX9_named_29 : decode cX9_named 29 = .ok (.iload_n 3, 1) := by decide +kernel
theorem dX9_named_30 : decode cX9_named 30 = .ok (.iload_n 2, 1) := by decide +kernel
theorem dX9_named_31 : decode cX9_named 31 = .ok (.if_icmp .ge 22, 3) := by decide +kernel
theorem dX9_named_34 : decode cX9_named 34 = .ok (.aload_n 1, 1) := by decide +kernel
theorem dX9_named_35 : decode cX9_named 35 = .ok (.iload_n 3, 1) := by decide +kernel
theorem dX9_named_36 : decode cX9_named 36 = .ok (.laload, 1) := by decide +kernel
theorem dX9_named_37 : decode cX9_named 37 = .ok (.aload_n 0, 1) := by decide +kernel
theorem dX9_named_38 : decode cX9_named 38 = .ok (.getfield 118, 3) := by decide +kernel
theorem dX9_named_41 : decode cX9_named 41 = .ok (.lcmp, 1) := by decide +kernel
theorem dX9_named_42 : decode cX9_named 42 = .ok (.ifCond .ne 5, 3) := by decide +kernel
theorem dX9_named_45 : decode cX9_named 45 = .ok (.iload_n 3, 1) := by decide +kernel
theorem dX9_named_46 : decode cX9_named 46 = .ok (.ireturn, 1) := by decide +kernel
theorem dX9_named_47 : decode cX9_named 47 = .ok (.iinc 3 1, 3) := by decide +kernel
theorem dX9_named_50 : decode cX9_named 50 = .ok (.goto (-21), 3) := by decide +kernel
theorem dX9_named_53 : decode cX9_named 53 = .ok (.iconst (-1), 1) := by decide +kernel
theorem dX9_named_54 : decode cX9_named 54 = .ok (.ireturn, 1) := by decide +kernel
theorem dX9_newName_0 : decode cX9_newName 0 = .ok (.aload_n 0, 1) := by decide +kernel
theorem dX9_newName_1 : decode cX9_newName 1 = .ok (.aload_n 1, 1) := by decide +kernel
theorem dX9_newName_2 : decode cX9_newName 2 = .ok (.iload_n 2, 1) := by decide +kernel
theorem dX9_newName_3 : decode cX9_newName 3 = .ok (.invokevirtual 160, 3) := by decide +kernel
theorem dX9_newName_6 : decode cX9_newName 6 = .ok (.iconst (-1), 1) := by decide +kernel
theorem dX9_newName_7 : decode cX9_newName 7 = .ok (.if_icmp .eq 8, 3) := by decide +kernel
theorem dX9_newName_10 : decode cX9_newName 10 = .ok (.aload_n 0, 1) := by decide +kernel
theorem dX9_newName_11 : decode cX9_newName 11 = .ok (.iconst 3, 1) := by decide +kernel
theorem dX9_newName_12 : decode cX9_newName 12 = .ok (.invokevirtual 156, 3) := by decide +kernel
theorem dX9_newName_15 : decode cX9_newName 15 = .ok (.aload_n 0, 1) := by decide +kernel
theorem dX9_newName_16 : decode cX9_newName 16 = .ok (.invokevirtual 135, 3) := by decide +kernel
theorem dX9_newName_19 : decode cX9_newName 19 = .ok (.ifCond .eq 5, 3) := by decide +kernel
theorem dX9_newName_22 : decode cX9_newName 22 = .ok (.iconst 0, 1) := by decide +kernel
theorem dX9_newName_23 : decode cX9_newName 23 = .ok (.ireturn, 1) := by decide +kernel
theorem dX9_newName_24 : decode cX9_newName 24 = .ok (.aload_n 1, 1) := by decide +kernel
theorem dX9_newName_25 : decode cX9_newName 25 = .ok (.iload_n 2, 1) := by decide +kernel
theorem dX9_newName_26 : decode cX9_newName 26 = .ok (.aload_n 0, 1) := by decide +kernel
theorem dX9_newName_27 : decode cX9_newName 27 = .ok (.getfield 118, 3) := by decide +kernel
theorem dX9_newName_30 : decode cX9_newName 30 = .ok (.lastore, 1) := by decide +kernel
theorem dX9_newName_31 : decode cX9_newName 31 = .ok (.aload_n 0, 1) := by decide +kernel
theorem dX9_newName_32 : decode cX9_newName 32 = .ok (.invokevirtual 153, 3) := by decide +kernel
theorem dX9_newName_35 : decode cX9_newName 35 = .ok (.iconst 1, 1) := by decide +kernel
theorem dX9_newName_36 : decode cX9_newName 36 = .ok (.ireturn, 1) := by decide +kernel
theorem dX9_season_0 : decode cX9_season 0 = .ok (.aload_n 0, 1) := by decide +kernel
theorem dX9_season_1 : decode cX9_season 1 = .ok (.iconst 2, 1) := by decide +kernel
theorem dX9_season_2 : decode cX9_season 2 = .ok (.bipush 12, 2) := by decide +kernel
theorem dX9_season_4 : decode cX9_season 4 = .ok (.invokevirtual 164, 3) := by decide +kernel
theorem dX9_season_7 : decode cX9_season 7 = .ok (.ifCond .ne 4, 3) := by decide +kernel
theorem dX9_season_10 : decode cX9_season 10 = .ok (.return_, 1) := by decide +kernel
theorem dX9_season_11 : decode cX9_season 11 = .ok (.bipush 6, 2) := by decide +kernel
theorem dX9_season_13 : decode cX9_season 13 = .ok (.iconst 2, 1) := by decide +kernel
theorem dX9_season_14 : decode cX9_season 14 = .ok (.aload_n 0, 1) := by decide +kernel
theorem dX9_season_15 : decode cX9_season 15 = .ok (.getfield 13, 3) := by decide +kernel
theorem dX9_season_18 : decode cX9_season 18 = .ok (.iconst 2, 1) := by decide +kernel
theorem dX9_season_19 : decode cX9_season 19 = .ok (.iaload, 1) := by decide +kernel
theorem dX9_season_20 : decode cX9_season 20 = .ok (.imul, 1) := by decide +kernel
theorem dX9_season_21 : decode cX9_season 21 = .ok (.iadd, 1) := by decide +kernel
theorem dX9_season_22 : decode cX9_season 22 = .ok (.istore_n 1, 1) := by decide +kernel
theorem dX9_season_23 : decode cX9_season 23 = .ok (.aload_n 0, 1) := by decide +kernel
theorem dX9_season_24 : decode cX9_season 24 = .ok (.getfield 13, 3) := by decide +kernel
theorem dX9_season_27 : decode cX9_season 27 = .ok (.iload_n 1, 1) := by decide +kernel
theorem dX9_season_28 : decode cX9_season 28 = .ok (.aload_n 0, 1) := by decide +kernel
theorem dX9_season_29 : decode cX9_season 29 = .ok (.aload_n 0, 1) := by decide +kernel
theorem dX9_season_30 : decode cX9_season 30 = .ok (.getfield 13, 3) := by decide +kernel
theorem dX9_season_33 : decode cX9_season 33 = .ok (.iconst 2, 1) := by decide +kernel
theorem dX9_season_34 : decode cX9_season 34 = .ok (.iaload, 1) := by decide +kernel
theorem dX9_season_35 : decode cX9_season 35 = .ok (.ifCond .ne 7, 3) := by decide +kernel
theorem dX9_season_38 : decode cX9_season 38 = .ok (.iconst 0, 1) := by decide +kernel
theorem dX9_season_39 : decode cX9_season 39 = .ok (.goto 13, 3) := by decide +kernel
theorem dX9_season_42 : decode cX9_season 42 = .ok (.aload_n 0, 1) := by decide +kernel
theorem dX9_season_43 : decode cX9_season 43 = .ok (.getfield 13, 3) := by decide +kernel
theorem dX9_season_46 : decode cX9_season 46 = .ok (.iload_n 1, 1) := by decide +kernel
theorem dX9_season_47 : decode cX9_season 47 = .ok (.iconst 2, 1) := by decide +kernel
theorem dX9_season_48 : decode cX9_season 48 = .ok (.isub, 1) := by decide +kernel
theorem dX9_season_49 : decode cX9_season 49 = .ok (.iaload, 1) := by decide +kernel
theorem dX9_season_50 : decode cX9_season 50 = .ok (.iconst 1, 1) := by decide +kernel
theorem dX9_season_51 : decode cX9_season 51 = .ok (.iadd, 1) := by decide +kernel
theorem dX9_season_52 : decode cX9_season 52 = .ok (.sipush 364, 3) := by decide +kernel
theorem dX9_season_55 : decode cX9_season 55 = .ok (.invokevirtual 168, 3) := by decide +kernel
theorem dX9_season_58 : decode cX9_season 58 = .ok (.iastore, 1) := by decide +kernel
theorem dX9_season_59 : decode cX9_season 59 = .ok (.aload_n 0, 1) := by decide +kernel
theorem dX9_season_60 : decode cX9_season 60 = .ok (.getfield 13, 3) := by decide +kernel
theorem dX9_season_63 : decode cX9_season 63 = .ok (.iload_n 1, 1) := by decide +kernel
theorem dX9_season_64 : decode cX9_season 64 = .ok (.iconst 1, 1) := by decide +kernel
theorem dX9_season_65 : decode cX9_season 65 = .ok (.iadd, 1) := by decide +kernel
theorem dX9_season_66 : decode cX9_season 66 = .ok (.aload_n 0, 1) := by decide +kernel
theorem dX9_season_67 : decode cX9_season 67 = .ok (.iconst 0, 1) := by decide +kernel
theorem dX9_season_68 : decode cX9_season 68 = .ok (.sipush 1000, 3) := by decide +kernel
theorem dX9_season_71 : decode cX9_season 71 = .ok (.invokevirtual 168, 3) := by decide +kernel
theorem dX9_season_74 : decode cX9_season 74 = .ok (.iastore, 1) := by decide +kernel
theorem dX9_season_75 : decode cX9_season 75 = .ok (.aload_n 0, 1) := by decide +kernel
theorem dX9_season_76 : decode cX9_season 76 = .ok (.getfield 13, 3) := by decide +kernel
theorem dX9_season_79 : decode cX9_season 79 = .ok (.iconst 2, 1) := by decide +kernel
theorem dX9_season_80 : decode cX9_season 80 = .ok (.dup2, 1) := by decide +kernel
theorem dX9_season_81 : decode cX9_season 81 = .ok (.iaload, 1) := by decide +kernel
theorem dX9_season_82 : decode cX9_season 82 = .ok (.iconst 1, 1) := by decide +kernel
theorem dX9_season_83 : decode cX9_season 83 = .ok (.iadd, 1) := by decide +kernel
theorem dX9_season_84 : decode cX9_season 84 = .ok (.iastore, 1) := by decide +kernel
theorem dX9_season_85 : decode cX9_season 85 = .ok (.aload_n 0, 1) := by decide +kernel
theorem dX9_season_86 : decode cX9_season 86 = .ok (.invokevirtual 171, 3) := by decide +kernel
theorem dX9_season_89 : decode cX9_season 89 = .ok (.return_, 1) := by decide +kernel
theorem dX9_visitors_0 : decode cX9_visitors 0 = .ok (.aload_n 0, 1) := by decide +kernel
theorem dX9_visitors_1 : decode cX9_visitors 1 = .ok (.iconst 3, 1) := by decide +kernel
theorem dX9_visitors_2 : decode cX9_visitors 2 = .ok (.bipush 6, 2) := by decide +kernel
theorem dX9_visitors_4 : decode cX9_visitors 4 = .ok (.invokevirtual 164, 3) := by decide +kernel
theorem dX9_visitors_7 : decode cX9_visitors 7 = .ok (.ifCond .ne 4, 3) := by decide +kernel
theorem dX9_visitors_10 : decode cX9_visitors 10 = .ok (.return_, 1) := by decide +kernel
theorem dX9_visitors_11 : decode cX9_visitors 11 = .ok (.aload_n 0, 1) := by decide +kernel
theorem dX9_visitors_12 : decode cX9_visitors 12 = .ok (.iconst 0, 1) := by decide +kernel
theorem dX9_visitors_13 : decode cX9_visitors 13 = .ok (.bipush 23, 2) := by decide +kernel
theorem dX9_visitors_15 : decode cX9_visitors 15 = .ok (.invokevirtual 168, 3) := by decide +kernel
theorem dX9_visitors_18 : decode cX9_visitors 18 = .ok (.istore_n 1, 1) := by decide +kernel
theorem dX9_visitors_19 : decode cX9_visitors 19 = .ok (.aload_n 0, 1) := by decide +kernel
theorem dX9_visitors_20 : decode cX9_visitors 20 = .ok (.iload_n 1, 1) := by decide +kernel
theorem dX9_visitors_21 : decode cX9_visitors 21 = .ok (.bipush 23, 2) := by decide +kernel
theorem dX9_visitors_23 : decode cX9_visitors 23 = .ok (.invokevirtual 168, 3) := by decide +kernel
theorem dX9_visitors_26 : decode cX9_visitors 26 = .ok (.istore_n 2, 1) := by decide +kernel
theorem dX9_visitors_27 : decode cX9_visitors 27 = .ok (.aload_n 0, 1) := by decide +kernel
theorem dX9_visitors_28 : decode cX9_visitors 28 = .ok (.iconst 0, 1) := by decide +kernel
theorem dX9_visitors_29 : decode cX9_visitors 29 = .ok (.sipush 999, 3) := by decide +kernel
theorem dX9_visitors_32 : decode cX9_visitors 32 = .ok (.invokevirtual 168, 3) := by decide +kernel
theorem dX9_visitors_35 : decode cX9_visitors 35 = .ok (.istore_n 3, 1) := by decide +kernel
theorem dX9_visitors_36 : decode cX9_visitors 36 = .ok (.iload_n 1, 1) := by decide +kernel
theorem dX9_visitors_37 : decode cX9_visitors 37 = .ok (.istore 4, 2) := by decide +kernel
theorem dX9_visitors_39 : decode cX9_visitors 39 = .ok (.iload 4, 2) := by decide +kernel
theorem dX9_visitors_41 : decode cX9_visitors 41 = .ok (.iload_n 2, 1) := by decide +kernel
theorem dX9_visitors_42 : decode cX9_visitors 42 = .ok (.if_icmp .gt 30, 3) := by decide +kernel
theorem dX9_visitors_45 : decode cX9_visitors 45 = .ok (.aload_n 0, 1) := by decide +kernel
theorem dX9_visitors_46 : decode cX9_visitors 46 = .ok (.invokevirtual 135, 3) := by decide +kernel
theorem dX9_visitors_49 : decode cX9_visitors 49 = .ok (.ifCond .ne 23, 3) := by decide +kernel
theorem dX9_visitors_52 : decode cX9_visitors 52 = .ok (.aload_n 0, 1) := by decide +kernel
theorem dX9_visitors_53 : decode cX9_visitors 53 = .ok (.getfield 13, 3) := by decide +kernel
theorem dX9_visitors_56 : decode cX9_visitors 56 = .ok (.bipush 30, 2) := by decide +kernel
theorem dX9_visitors_58 : decode cX9_visitors 58 = .ok (.iload 4, 2) := by decide +kernel
theorem dX9_visitors_60 : decode cX9_visitors 60 = .ok (.iadd, 1) := by decide +kernel
theorem dX9_visitors_61 : decode cX9_visitors 61 = .ok (.dup2, 1) := by decide +kernel
theorem dX9_visitors_62 : decode cX9_visitors 62 = .ok (.iaload, 1) := by decide +kernel
theorem dX9_visitors_63 : decode cX9_visitors 63 = .ok (.iload_n 3, 1) := by decide +kernel
theorem dX9_visitors_64 : decode cX9_visitors 64 = .ok (.iadd, 1) := by decide +kernel
theorem dX9_visitors_65 : decode cX9_visitors 65 = .ok (.iastore, 1) := by decide +kernel
theorem dX9_visitors_66 : decode cX9_visitors 66 = .ok (.iinc 4 1, 3) := by decide +kernel
theorem dX9_visitors_69 : decode cX9_visitors 69 = .ok (.goto (-30), 3) := by decide +kernel
theorem dX9_visitors_72 : decode cX9_visitors 72 = .ok (.aload_n 0, 1) := by decide +kernel
theorem dX9_visitors_73 : decode cX9_visitors 73 = .ok (.getfield 13, 3) := by decide +kernel
theorem dX9_visitors_76 : decode cX9_visitors 76 = .ok (.iconst 3, 1) := by decide +kernel
theorem dX9_visitors_77 : decode cX9_visitors 77 = .ok (.dup2, 1) := by decide +kernel
theorem dX9_visitors_78 : decode cX9_visitors 78 = .ok (.iaload, 1) := by decide +kernel
theorem dX9_visitors_79 : decode cX9_visitors 79 = .ok (.iconst 1, 1) := by decide +kernel
theorem dX9_visitors_80 : decode cX9_visitors 80 = .ok (.iadd, 1) := by decide +kernel
theorem dX9_visitors_81 : decode cX9_visitors 81 = .ok (.iastore, 1) := by decide +kernel
theorem dX9_visitors_82 : decode cX9_visitors 82 = .ok (.aload_n 0, 1) := by decide +kernel
theorem dX9_visitors_83 : decode cX9_visitors 83 = .ok (.invokevirtual 171, 3) := by decide +kernel
theorem dX9_visitors_86 : decode cX9_visitors 86 = .ok (.return_, 1) := by decide +kernel
theorem dX9_point_0 : decode cX9_point 0 = .ok (.iload_n 1, 1) := by decide +kernel
theorem dX9_point_1 : decode cX9_point 1 = .ok (.iconst 2, 1) := by decide +kernel
theorem dX9_point_2 : decode cX9_point 2 = .ok (.iadd, 1) := by decide +kernel
theorem dX9_point_3 : decode cX9_point 3 = .ok (.iconst 2, 1) := by decide +kernel
theorem dX9_point_4 : decode cX9_point 4 = .ok (.iload_n 2, 1) := by decide +kernel
theorem dX9_point_5 : decode cX9_point 5 = .ok (.imul, 1) := by decide +kernel
theorem dX9_point_6 : decode cX9_point 6 = .ok (.iadd, 1) := by decide +kernel
theorem dX9_point_7 : decode cX9_point 7 = .ok (.istore_n 3, 1) := by decide +kernel
theorem dX9_point_8 : decode cX9_point 8 = .ok (.aload_n 0, 1) := by decide +kernel
theorem dX9_point_9 : decode cX9_point 9 = .ok (.getfield 13, 3) := by decide +kernel
theorem dX9_point_12 : decode cX9_point 12 = .ok (.iload_n 3, 1) := by decide +kernel
theorem dX9_point_13 : decode cX9_point 13 = .ok (.aload_n 0, 1) := by decide +kernel
theorem dX9_point_14 : decode cX9_point 14 = .ok (.iload_n 2, 1) := by decide +kernel
theorem dX9_point_15 : decode cX9_point 15 = .ok (.ifCond .ne 7, 3) := by decide +kernel
theorem dX9_point_18 : decode cX9_point 18 = .ok (.iconst 0, 1) := by decide +kernel
theorem dX9_point_19 : decode cX9_point 19 = .ok (.goto 13, 3) := by decide +kernel
theorem dX9_point_22 : decode cX9_point 22 = .ok (.aload_n 0, 1) := by decide +kernel
theorem dX9_point_23 : decode cX9_point 23 = .ok (.getfield 13, 3) := by decide +kernel
theorem dX9_point_26 : decode cX9_point 26 = .ok (.iload_n 3, 1) := by decide +kernel
theorem dX9_point_27 : decode cX9_point 27 = .ok (.iconst 2, 1) := by decide +kernel
theorem dX9_point_28 : decode cX9_point 28 = .ok (.isub, 1) := by decide +kernel
theorem dX9_point_29 : decode cX9_point 29 = .ok (.iaload, 1) := by decide +kernel
theorem dX9_point_30 : decode cX9_point 30 = .ok (.iconst 1, 1) := by decide +kernel
theorem dX9_point_31 : decode cX9_point 31 = .ok (.iadd, 1) := by decide +kernel
theorem dX9_point_32 : decode cX9_point 32 = .ok (.sipush 1000, 3) := by decide +kernel
theorem dX9_point_35 : decode cX9_point 35 = .ok (.invokevirtual 168, 3) := by decide +kernel
theorem dX9_point_38 : decode cX9_point 38 = .ok (.iastore, 1) := by decide +kernel
theorem dX9_point_39 : decode cX9_point 39 = .ok (.aload_n 0, 1) := by decide +kernel
theorem dX9_point_40 : decode cX9_point 40 = .ok (.getfield 13, 3) := by decide +kernel
theorem dX9_point_43 : decode cX9_point 43 = .ok (.iload_n 3, 1) := by decide +kernel
theorem dX9_point_44 : decode cX9_point 44 = .ok (.iconst 1, 1) := by decide +kernel
theorem dX9_point_45 : decode cX9_point 45 = .ok (.iadd, 1) := by decide +kernel
theorem dX9_point_46 : decode cX9_point 46 = .ok (.aload_n 0, 1) := by decide +kernel
theorem dX9_point_47 : decode cX9_point 47 = .ok (.iload_n 2, 1) := by decide +kernel
theorem dX9_point_48 : decode cX9_point 48 = .ok (.ifCond .ne 7, 3) := by decide +kernel
theorem dX9_point_51 : decode cX9_point 51 = .ok (.iconst 0, 1) := by decide +kernel
theorem dX9_point_52 : decode cX9_point 52 = .ok (.goto 11, 3) := by decide +kernel
theorem dX9_point_55 : decode cX9_point 55 = .ok (.aload_n 0, 1) := by decide +kernel
theorem dX9_point_56 : decode cX9_point 56 = .ok (.getfield 13, 3) := by decide +kernel
theorem dX9_point_59 : decode cX9_point 59 = .ok (.iload_n 3, 1) := by decide +kernel
theorem dX9_point_60 : decode cX9_point 60 = .ok (.iconst 1, 1) := by decide +kernel
theorem dX9_point_61 : decode cX9_point 61 = .ok (.isub, 1) := by decide +kernel
theorem dX9_point_62 : decode cX9_point 62 = .ok (.iaload, 1) := by decide +kernel
theorem dX9_point_63 : decode cX9_point 63 = .ok (.sipush 9999, 3) := by decide +kernel
theorem dX9_point_66 : decode cX9_point 66 = .ok (.invokevirtual 168, 3) := by decide +kernel
theorem dX9_point_69 : decode cX9_point 69 = .ok (.iastore, 1) := by decide +kernel
theorem dX9_point_70 : decode cX9_point 70 = .ok (.return_, 1) := by decide +kernel
theorem dX9_kind_0 : decode cX9_kind 0 = .ok (.aload_n 0, 1) := by decide +kernel
theorem dX9_kind_1 : decode cX9_kind 1 = .ok (.iconst 4, 1) := by decide +kernel
theorem dX9_kind_2 : decode cX9_kind 2 = .ok (.iconst 4, 1) := by decide +kernel
theorem dX9_kind_3 : decode cX9_kind 3 = .ok (.invokevirtual 164, 3) := by decide +kernel
theorem dX9_kind_6 : decode cX9_kind 6 = .ok (.ifCond .eq 20, 3) := by decide +kernel
theorem dX9_kind_9 : decode cX9_kind 9 = .ok (.aload_n 0, 1) := by decide +kernel
theorem dX9_kind_10 : decode cX9_kind 10 = .ok (.aload_n 0, 1) := by decide +kernel
theorem dX9_kind_11 : decode cX9_kind 11 = .ok (.getfield 49, 3) := by decide +kernel
theorem dX9_kind_14 : decode cX9_kind 14 = .ok (.aload_n 0, 1) := by decide +kernel
theorem dX9_kind_15 : decode cX9_kind 15 = .ok (.getfield 13, 3) := by decide +kernel
theorem dX9_kind_18 : decode cX9_kind 18 = .ok (.iconst 4, 1) := by decide +kernel
theorem dX9_kind_19 : decode cX9_kind 19 = .ok (.iaload, 1) := by decide +kernel
theorem dX9_kind_20 : decode cX9_kind 20 = .ok (.invokevirtual 174, 3) := by decide +kernel
theorem dX9_kind_23 : decode cX9_kind 23 = .ok (.ifCond .ne 4, 3) := by decide +kernel
theorem dX9_kind_26 : decode cX9_kind 26 = .ok (.return_, 1) := by decide +kernel
theorem dX9_kind_27 : decode cX9_kind 27 = .ok (.bipush 54, 2) := by decide +kernel
theorem dX9_kind_29 : decode cX9_kind 29 = .ok (.bipush 14, 2) := by decide +kernel
theorem dX9_kind_31 : decode cX9_kind 31 = .ok (.aload_n 0, 1) := by decide +kernel
theorem dX9_kind_32 : decode cX9_kind 32 = .ok (.getfield 13, 3) := by decide +kernel
theorem dX9_kind_35 : decode cX9_kind 35 = .ok (.iconst 4, 1) := by decide +kernel
theorem dX9_kind_36 : decode cX9_kind 36 = .ok (.iaload, 1) := by decide +kernel
theorem dX9_kind_37 : decode cX9_kind 37 = .ok (.imul, 1) := by decide +kernel
theorem dX9_kind_38 : decode cX9_kind 38 = .ok (.iadd, 1) := by decide +kernel
theorem dX9_kind_39 : decode cX9_kind 39 = .ok (.istore_n 1, 1) := by decide +kernel
theorem dX9_kind_40 : decode cX9_kind 40 = .ok (.aload_n 0, 1) := by decide +kernel
theorem dX9_kind_41 : decode cX9_kind 41 = .ok (.getfield 13, 3) := by decide +kernel
theorem dX9_kind_44 : decode cX9_kind 44 = .ok (.iload_n 1, 1) := by decide +kernel
theorem dX9_kind_45 : decode cX9_kind 45 = .ok (.aload_n 0, 1) := by decide +kernel
theorem dX9_kind_46 : decode cX9_kind 46 = .ok (.iconst 0, 1) := by decide +kernel
theorem dX9_kind_47 : decode cX9_kind 47 = .ok (.sipush 1000, 3) := by decide +kernel
theorem dX9_kind_50 : decode cX9_kind 50 = .ok (.invokevirtual 168, 3) := by decide +kernel
theorem dX9_kind_53 : decode cX9_kind 53 = .ok (.iastore, 1) := by decide +kernel
theorem dX9_kind_54 : decode cX9_kind 54 = .ok (.iconst 0, 1) := by decide +kernel
theorem dX9_kind_55 : decode cX9_kind 55 = .ok (.istore_n 2, 1) := by decide +kernel
theorem dX9_kind_56 : decode cX9_kind 56 = .ok (.aload_n 0, 1) := by decide +kernel
theorem dX9_kind_57 : decode cX9_kind 57 = .ok (.ldc 178, 2) := by decide +kernel
theorem dX9_kind_59 : decode cX9_kind 59 = .ok (.invokevirtual 149, 3) := by decide +kernel
theorem dX9_kind_62 : decode cX9_kind 62 = .ok (.ifCond .eq 38, 3) := by decide +kernel
theorem dX9_kind_65 : decode cX9_kind 65 = .ok (.iload_n 2, 1) := by decide +kernel
theorem dX9_kind_66 : decode cX9_kind 66 = .ok (.bipush 6, 2) := by decide +kernel
theorem dX9_kind_68 : decode cX9_kind 68 = .ok (.if_icmp .ne 8, 3) := by decide +kernel
theorem dX9_kind_71 : decode cX9_kind 71 = .ok (.aload_n 0, 1) := by decide +kernel
theorem dX9_kind_72 : decode cX9_kind 72 = .ok (.iconst 4, 1) := by decide +kernel
theorem dX9_kind_73 : decode cX9_kind 73 = .ok (.invokevirtual 156, 3) := by decide +kernel
theorem dX9_kind_76 : decode cX9_kind 76 = .ok (.aload_n 0, 1) := by decide +kernel
theorem dX9_kind_77 : decode cX9_kind 77 = .ok (.invokevirtual 135, 3) := by decide +kernel
theorem dX9_kind_80 : decode cX9_kind 80 = .ok (.ifCond .eq 4, 3) := by decide +kernel
theorem dX9_kind_83 : decode cX9_kind 83 = .ok (.return_, 1) := by decide +kernel
theorem dX9_kind_84 : decode cX9_kind 84 = .ok (.aload_n 0, 1) := by decide +kernel
theorem dX9_kind_85 : decode cX9_kind 85 = .ok (.invokevirtual 153, 3) := by decide +kernel
theorem dX9_kind_88 : decode cX9_kind 88 = .ok (.aload_n 0, 1) := by decide +kernel
theorem dX9_kind_89 : decode cX9_kind 89 = .ok (.iload_n 1, 1) := by decide +kernel
theorem dX9_kind_90 : decode cX9_kind 90 = .ok (.iload_n 2, 1) := by decide +kernel
theorem dX9_kind_91 : decode cX9_kind 91 = .ok (.invokevirtual 180, 3) := by decide +kernel
theorem dX9_kind_94 : decode cX9_kind 94 = .ok (.iinc 2 1, 3) := by decide +kernel
theorem dX9_kind_97 : decode cX9_kind 97 = .ok (.goto (-41), 3) := by decide +kernel
theorem dX9_kind_100 : decode cX9_kind 100 = .ok (.iload_n 2, 1) := by decide +kernel
theorem dX9_kind_101 : decode cX9_kind 101 = .ok (.iconst 2, 1) := by decide +kernel
theorem dX9_kind_102 : decode cX9_kind 102 = .ok (.if_icmp .ge 8, 3) := by decide +kernel
theorem dX9_kind_105 : decode cX9_kind 105 = .ok (.aload_n 0, 1) := by decide +kernel
theorem dX9_kind_106 : decode cX9_kind 106 = .ok (.iconst 1, 1) := by decide +kernel
theorem dX9_kind_107 : decode cX9_kind 107 = .ok (.invokevirtual 156, 3) := by decide +kernel
theorem dX9_kind_110 : decode cX9_kind 110 = .ok (.aload_n 0, 1) := by decide +kernel
theorem dX9_kind_111 : decode cX9_kind 111 = .ok (.getfield 13, 3) := by decide +kernel
theorem dX9_kind_114 : decode cX9_kind 114 = .ok (.iload_n 1, 1) := by decide +kernel
theorem dX9_kind_115 : decode cX9_kind 115 = .ok (.iconst 1, 1) := by decide +kernel
theorem dX9_kind_116 : decode cX9_kind 116 = .ok (.iadd, 1) := by decide +kernel
theorem dX9_kind_117 : decode cX9_kind 117 = .ok (.iload_n 2, 1) := by decide +kernel
theorem dX9_kind_118 : decode cX9_kind 118 = .ok (.iastore, 1) := by decide +kernel
theorem dX9_kind_119 : decode cX9_kind 119 = .ok (.aload_n 0, 1) := by decide +kernel
theorem dX9_kind_120 : decode cX9_kind 120 = .ok (.getfield 13, 3) := by decide +kernel
theorem dX9_kind_123 : decode cX9_kind 123 = .ok (.iconst 4, 1) := by decide +kernel
theorem dX9_kind_124 : decode cX9_kind 124 = .ok (.dup2, 1) := by decide +kernel
theorem dX9_kind_125 : decode cX9_kind 125 = .ok (.iaload, 1) := by decide +kernel
theorem dX9_kind_126 : decode cX9_kind 126 = .ok (.iconst 1, 1) := by decide +kernel
theorem dX9_kind_127 : decode cX9_kind 127 = .ok (.iadd, 1) := by decide +kernel
theorem dX9_kind_128 : decode cX9_kind 128 = .ok (.iastore, 1) := by decide +kernel
theorem dX9_kind_129 : decode cX9_kind 129 = .ok (.aload_n 0, 1) := by decide +kernel
theorem dX9_kind_130 : decode cX9_kind 130 = .ok (.invokevirtual 171, 3) := by decide +kernel
theorem dX9_kind_133 : decode cX9_kind 133 = .ok (.return_, 1) := by decide +kernel
theorem dX9_oneCase_0 : decode cX9_oneCase 0 = .ok (.aload_n 0, 1) := by decide +kernel
theorem dX9_oneCase_1 : decode cX9_oneCase 1 = .ok (.iconst 5, 1) := by decide +kernel
theorem dX9_oneCase_2 : decode cX9_oneCase 2 = .ok (.bipush 6, 2) := by decide +kernel
theorem dX9_oneCase_4 : decode cX9_oneCase 4 = .ok (.invokevirtual 164, 3) := by decide +kernel
theorem dX9_oneCase_7 : decode cX9_oneCase 7 = .ok (.ifCond .eq 20, 3) := by decide +kernel
theorem dX9_oneCase_10 : decode cX9_oneCase 10 = .ok (.aload_n 0, 1) := by decide +kernel
theorem dX9_oneCase_11 : decode cX9_oneCase 11 = .ok (.aload_n 0, 1) := by decide +kernel
theorem dX9_oneCase_12 : decode cX9_oneCase 12 = .ok (.getfield 52, 3) := by decide +kernel
theorem dX9_oneCase_15 : decode cX9_oneCase 15 = .ok (.aload_n 0, 1) := by decide +kernel
theorem dX9_oneCase_16 : decode cX9_oneCase 16 = .ok (.getfield 13, 3) := by decide +kernel
theorem dX9_oneCase_19 : decode cX9_oneCase 19 = .ok (.iconst 5, 1) := by decide +kernel
theorem dX9_oneCase_20 : decode cX9_oneCase 20 = .ok (.iaload, 1) := by decide +kernel
theorem dX9_oneCase_21 : decode cX9_oneCase 21 = .ok (.invokevirtual 174, 3) := by decide +kernel
theorem dX9_oneCase_24 : decode cX9_oneCase 24 = .ok (.ifCond .ne 4, 3) := by decide +kernel
theorem dX9_oneCase_27 : decode cX9_oneCase 27 = .ok (.return_, 1) := by decide +kernel
theorem dX9_oneCase_28 : decode cX9_oneCase 28 = .ok (.aload_n 0, 1) := by decide +kernel
theorem dX9_oneCase_29 : decode cX9_oneCase 29 = .ok (.getfield 13, 3) := by decide +kernel
theorem dX9_oneCase_32 : decode cX9_oneCase 32 = .ok (.iconst 5, 1) := by decide +kernel
theorem dX9_oneCase_33 : decode cX9_oneCase 33 = .ok (.iaload, 1) := by decide +kernel
theorem dX9_oneCase_34 : decode cX9_oneCase 34 = .ok (.istore_n 1, 1) := by decide +kernel
theorem dX9_oneCase_35 : decode cX9_oneCase 35 = .ok (.iconst 4, 1) := by decide +kernel
theorem dX9_oneCase_36 : decode cX9_oneCase 36 = .ok (.bipush 56, 2) := by decide +kernel
theorem dX9_oneCase_38 : decode cX9_oneCase 38 = .ok (.iload_n 1, 1) := by decide +kernel
theorem dX9_oneCase_39 : decode cX9_oneCase 39 = .ok (.imul, 1) := by decide +kernel
theorem dX9_oneCase_40 : decode cX9_oneCase 40 = .ok (.iadd, 1) := by decide +kernel
theorem dX9_oneCase_41 : decode cX9_oneCase 41 = .ok (.istore_n 2, 1) := by decide +kernel
theorem dX9_oneCase_42 : decode cX9_oneCase 42 = .ok (.aload_n 0, 1) := by decide +kernel
theorem dX9_oneCase_43 : decode cX9_oneCase 43 = .ok (.getfield 13, 3) := by decide +kernel
theorem dX9_oneCase_46 : decode cX9_oneCase 46 = .ok (.bipush 110, 2) := by decide +kernel
theorem dX9_oneCase_48 : decode cX9_oneCase 48 = .ok (.iload_n 1, 1) := by decide +kernel
theorem dX9_oneCase_49 : decode cX9_oneCase 49 = .ok (.iadd, 1) := by decide +kernel
theorem dX9_oneCase_50 : decode cX9_oneCase 50 = .ok (.aload_n 0, 1) := by decide +kernel
theorem dX9_oneCase_51 : decode cX9_oneCase 51 = .ok (.bipush 100, 2) := by decide +kernel
theorem dX9_oneCase_53 : decode cX9_oneCase 53 = .ok (.sipush 9999, 3) := by decide +kernel
theorem dX9_oneCase_56 : decode cX9_oneCase 56 = .ok (.invokevirtual 168, 3) := by decide +kernel
theorem dX9_oneCase_59 : decode cX9_oneCase 59 = .ok (.iastore, 1) := by decide +kernel
theorem dX9_oneCase_60 : decode cX9_oneCase 60 = .ok (.aload_n 0, 1) := by decide +kernel
theorem dX9_oneCase_61 : decode cX9_oneCase 61 = .ok (.getfield 25, 3) := by decide +kernel
theorem dX9_oneCase_64 : decode cX9_oneCase 64 = .ok (.iload_n 2, 1) := by decide +kernel
theorem dX9_oneCase_65 : decode cX9_oneCase 65 = .ok (.iconst 0, 1) := by decide +kernel
theorem dX9_oneCase_66 : decode cX9_oneCase 66 = .ok (.iadd, 1) := by decide +kernel
theorem dX9_oneCase_67 : decode cX9_oneCase 67 = .ok (.aload_n 0, 1) := by decide +kernel
theorem dX9_oneCase_68 : decode cX9_oneCase 68 = .ok (.iconst 0, 1) := by decide +kernel
theorem dX9_oneCase_69 : decode cX9_oneCase 69 = .ok (.sipush 1000, 3) := by decide +kernel
theorem dX9_oneCase_72 : decode cX9_oneCase 72 = .ok (.invokevirtual 168, 3) := by decide +kernel
theorem dX9_oneCase_75 : decode cX9_oneCase 75 = .ok (.iastore, 1) := by decide +kernel
theorem dX9_oneCase_76 : decode cX9_oneCase 76 = .ok (.aload_n 0, 1) := by decide +kernel
theorem dX9_oneCase_77 : decode cX9_oneCase 77 = .ok (.getfield 25, 3) := by decide +kernel
theorem dX9_oneCase_80 : decode cX9_oneCase 80 = .ok (.iload_n 2, 1) := by decide +kernel
theorem dX9_oneCase_81 : decode cX9_oneCase 81 = .ok (.iconst 3, 1) := by decide +kernel
theorem dX9_oneCase_82 : decode cX9_oneCase 82 = .ok (.iadd, 1) := by decide +kernel
theorem dX9_oneCase_83 : decode cX9_oneCase 83 = .ok (.aload_n 0, 1) := by decide +kernel
theorem dX9_oneCase_84 : decode cX9_oneCase 84 = .ok (.getfield 13, 3) := by decide +kernel
theorem dX9_oneCase_87 : decode cX9_oneCase 87 = .ok (.bipush 110, 2) := by decide +kernel
theorem dX9_oneCase_89 : decode cX9_oneCase 89 = .ok (.iload_n 1, 1) := by decide +kernel
theorem dX9_oneCase_90 : decode cX9_oneCase 90 = .ok (.iadd, 1) := by decide +kernel
theorem dX9_oneCase_91 : decode cX9_oneCase 91 = .ok (.iaload, 1) := by decide +kernel
theorem dX9_oneCase_92 : decode cX9_oneCase 92 = .ok (.aload_n 0, 1) := by decide +kernel
theorem dX9_oneCase_93 : decode cX9_oneCase 93 = .ok (.iconst 0, 1) := by decide +kernel
theorem dX9_oneCase_94 : decode cX9_oneCase 94 = .ok (.sipush 1000, 3) := by decide +kernel
theorem dX9_oneCase_97 : decode cX9_oneCase 97 = .ok (.invokevirtual 168, 3) := by decide +kernel
theorem dX9_oneCase_100 : decode cX9_oneCase 100 = .ok (.imul, 1) := by decide +kernel
theorem dX9_oneCase_101 : decode cX9_oneCase 101 = .ok (.sipush 1000, 3) := by decide +kernel
theorem dX9_oneCase_104 : decode cX9_oneCase 104 = .ok (.idiv, 1) := by decide +kernel
theorem dX9_oneCase_105 : decode cX9_oneCase 105 = .ok (.iastore, 1) := by decide +kernel
theorem dX9_oneCase_106 : decode cX9_oneCase 106 = .ok (.aload_n 0, 1) := by decide +kernel
theorem dX9_oneCase_107 : decode cX9_oneCase 107 = .ok (.getfield 25, 3) := by decide +kernel
theorem dX9_oneCase_110 : decode cX9_oneCase 110 = .ok (.iload_n 2, 1) := by decide +kernel
theorem dX9_oneCase_111 : decode cX9_oneCase 111 = .ok (.iconst 2, 1) := by decide +kernel
theorem dX9_oneCase_112 : decode cX9_oneCase 112 = .ok (.iadd, 1) := by decide +kernel
theorem dX9_oneCase_113 : decode cX9_oneCase 113 = .ok (.sipush 1000, 3) := by decide +kernel
theorem dX9_oneCase_116 : decode cX9_oneCase 116 = .ok (.iastore, 1) := by decide +kernel
theorem dX9_oneCase_117 : decode cX9_oneCase 117 = .ok (.aload_n 0, 1) := by decide +kernel
theorem dX9_oneCase_118 : decode cX9_oneCase 118 = .ok (.ldc 183, 2) := by decide +kernel
theorem dX9_oneCase_120 : decode cX9_oneCase 120 = .ok (.invokevirtual 185, 3) := by decide +kernel
theorem dX9_oneCase_123 : decode cX9_oneCase 123 = .ok (.ifCond .eq 42, 3) := by decide +kernel
theorem dX9_oneCase_126 : decode cX9_oneCase 126 = .ok (.aload_n 0, 1) := by decide +kernel
theorem dX9_oneCase_127 : decode cX9_oneCase 127 = .ok (.getfield 25, 3) := by decide +kernel
theorem dX9_oneCase_130 : decode cX9_oneCase 130 = .ok (.iload_n 2, 1) := by decide +kernel
theorem dX9_oneCase_131 : decode cX9_oneCase 131 = .ok (.iconst 1, 1) := by decide +kernel
theorem dX9_oneCase_132 : decode cX9_oneCase 132 = .ok (.iadd, 1) := by decide +kernel
theorem dX9_oneCase_133 : decode cX9_oneCase 133 = .ok (.aload_n 0, 1) := by decide +kernel
theorem dX9_oneCase_134 : decode cX9_oneCase 134 = .ok (.iconst 0, 1) := by decide +kernel
theorem dX9_oneCase_135 : decode cX9_oneCase 135 = .ok (.sipush 1000, 3) := by decide +kernel
theorem dX9_oneCase_138 : decode cX9_oneCase 138 = .ok (.invokevirtual 168, 3) := by decide +kernel
theorem dX9_oneCase_141 : decode cX9_oneCase 141 = .ok (.iastore, 1) := by decide +kernel
theorem dX9_oneCase_142 : decode cX9_oneCase 142 = .ok (.aload_n 0, 1) := by decide +kernel
theorem dX9_oneCase_143 : decode cX9_oneCase 143 = .ok (.getfield 25, 3) := by decide +kernel
theorem dX9_oneCase_146 : decode cX9_oneCase 146 = .ok (.iload_n 2, 1) := by decide +kernel
theorem dX9_oneCase_147 : decode cX9_oneCase 147 = .ok (.iconst 2, 1) := by decide +kernel
theorem dX9_oneCase_148 : decode cX9_oneCase 148 = .ok (.iadd, 1) := by decide +kernel
theorem dX9_oneCase_149 : decode cX9_oneCase 149 = .ok (.aload_n 0, 1) := by decide +kernel
theorem dX9_oneCase_150 : decode cX9_oneCase 150 = .ok (.aload_n 0, 1) := by decide +kernel
theorem dX9_oneCase_151 : decode cX9_oneCase 151 = .ok (.getfield 25, 3) := by decide +kernel
theorem dX9_oneCase_154 : decode cX9_oneCase 154 = .ok (.iload_n 2, 1) := by decide +kernel
theorem dX9_oneCase_155 : decode cX9_oneCase 155 = .ok (.iconst 1, 1) := by decide +kernel
theorem dX9_oneCase_156 : decode cX9_oneCase 156 = .ok (.iadd, 1) := by decide +kernel
theorem dX9_oneCase_157 : decode cX9_oneCase 157 = .ok (.iaload, 1) := by decide +kernel
theorem dX9_oneCase_158 : decode cX9_oneCase 158 = .ok (.sipush 1000, 3) := by decide +kernel
theorem dX9_oneCase_161 : decode cX9_oneCase 161 = .ok (.invokevirtual 168, 3) := by decide +kernel
theorem dX9_oneCase_164 : decode cX9_oneCase 164 = .ok (.iastore, 1) := by decide +kernel
theorem dX9_oneCase_165 : decode cX9_oneCase 165 = .ok (.aload_n 0, 1) := by decide +kernel
theorem dX9_oneCase_166 : decode cX9_oneCase 166 = .ok (.getfield 13, 3) := by decide +kernel
theorem dX9_oneCase_169 : decode cX9_oneCase 169 = .ok (.iconst 5, 1) := by decide +kernel
theorem dX9_oneCase_170 : decode cX9_oneCase 170 = .ok (.dup2, 1) := by decide +kernel
theorem dX9_oneCase_171 : decode cX9_oneCase 171 = .ok (.iaload, 1) := by decide +kernel
theorem dX9_oneCase_172 : decode cX9_oneCase 172 = .ok (.iconst 1, 1) := by decide +kernel
theorem dX9_oneCase_173 : decode cX9_oneCase 173 = .ok (.iadd, 1) := by decide +kernel
theorem dX9_oneCase_174 : decode cX9_oneCase 174 = .ok (.iastore, 1) := by decide +kernel
theorem dX9_oneCase_175 : decode cX9_oneCase 175 = .ok (.aload_n 0, 1) := by decide +kernel
theorem dX9_oneCase_176 : decode cX9_oneCase 176 = .ok (.invokevirtual 171, 3) := by decide +kernel
theorem dX9_oneCase_179 : decode cX9_oneCase 179 = .ok (.return_, 1) := by decide +kernel
theorem dX9_oneCassette_0 : decode cX9_oneCassette 0 = .ok (.aload_n 0, 1) := by decide +kernel
theorem dX9_oneCassette_1 : decode cX9_oneCassette 1 = .ok (.invokevirtual 153, 3) := by decide +kernel
theorem dX9_oneCassette_4 : decode cX9_oneCassette 4 = .ok (.aload_n 0, 1) := by decide +kernel
theorem dX9_oneCassette_5 : decode cX9_oneCassette 5 = .ok (.aload_n 0, 1) := by decide +kernel
theorem dX9_oneCassette_6 : decode cX9_oneCassette 6 = .ok (.getfield 52, 3) := by decide +kernel
theorem dX9_oneCassette_9 : decode cX9_oneCassette 9 = .ok (.aload_n 0, 1) := by decide +kernel
theorem dX9_oneCassette_10 : decode cX9_oneCassette 10 = .ok (.getfield 13, 3) := by decide +kernel
theorem dX9_oneCassette_13 : decode cX9_oneCassette 13 = .ok (.iconst 5, 1) := by decide +kernel
theorem dX9_oneCassette_14 : decode cX9_oneCassette 14 = .ok (.iaload, 1) := by decide +kernel
theorem dX9_oneCassette_15 : decode cX9_oneCassette 15 = .ok (.invokevirtual 160, 3) := by decide +kernel
theorem dX9_oneCassette_18 : decode cX9_oneCassette 18 = .ok (.istore_n 1, 1) := by decide +kernel
theorem dX9_oneCassette_19 : decode cX9_oneCassette 19 = .ok (.iload_n 1, 1) := by decide +kernel
theorem dX9_oneCassette_20 : decode cX9_oneCassette 20 = .ok (.iconst (-1), 1) := by decide +kernel
theorem dX9_oneCassette_21 : decode cX9_oneCassette 21 = .ok (.if_icmp .ne 8, 3) := by decide +kernel
theorem dX9_oneCassette_24 : decode cX9_oneCassette 24 = .ok (.aload_n 0, 1) := by decide +kernel
theorem dX9_oneCassette_25 : decode cX9_oneCassette 25 = .ok (.iconst 3, 1) := by decide +kernel
theorem dX9_oneCassette_26 : decode cX9_oneCassette 26 = .ok (.invokevirtual 156, 3) := by decide +kernel
theorem dX9_oneCassette_29 : decode cX9_oneCassette 29 = .ok (.aload_n 0, 1) := by decide +kernel
theorem dX9_oneCassette_30 : decode cX9_oneCassette 30 = .ok (.invokevirtual 135, 3) := by decide +kernel
theorem dX9_oneCassette_33 : decode cX9_oneCassette 33 = .ok (.ifCond .eq 4, 3) := by decide +kernel
theorem dX9_oneCassette_36 : decode cX9_oneCassette 36 = .ok (.return_, 1) := by decide +kernel
theorem dX9_oneCassette_37 : decode cX9_oneCassette 37 = .ok (.iconst 4, 1) := by decide +kernel
theorem dX9_oneCassette_38 : decode cX9_oneCassette 38 = .ok (.bipush 56, 2) := by decide +kernel
theorem dX9_oneCassette_40 : decode cX9_oneCassette 40 = .ok (.iload_n 1, 1) := by decide +kernel
theorem dX9_oneCassette_41 : decode cX9_oneCassette 41 = .ok (.imul, 1) := by decide +kernel
theorem dX9_oneCassette_42 : decode cX9_oneCassette 42 = .ok (.iadd, 1) := by decide +kernel
theorem dX9_oneCassette_43 : decode cX9_oneCassette 43 = .ok (.istore_n 2, 1) := by decide +kernel
theorem dX9_oneCassette_44 : decode cX9_oneCassette 44 = .ok (.aload_n 0, 1) := by decide +kernel
theorem dX9_oneCassette_45 : decode cX9_oneCassette 45 = .ok (.getfield 25, 3) := by decide +kernel
theorem dX9_oneCassette_48 : decode cX9_oneCassette 48 = .ok (.iload_n 2, 1) := by decide +kernel
theorem dX9_oneCassette_49 : decode cX9_oneCassette 49 = .ok (.iconst 4, 1) := by decide +kernel
theorem dX9_oneCassette_50 : decode cX9_oneCassette 50 = .ok (.iadd, 1) := by decide +kernel
theorem dX9_oneCassette_51 : decode cX9_oneCassette 51 = .ok (.iaload, 1) := by decide +kernel
theorem dX9_oneCassette_52 : decode cX9_oneCassette 52 = .ok (.iconst 5, 1) := by decide +kernel
theorem dX9_oneCassette_53 : decode cX9_oneCassette 53 = .ok (.if_icmp .ne 8, 3) := by decide +kernel
theorem dX9_oneCassette_56 : decode cX9_oneCassette 56 = .ok (.aload_n 0, 1) := by decide +kernel
theorem dX9_oneCassette_57 : decode cX9_oneCassette 57 = .ok (.iconst 4, 1) := by decide +kernel
theorem dX9_oneCassette_58 : decode cX9_oneCassette 58 = .ok (.invokevirtual 156, 3) := by decide +kernel
theorem dX9_oneCassette_61 : decode cX9_oneCassette 61 = .ok (.aload_n 0, 1) := by decide +kernel
theorem dX9_oneCassette_62 : decode cX9_oneCassette 62 = .ok (.invokevirtual 135, 3) := by decide +kernel
theorem dX9_oneCassette_65 : decode cX9_oneCassette 65 = .ok (.ifCond .ne 7, 3) := by decide +kernel
theorem dX9_oneCassette_68 : decode cX9_oneCassette 68 = .ok (.aload_n 0, 1) := by decide +kernel
theorem dX9_oneCassette_69 : decode cX9_oneCassette 69 = .ok (.invokevirtual 153, 3) := by decide +kernel
theorem dX9_oneCassette_72 : decode cX9_oneCassette 72 = .ok (.aload_n 0, 1) := by decide +kernel
theorem dX9_oneCassette_73 : decode cX9_oneCassette 73 = .ok (.invokevirtual 135, 3) := by decide +kernel
theorem dX9_oneCassette_76 : decode cX9_oneCassette 76 = .ok (.ifCond .eq 7, 3) := by decide +kernel
theorem dX9_oneCassette_79 : decode cX9_oneCassette 79 = .ok (.iconst 0, 1) := by decide +kernel
theorem dX9_oneCassette_80 : decode cX9_oneCassette 80 = .ok (.goto 17, 3) := by decide +kernel
theorem dX9_oneCassette_83 : decode cX9_oneCassette 83 = .ok (.aload_n 0, 1) := by decide +kernel
theorem dX9_oneCassette_84 : decode cX9_oneCassette 84 = .ok (.aload_n 0, 1) := by decide +kernel
theorem dX9_oneCassette_85 : decode cX9_oneCassette 85 = .ok (.getfield 49, 3) := by decide +kernel
theorem dX9_oneCassette_88 : decode cX9_oneCassette 88 = .ok (.aload_n 0, 1) := by decide +kernel
theorem dX9_oneCassette_89 : decode cX9_oneCassette 89 = .ok (.getfield 13, 3) := by decide +kernel
theorem dX9_oneCassette_92 : decode cX9_oneCassette 92 = .ok (.iconst 4, 1) := by decide +kernel
theorem dX9_oneCassette_93 : decode cX9_oneCassette 93 = .ok (.iaload, 1) := by decide +kernel
theorem dX9_oneCassette_94 : decode cX9_oneCassette 94 = .ok (.invokevirtual 160, 3) := by decide +kernel
theorem dX9_oneCassette_97 : decode cX9_oneCassette 97 = .ok (.istore_n 3, 1) := by decide +kernel
theorem dX9_oneCassette_98 : decode cX9_oneCassette 98 = .ok (.iload_n 3, 1) := by decide +kernel
theorem dX9_oneCassette_99 : decode cX9_oneCassette 99 = .ok (.iconst (-1), 1) := by decide +kernel
theorem dX9_oneCassette_100 : decode cX9_oneCassette 100 = .ok (.if_icmp .ne 8, 3) := by decide +kernel
theorem dX9_oneCassette_103 : decode cX9_oneCassette 103 = .ok (.aload_n 0, 1) := by decide +kernel
theorem dX9_oneCassette_104 : decode cX9_oneCassette 104 = .ok (.iconst 3, 1) := by decide +kernel
theorem dX9_oneCassette_105 : decode cX9_oneCassette 105 = .ok (.invokevirtual 156, 3) := by decide +kernel
theorem dX9_oneCassette_108 : decode cX9_oneCassette 108 = .ok (.aload_n 0, 1) := by decide +kernel
theorem dX9_oneCassette_109 : decode cX9_oneCassette 109 = .ok (.invokevirtual 135, 3) := by decide +kernel
theorem dX9_oneCassette_112 : decode cX9_oneCassette 112 = .ok (.ifCond .eq 4, 3) := by decide +kernel
theorem dX9_oneCassette_115 : decode cX9_oneCassette 115 = .ok (.return_, 1) := by decide +kernel
theorem dX9_oneCassette_116 : decode cX9_oneCassette 116 = .ok (.aload_n 0, 1) := by decide +kernel
theorem dX9_oneCassette_117 : decode cX9_oneCassette 117 = .ok (.invokevirtual 153, 3) := by decide +kernel
theorem dX9_oneCassette_120 : decode cX9_oneCassette 120 = .ok (.iload_n 2, 1) := by decide +kernel
theorem dX9_oneCassette_121 : decode cX9_oneCassette 121 = .ok (.bipush 8, 2) := by decide +kernel
theorem dX9_oneCassette_123 : decode cX9_oneCassette 123 = .ok (.iadd, 1) := by decide +kernel
theorem dX9_oneCassette_124 : decode cX9_oneCassette 124 = .ok (.iconst 4, 1) := by decide +kernel
theorem dX9_oneCassette_125 : decode cX9_oneCassette 125 = .ok (.aload_n 0, 1) := by decide +kernel
theorem dX9_oneCassette_126 : decode cX9_oneCassette 126 = .ok (.getfield 25, 3) := by decide +kernel
theorem dX9_oneCassette_129 : decode cX9_oneCassette 129 = .ok (.iload_n 2, 1) := by decide +kernel
theorem dX9_oneCassette_130 : decode cX9_oneCassette 130 = .ok (.iconst 4, 1) := by decide +kernel
theorem dX9_oneCassette_131 : decode cX9_oneCassette 131 = .ok (.iadd, 1) := by decide +kernel
theorem dX9_oneCassette_132 : decode cX9_oneCassette 132 = .ok (.iaload, 1) := by decide +kernel
theorem dX9_oneCassette_133 : decode cX9_oneCassette 133 = .ok (.imul, 1) := by decide +kernel
theorem dX9_oneCassette_134 : decode cX9_oneCassette 134 = .ok (.iadd, 1) := by decide +kernel
theorem dX9_oneCassette_135 : decode cX9_oneCassette 135 = .ok (.istore 4, 2) := by decide +kernel
theorem dX9_oneCassette_137 : decode cX9_oneCassette 137 = .ok (.aload_n 0, 1) := by decide +kernel
theorem dX9_oneCassette_138 : decode cX9_oneCassette 138 = .ok (.getfield 25, 3) := by decide +kernel
theorem dX9_oneCassette_141 : decode cX9_oneCassette 141 = .ok (.iload 4, 2) := by decide +kernel
theorem dX9_oneCassette_143 : decode cX9_oneCassette 143 = .ok (.iconst 0, 1) := by decide +kernel
theorem dX9_oneCassette_144 : decode cX9_oneCassette 144 = .ok (.iadd, 1) := by decide +kernel
theorem dX9_oneCassette_145 : decode cX9_oneCassette 145 = .ok (.aload_n 0, 1) := by decide +kernel
theorem dX9_oneCassette_146 : decode cX9_oneCassette 146 = .ok (.getfield 25, 3) := by decide +kernel
theorem dX9_oneCassette_149 : decode cX9_oneCassette 149 = .ok (.iconst 3, 1) := by decide +kernel
theorem dX9_oneCassette_150 : decode cX9_oneCassette 150 = .ok (.iaload, 1) := by decide +kernel
theorem dX9_oneCassette_151 : decode cX9_oneCassette 151 = .ok (.iastore, 1) := by decide +kernel
theorem dX9_oneCassette_152 : decode cX9_oneCassette 152 = .ok (.aload_n 0, 1) := by decide +kernel
theorem dX9_oneCassette_153 : decode cX9_oneCassette 153 = .ok (.getfield 25, 3) := by decide +kernel
theorem dX9_oneCassette_156 : decode cX9_oneCassette 156 = .ok (.iload 4, 2) := by decide +kernel
theorem dX9_oneCassette_158 : decode cX9_oneCassette 158 = .ok (.iconst 1, 1) := by decide +kernel
theorem dX9_oneCassette_159 : decode cX9_oneCassette 159 = .ok (.iadd, 1) := by decide +kernel
theorem dX9_oneCassette_160 : decode cX9_oneCassette 160 = .ok (.iload_n 3, 1) := by decide +kernel
theorem dX9_oneCassette_161 : decode cX9_oneCassette 161 = .ok (.iastore, 1) := by decide +kernel
theorem dX9_oneCassette_162 : decode cX9_oneCassette 162 = .ok (.aload_n 0, 1) := by decide +kernel
theorem dX9_oneCassette_163 : decode cX9_oneCassette 163 = .ok (.getfield 25, 3) := by decide +kernel
theorem dX9_oneCassette_166 : decode cX9_oneCassette 166 = .ok (.iload 4, 2) := by decide +kernel
theorem dX9_oneCassette_168 : decode cX9_oneCassette 168 = .ok (.iconst 2, 1) := by decide +kernel
theorem dX9_oneCassette_169 : decode cX9_oneCassette 169 = .ok (.iadd, 1) := by decide +kernel
theorem dX9_oneCassette_170 : decode cX9_oneCassette 170 = .ok (.aload_n 0, 1) := by decide +kernel
theorem dX9_oneCassette_171 : decode cX9_oneCassette 171 = .ok (.iconst 1, 1) := by decide +kernel
theorem dX9_oneCassette_172 : decode cX9_oneCassette 172 = .ok (.sipush 999, 3) := by decide +kernel
theorem dX9_oneCassette_175 : decode cX9_oneCassette 175 = .ok (.invokevirtual 168, 3) := by decide +kernel
theorem dX9_oneCassette_178 : decode cX9_oneCassette 178 = .ok (.iastore, 1) := by decide +kernel
theorem dX9_oneCassette_179 : decode cX9_oneCassette 179 = .ok (.aload_n 0, 1) := by decide +kernel
theorem dX9_oneCassette_180 : decode cX9_oneCassette 180 = .ok (.getfield 25, 3) := by decide +kernel
theorem dX9_oneCassette_183 : decode cX9_oneCassette 183 = .ok (.iload 4, 2) := by decide +kernel
theorem dX9_oneCassette_185 : decode cX9_oneCassette 185 = .ok (.iconst 3, 1) := by decide +kernel
theorem dX9_oneCassette_186 : decode cX9_oneCassette 186 = .ok (.iadd, 1) := by decide +kernel
theorem dX9_oneCassette_187 : decode cX9_oneCassette 187 = .ok (.aload_n 0, 1) := by decide +kernel
theorem dX9_oneCassette_188 : decode cX9_oneCassette 188 = .ok (.iconst 0, 1) := by decide +kernel
theorem dX9_oneCassette_189 : decode cX9_oneCassette 189 = .ok (.sipush 1000, 3) := by decide +kernel
theorem dX9_oneCassette_192 : decode cX9_oneCassette 192 = .ok (.invokevirtual 168, 3) := by decide +kernel
theorem dX9_oneCassette_195 : decode cX9_oneCassette 195 = .ok (.iastore, 1) := by decide +kernel
theorem dX9_oneCassette_196 : decode cX9_oneCassette 196 = .ok (.aload_n 0, 1) := by decide +kernel
theorem dX9_oneCassette_197 : decode cX9_oneCassette 197 = .ok (.getfield 25, 3) := by decide +kernel
theorem dX9_oneCassette_200 : decode cX9_oneCassette 200 = .ok (.iload_n 2, 1) := by decide +kernel
theorem dX9_oneCassette_201 : decode cX9_oneCassette 201 = .ok (.iconst 4, 1) := by decide +kernel
theorem dX9_oneCassette_202 : decode cX9_oneCassette 202 = .ok (.iadd, 1) := by decide +kernel
theorem dX9_oneCassette_203 : decode cX9_oneCassette 203 = .ok (.dup2, 1) := by decide +kernel
theorem dX9_oneCassette_204 : decode cX9_oneCassette 204 = .ok (.iaload, 1) := by decide +kernel
theorem dX9_oneCassette_205 : decode cX9_oneCassette 205 = .ok (.iconst 1, 1) := by decide +kernel
theorem dX9_oneCassette_206 : decode cX9_oneCassette 206 = .ok (.iadd, 1) := by decide +kernel
theorem dX9_oneCassette_207 : decode cX9_oneCassette 207 = .ok (.iastore, 1) := by decide +kernel
theorem dX9_oneCassette_208 : decode cX9_oneCassette 208 = .ok (.aload_n 0, 1) := by decide +kernel
theorem dX9_oneCassette_209 : decode cX9_oneCassette 209 = .ok (.getfield 25, 3) := by decide +kernel
theorem dX9_oneCassette_212 : decode cX9_oneCassette 212 = .ok (.iconst 3, 1) := by decide +kernel
theorem dX9_oneCassette_213 : decode cX9_oneCassette 213 = .ok (.dup2, 1) := by decide +kernel
theorem dX9_oneCassette_214 : decode cX9_oneCassette 214 = .ok (.iaload, 1) := by decide +kernel
theorem dX9_oneCassette_215 : decode cX9_oneCassette 215 = .ok (.iconst 1, 1) := by decide +kernel
theorem dX9_oneCassette_216 : decode cX9_oneCassette 216 = .ok (.iadd, 1) := by decide +kernel
theorem dX9_oneCassette_217 : decode cX9_oneCassette 217 = .ok (.iastore, 1) := by decide +kernel
theorem dX9_oneCassette_218 : decode cX9_oneCassette 218 = .ok (.aload_n 0, 1) := by decide +kernel
theorem dX9_oneCassette_219 : decode cX9_oneCassette 219 = .ok (.invokevirtual 171, 3) := by decide +kernel
theorem dX9_oneCassette_222 : decode cX9_oneCassette 222 = .ok (.return_, 1) := by decide +kernel
theorem dX9_reads_0 : decode cX9_reads 0 = .ok (.aload_n 0, 1) := by decide +kernel
theorem dX9_reads_1 : decode cX9_reads 1 = .ok (.ldc 188, 2) := by decide +kernel
theorem dX9_reads_3 : decode cX9_reads 3 = .ok (.invokevirtual 185, 3) := by decide +kernel
theorem dX9_reads_6 : decode cX9_reads 6 = .ok (.ifCond .ne 8, 3) := by decide +kernel
theorem dX9_reads_9 : decode cX9_reads 9 = .ok (.aload_n 0, 1) := by decide +kernel
theorem dX9_reads_10 : decode cX9_reads 10 = .ok (.iconst 1, 1) := by decide +kernel
theorem dX9_reads_11 : decode cX9_reads 11 = .ok (.invokevirtual 156, 3) := by decide +kernel
theorem dX9_reads_14 : decode cX9_reads 14 = .ok (.aload_n 0, 1) := by decide +kernel
theorem dX9_reads_15 : decode cX9_reads 15 = .ok (.getfield 13, 3) := by decide +kernel
theorem dX9_reads_18 : decode cX9_reads 18 = .ok (.iconst 0, 1) := by decide +kernel
theorem dX9_reads_19 : decode cX9_reads 19 = .ok (.aload_n 0, 1) := by decide +kernel
theorem dX9_reads_20 : decode cX9_reads 20 = .ok (.iconst 0, 1) := by decide +kernel
theorem dX9_reads_21 : decode cX9_reads 21 = .ok (.sipush 999, 3) := by decide +kernel
theorem dX9_reads_24 : decode cX9_reads 24 = .ok (.invokevirtual 168, 3) := by decide +kernel
theorem dX9_reads_27 : decode cX9_reads 27 = .ok (.iastore, 1) := by decide +kernel
theorem dX9_reads_28 : decode cX9_reads 28 = .ok (.aload_n 0, 1) := by decide +kernel
theorem dX9_reads_29 : decode cX9_reads 29 = .ok (.getfield 13, 3) := by decide +kernel
theorem dX9_reads_32 : decode cX9_reads 32 = .ok (.iconst 1, 1) := by decide +kernel
theorem dX9_reads_33 : decode cX9_reads 33 = .ok (.aload_n 0, 1) := by decide +kernel
theorem dX9_reads_34 : decode cX9_reads 34 = .ok (.iconst 0, 1) := by decide +kernel
theorem dX9_reads_35 : decode cX9_reads 35 = .ok (.bipush 99, 2) := by decide +kernel
theorem dX9_reads_37 : decode cX9_reads 37 = .ok (.invokevirtual 168, 3) := by decide +kernel
theorem dX9_reads_40 : decode cX9_reads 40 = .ok (.iastore, 1) := by decide +kernel
theorem dX9_reads_41 : decode cX9_reads 41 = .ok (.aload_n 0, 1) := by decide +kernel
theorem dX9_reads_42 : decode cX9_reads 42 = .ok (.invokevirtual 171, 3) := by decide +kernel
theorem dX9_reads_45 : decode cX9_reads 45 = .ok (.aload_n 0, 1) := by decide +kernel
theorem dX9_reads_46 : decode cX9_reads 46 = .ok (.ldc 190, 2) := by decide +kernel
theorem dX9_reads_48 : decode cX9_reads 48 = .ok (.invokevirtual 149, 3) := by decide +kernel
theorem dX9_reads_51 : decode cX9_reads 51 = .ok (.ifCond .eq 10, 3) := by decide +kernel
theorem dX9_reads_54 : decode cX9_reads 54 = .ok (.aload_n 0, 1) := by decide +kernel
theorem dX9_reads_55 : decode cX9_reads 55 = .ok (.invokevirtual 192, 3) := by decide +kernel
theorem dX9_reads_58 : decode cX9_reads 58 = .ok (.goto (-13), 3) := by decide +kernel
theorem dX9_reads_61 : decode cX9_reads 61 = .ok (.aload_n 0, 1) := by decide +kernel
theorem dX9_reads_62 : decode cX9_reads 62 = .ok (.ldc 194, 2) := by decide +kernel
theorem dX9_reads_64 : decode cX9_reads 64 = .ok (.invokevirtual 149, 3) := by decide +kernel
theorem dX9_reads_67 : decode cX9_reads 67 = .ok (.ifCond .eq 10, 3) := by decide +kernel
theorem dX9_reads_70 : decode cX9_reads 70 = .ok (.aload_n 0, 1) := by decide +kernel
theorem dX9_reads_71 : decode cX9_reads 71 = .ok (.invokevirtual 196, 3) := by decide +kernel
theorem dX9_reads_74 : decode cX9_reads 74 = .ok (.goto (-13), 3) := by decide +kernel
theorem dX9_reads_77 : decode cX9_reads 77 = .ok (.aload_n 0, 1) := by decide +kernel
theorem dX9_reads_78 : decode cX9_reads 78 = .ok (.ldc 198, 2) := by decide +kernel
theorem dX9_reads_80 : decode cX9_reads 80 = .ok (.invokevirtual 149, 3) := by decide +kernel
theorem dX9_reads_83 : decode cX9_reads 83 = .ok (.ifCond .eq 10, 3) := by decide +kernel
theorem dX9_reads_86 : decode cX9_reads 86 = .ok (.aload_n 0, 1) := by decide +kernel
theorem dX9_reads_87 : decode cX9_reads 87 = .ok (.invokevirtual 200, 3) := by decide +kernel
theorem dX9_reads_90 : decode cX9_reads 90 = .ok (.goto (-13), 3) := by decide +kernel
theorem dX9_reads_93 : decode cX9_reads 93 = .ok (.aload_n 0, 1) := by decide +kernel
theorem dX9_reads_94 : decode cX9_reads 94 = .ok (.ldc 202, 2) := by decide +kernel
theorem dX9_reads_96 : decode cX9_reads 96 = .ok (.invokevirtual 149, 3) := by decide +kernel
theorem dX9_reads_99 : decode cX9_reads 99 = .ok (.ifCond .eq 10, 3) := by decide +kernel
theorem dX9_reads_102 : decode cX9_reads 102 = .ok (.aload_n 0, 1) := by decide +kernel
theorem dX9_reads_103 : decode cX9_reads 103 = .ok (.invokevirtual 204, 3) := by decide +kernel
theorem dX9_reads_106 : decode cX9_reads 106 = .ok (.goto (-13), 3) := by decide +kernel
theorem dX9_reads_109 : decode cX9_reads 109 = .ok (.aload_n 0, 1) := by decide +kernel
theorem dX9_reads_110 : decode cX9_reads 110 = .ok (.ldc 207, 2) := by decide +kernel
theorem dX9_reads_112 : decode cX9_reads 112 = .ok (.invokevirtual 149, 3) := by decide +kernel
theorem dX9_reads_115 : decode cX9_reads 115 = .ok (.ifCond .eq 10, 3) := by decide +kernel
theorem dX9_reads_118 : decode cX9_reads 118 = .ok (.aload_n 0, 1) := by decide +kernel
theorem dX9_reads_119 : decode cX9_reads 119 = .ok (.invokevirtual 209, 3) := by decide +kernel
theorem dX9_reads_122 : decode cX9_reads 122 = .ok (.goto (-13), 3) := by decide +kernel
theorem dX9_reads_125 : decode cX9_reads 125 = .ok (.aload_n 0, 1) := by decide +kernel
theorem dX9_reads_126 : decode cX9_reads 126 = .ok (.getfield 111, 3) := by decide +kernel
theorem dX9_reads_129 : decode cX9_reads 129 = .ok (.ifCond .eq 8, 3) := by decide +kernel
theorem dX9_reads_132 : decode cX9_reads 132 = .ok (.aload_n 0, 1) := by decide +kernel
theorem dX9_reads_133 : decode cX9_reads 133 = .ok (.iconst 1, 1) := by decide +kernel
theorem dX9_reads_134 : decode cX9_reads 134 = .ok (.invokevirtual 156, 3) := by decide +kernel
theorem dX9_reads_137 : decode cX9_reads 137 = .ok (.return_, 1) := by decide +kernel
theorem dX9_load_0 : decode cX9_load 0 = .ok (.aload_n 0, 1) := by decide +kernel
theorem dX9_load_1 : decode cX9_load 1 = .ok (.iconst 0, 1) := by decide +kernel
theorem dX9_load_2 : decode cX9_load 2 = .ok (.putfield 61, 3) := by decide +kernel
theorem dX9_load_5 : decode cX9_load 5 = .ok (.aload_n 0, 1) := by decide +kernel
theorem dX9_load_6 : decode cX9_load 6 = .ok (.aload_n 0, 1) := by decide +kernel
theorem dX9_load_7 : decode cX9_load 7 = .ok (.getfield 87, 3) := by decide +kernel
theorem dX9_load_10 : decode cX9_load 10 = .ok (.putfield 98, 3) := by decide +kernel
theorem dX9_load_13 : decode cX9_load 13 = .ok (.aload_n 0, 1) := by decide +kernel
theorem dX9_load_14 : decode cX9_load 14 = .ok (.iconst 0, 1) := by decide +kernel
theorem dX9_load_15 : decode cX9_load 15 = .ok (.putfield 87, 3) := by decide +kernel
theorem dX9_load_18 : decode cX9_load 18 = .ok (.aload_n 0, 1) := by decide +kernel
theorem dX9_load_19 : decode cX9_load 19 = .ok (.iconst 0, 1) := by decide +kernel
theorem dX9_load_20 : decode cX9_load 20 = .ok (.putfield 101, 3) := by decide +kernel
theorem dX9_load_23 : decode cX9_load 23 = .ok (.aload_n 0, 1) := by decide +kernel
theorem dX9_load_24 : decode cX9_load 24 = .ok (.iconst 0, 1) := by decide +kernel
theorem dX9_load_25 : decode cX9_load 25 = .ok (.putfield 132, 3) := by decide +kernel
theorem dX9_load_28 : decode cX9_load 28 = .ok (.aload_n 0, 1) := by decide +kernel
theorem dX9_load_29 : decode cX9_load 29 = .ok (.iconst (-1), 1) := by decide +kernel
theorem dX9_load_30 : decode cX9_load 30 = .ok (.putfield 45, 3) := by decide +kernel
theorem dX9_load_33 : decode cX9_load 33 = .ok (.aload_n 0, 1) := by decide +kernel
theorem dX9_load_34 : decode cX9_load 34 = .ok (.invokevirtual 55, 3) := by decide +kernel
theorem dX9_load_37 : decode cX9_load 37 = .ok (.aload_n 0, 1) := by decide +kernel
theorem dX9_load_38 : decode cX9_load 38 = .ok (.invokevirtual 153, 3) := by decide +kernel
theorem dX9_load_41 : decode cX9_load 41 = .ok (.aload_n 0, 1) := by decide +kernel
theorem dX9_load_42 : decode cX9_load 42 = .ok (.invokevirtual 212, 3) := by decide +kernel
theorem dX9_load_45 : decode cX9_load 45 = .ok (.aload_n 0, 1) := by decide +kernel
theorem dX9_load_46 : decode cX9_load 46 = .ok (.aload_n 0, 1) := by decide +kernel
theorem dX9_load_47 : decode cX9_load 47 = .ok (.invokevirtual 135, 3) := by decide +kernel
theorem dX9_load_50 : decode cX9_load 50 = .ok (.ifCond .ne 7, 3) := by decide +kernel
theorem dX9_load_53 : decode cX9_load 53 = .ok (.iconst 1, 1) := by decide +kernel
theorem dX9_load_54 : decode cX9_load 54 = .ok (.goto 4, 3) := by decide +kernel
theorem dX9_load_57 : decode cX9_load 57 = .ok (.iconst 0, 1) := by decide +kernel
theorem dX9_load_58 : decode cX9_load 58 = .ok (.iconst 1, 1) := by decide +kernel
theorem dX9_load_59 : decode cX9_load 59 = .ok (.invokevirtual 90, 3) := by decide +kernel
theorem dX9_load_62 : decode cX9_load 62 = .ok (.ifCond .ne 5, 3) := by decide +kernel
theorem dX9_load_65 : decode cX9_load 65 = .ok (.iconst 0, 1) := by decide +kernel
theorem dX9_load_66 : decode cX9_load 66 = .ok (.ireturn, 1) := by decide +kernel
theorem dX9_load_67 : decode cX9_load 67 = .ok (.aload_n 0, 1) := by decide +kernel
theorem dX9_load_68 : decode cX9_load 68 = .ok (.invokevirtual 58, 3) := by decide +kernel
theorem dX9_load_71 : decode cX9_load 71 = .ok (.aload_n 0, 1) := by decide +kernel
theorem dX9_load_72 : decode cX9_load 72 = .ok (.getfield 7, 3) := by decide +kernel
theorem dX9_load_75 : decode cX9_load 75 = .ok (.iconst 5, 1) := by decide +kernel
theorem dX9_load_76 : decode cX9_load 76 = .ok (.iaload, 1) := by decide +kernel
theorem dX9_load_77 : decode cX9_load 77 = .ok (.ireturn, 1) := by decide +kernel
theorem dX9_errorCode_0 : decode cX9_errorCode 0 = .ok (.aload_n 0, 1) := by decide +kernel
theorem dX9_errorCode_1 : decode cX9_errorCode 1 = .ok (.iconst 0, 1) := by decide +kernel
theorem dX9_errorCode_2 : decode cX9_errorCode 2 = .ok (.putfield 61, 3) := by decide +kernel
theorem dX9_errorCode_5 : decode cX9_errorCode 5 = .ok (.aload_n 0, 1) := by decide +kernel
theorem dX9_errorCode_6 : decode cX9_errorCode 6 = .ok (.getfield 132, 3) := by decide +kernel
theorem dX9_errorCode_9 : decode cX9_errorCode 9 = .ok (.ireturn, 1) := by decide +kernel
theorem dX9_errorPosition_0 : decode cX9_errorPosition 0 = .ok (.aload_n 0, 1) := by decide +kernel
theorem dX9_errorPosition_1 : decode cX9_errorPosition 1 = .ok (.iconst 0, 1) := by decide +kernel
theorem dX9_errorPosition_2 : decode cX9_errorPosition 2 = .ok (.putfield 61, 3) := by decide +kernel
theorem dX9_errorPosition_5 : decode cX9_errorPosition 5 = .ok (.aload_n 0, 1) := by decide +kernel
theorem dX9_errorPosition_6 : decode cX9_errorPosition 6 = .ok (.getfield 45, 3) := by decide +kernel
theorem dX9_errorPosition_9 : decode cX9_errorPosition 9 = .ok (.ireturn, 1) := by decide +kernel
theorem dX9_line_0 : decode cX9_line 0 = .ok (.iload_n 0, 1) := by decide +kernel
theorem dX9_line_1 : decode cX9_line 1 = .ok (.iload_n 1, 1) := by decide +kernel
theorem dX9_line_2 : decode cX9_line 2 = .ok (.iload_n 0, 1) := by decide +kernel
theorem dX9_line_3 : decode cX9_line 3 = .ok (.isub, 1) := by decide +kernel
theorem dX9_line_4 : decode cX9_line 4 = .ok (.iload_n 2, 1) := by decide +kernel
theorem dX9_line_5 : decode cX9_line 5 = .ok (.imul, 1) := by decide +kernel
theorem dX9_line_6 : decode cX9_line 6 = .ok (.iload_n 3, 1) := by decide +kernel
theorem dX9_line_7 : decode cX9_line 7 = .ok (.idiv, 1) := by decide +kernel
theorem dX9_line_8 : decode cX9_line 8 = .ok (.iadd, 1) := by decide +kernel
theorem dX9_line_9 : decode cX9_line 9 = .ok (.ireturn, 1) := by decide +kernel
theorem dX9_setOn_0 : decode cX9_setOn 0 = .ok (.aload_n 0, 1) := by decide +kernel
theorem dX9_setOn_1 : decode cX9_setOn 1 = .ok (.getfield 7, 3) := by decide +kernel
theorem dX9_setOn_4 : decode cX9_setOn 4 = .ok (.iconst 2, 1) := by decide +kernel
theorem dX9_setOn_5 : decode cX9_setOn 5 = .ok (.iaload, 1) := by decide +kernel
theorem dX9_setOn_6 : decode cX9_setOn 6 = .ok (.istore_n 2, 1) := by decide +kernel
theorem dX9_setOn_7 : decode cX9_setOn 7 = .ok (.iload_n 2, 1) := by decide +kernel
theorem dX9_setOn_8 : decode cX9_setOn 8 = .ok (.iconst 2, 1) := by decide +kernel
theorem dX9_setOn_9 : decode cX9_setOn 9 = .ok (.if_icmp .ge 21, 3) := by decide +kernel
theorem dX9_setOn_12 : decode cX9_setOn 12 = .ok (.iload_n 2, 1) := by decide +kernel
theorem dX9_setOn_13 : decode cX9_setOn 13 = .ok (.ifCond .ne 9, 3) := by decide +kernel
theorem dX9_setOn_16 : decode cX9_setOn 16 = .ok (.sipush 500, 3) := by decide +kernel
theorem dX9_setOn_19 : decode cX9_setOn 19 = .ok (.goto 10, 3) := by decide +kernel
theorem dX9_setOn_22 : decode cX9_setOn 22 = .ok (.aload_n 0, 1) := by decide +kernel
theorem dX9_setOn_23 : decode cX9_setOn 23 = .ok (.getfield 7, 3) := by decide +kernel
theorem dX9_setOn_26 : decode cX9_setOn 26 = .ok (.bipush 7, 2) := by decide +kernel
theorem dX9_setOn_28 : decode cX9_setOn 28 = .ok (.iaload, 1) := by decide +kernel
theorem dX9_setOn_29 : decode cX9_setOn 29 = .ok (.ireturn, 1) := by decide +kernel
theorem dX9_setOn_30 : decode cX9_setOn 30 = .ok (.iload_n 2, 1) := by decide +kernel
theorem dX9_setOn_31 : decode cX9_setOn 31 = .ok (.iconst 1, 1) := by decide +kernel
theorem dX9_setOn_32 : decode cX9_setOn 32 = .ok (.isub, 1) := by decide +kernel
theorem dX9_setOn_33 : decode cX9_setOn 33 = .ok (.istore_n 3, 1) := by decide +kernel
theorem dX9_setOn_34 : decode cX9_setOn 34 = .ok (.iload_n 3, 1) := by decide +kernel
theorem dX9_setOn_35 : decode cX9_setOn 35 = .ok (.ifCond .lt 24, 3) := by decide +kernel
theorem dX9_setOn_38 : decode cX9_setOn 38 = .ok (.aload_n 0, 1) := by decide +kernel
theorem dX9_setOn_39 : decode cX9_setOn 39 = .ok (.getfield 7, 3) := by decide +kernel
theorem dX9_setOn_42 : decode cX9_setOn 42 = .ok (.bipush 6, 2) := by decide +kernel
theorem dX9_setOn_44 : decode cX9_setOn 44 = .ok (.iconst 2, 1) := by decide +kernel
theorem dX9_setOn_45 : decode cX9_setOn 45 = .ok (.iload_n 3, 1) := by decide +kernel
theorem dX9_setOn_46 : decode cX9_setOn 46 = .ok (.imul, 1) := by decide +kernel
theorem dX9_setOn_47 : decode cX9_setOn 47 = .ok (.iadd, 1) := by decide +kernel
theorem dX9_setOn_48 : decode cX9_setOn 48 = .ok (.iaload, 1) := by decide +kernel
theorem dX9_setOn_49 : decode cX9_setOn 49 = .ok (.iload_n 1, 1) := by decide +kernel
theorem dX9_setOn_50 : decode cX9_setOn 50 = .ok (.if_icmp .le 9, 3) := by decide +kernel
theorem dX9_setOn_53 : decode cX9_setOn 53 = .ok (.iinc 3 (-1), 3) := by decide +kernel
theorem dX9_setOn_56 : decode cX9_setOn 56 = .ok (.goto (-22), 3) := by decide +kernel
theorem dX9_setOn_59 : decode cX9_setOn 59 = .ok (.iload_n 3, 1) := by decide +kernel
theorem dX9_setOn_60 : decode cX9_setOn 60 = .ok (.ifCond .ge 9, 3) := by decide +kernel
theorem dX9_setOn_63 : decode cX9_setOn 63 = .ok (.iload_n 2, 1) := by decide +kernel
theorem dX9_setOn_64 : decode cX9_setOn 64 = .ok (.iconst 1, 1) := by decide +kernel
theorem dX9_setOn_65 : decode cX9_setOn 65 = .ok (.isub, 1) := by decide +kernel
theorem dX9_setOn_66 : decode cX9_setOn 66 = .ok (.goto 4, 3) := by decide +kernel
theorem dX9_setOn_69 : decode cX9_setOn 69 = .ok (.iload_n 3, 1) := by decide +kernel
theorem dX9_setOn_70 : decode cX9_setOn 70 = .ok (.istore 4, 2) := by decide +kernel
theorem dX9_setOn_72 : decode cX9_setOn 72 = .ok (.iload 4, 2) := by decide +kernel
theorem dX9_setOn_74 : decode cX9_setOn 74 = .ok (.iconst 1, 1) := by decide +kernel
theorem dX9_setOn_75 : decode cX9_setOn 75 = .ok (.iadd, 1) := by decide +kernel
theorem dX9_setOn_76 : decode cX9_setOn 76 = .ok (.iload_n 2, 1) := by decide +kernel
theorem dX9_setOn_77 : decode cX9_setOn 77 = .ok (.irem, 1) := by decide +kernel
theorem dX9_setOn_78 : decode cX9_setOn 78 = .ok (.istore 5, 2) := by decide +kernel
theorem dX9_setOn_80 : decode cX9_setOn 80 = .ok (.iload_n 1, 1) := by decide +kernel
theorem dX9_setOn_81 : decode cX9_setOn 81 = .ok (.aload_n 0, 1) := by decide +kernel
theorem dX9_setOn_82 : decode cX9_setOn 82 = .ok (.getfield 7, 3) := by decide +kernel
theorem dX9_setOn_85 : decode cX9_setOn 85 = .ok (.bipush 6, 2) := by decide +kernel
theorem dX9_setOn_87 : decode cX9_setOn 87 = .ok (.iconst 2, 1) := by decide +kernel
theorem dX9_setOn_88 : decode cX9_setOn 88 = .ok (.iload 4, 2) := by decide +kernel
theorem dX9_setOn_90 : decode cX9_setOn 90 = .ok (.imul, 1) := by decide +kernel
theorem dX9_setOn_91 : decode cX9_setOn 91 = .ok (.iadd, 1) := by decide +kernel
theorem dX9_setOn_92 : decode cX9_setOn 92 = .ok (.iaload, 1) := by decide +kernel
theorem dX9_setOn_93 : decode cX9_setOn 93 = .ok (.isub, 1) := by decide +kernel
theorem dX9_setOn_94 : decode cX9_setOn 94 = .ok (.iload_n 3, 1) := by decide +kernel
theorem dX9_setOn_95 : decode cX9_setOn 95 = .ok (.ifCond .ge 9, 3) := by decide +kernel
theorem dX9_setOn_98 : decode cX9_setOn 98 = .ok (.sipush 365, 3) := by decide +kernel
theorem dX9_setOn_101 : decode cX9_setOn 101 = .ok (.goto 4, 3) := by decide +kernel
theorem dX9_setOn_104 : decode cX9_setOn 104 = .ok (.iconst 0, 1) := by decide +kernel
theorem dX9_setOn_105 : decode cX9_setOn 105 = .ok (.iadd, 1) := by decide +kernel
theorem dX9_setOn_106 : decode cX9_setOn 106 = .ok (.istore 6, 2) := by decide +kernel
theorem dX9_setOn_108 : decode cX9_setOn 108 = .ok (.aload_n 0, 1) := by decide +kernel
theorem dX9_setOn_109 : decode cX9_setOn 109 = .ok (.getfield 7, 3) := by decide +kernel
theorem dX9_setOn_112 : decode cX9_setOn 112 = .ok (.bipush 6, 2) := by decide +kernel
theorem dX9_setOn_114 : decode cX9_setOn 114 = .ok (.iconst 2, 1) := by decide +kernel
theorem dX9_setOn_115 : decode cX9_setOn 115 = .ok (.iload 5, 2) := by decide +kernel
theorem dX9_setOn_117 : decode cX9_setOn 117 = .ok (.imul, 1) := by decide +kernel
theorem dX9_setOn_118 : decode cX9_setOn 118 = .ok (.iadd, 1) := by decide +kernel
theorem dX9_setOn_119 : decode cX9_setOn 119 = .ok (.iaload, 1) := by decide +kernel
theorem dX9_setOn_120 : decode cX9_setOn 120 = .ok (.aload_n 0, 1) := by decide +kernel
theorem dX9_setOn_121 : decode cX9_setOn 121 = .ok (.getfield 7, 3) := by decide +kernel
theorem dX9_setOn_124 : decode cX9_setOn 124 = .ok (.bipush 6, 2) := by decide +kernel
theorem dX9_setOn_126 : decode cX9_setOn 126 = .ok (.iconst 2, 1) := by decide +kernel
theorem dX9_setOn_127 : decode cX9_setOn 127 = .ok (.iload 4, 2) := by decide +kernel
theorem dX9_setOn_129 : decode cX9_setOn 129 = .ok (.imul, 1) := by decide +kernel
theorem dX9_setOn_130 : decode cX9_setOn 130 = .ok (.iadd, 1) := by decide +kernel
theorem dX9_setOn_131 : decode cX9_setOn 131 = .ok (.iaload, 1) := by decide +kernel
theorem dX9_setOn_132 : decode cX9_setOn 132 = .ok (.isub, 1) := by decide +kernel
theorem dX9_setOn_133 : decode cX9_setOn 133 = .ok (.iload 5, 2) := by decide +kernel
theorem dX9_setOn_135 : decode cX9_setOn 135 = .ok (.ifCond .ne 9, 3) := by decide +kernel
theorem dX9_setOn_138 : decode cX9_setOn 138 = .ok (.sipush 365, 3) := by decide +kernel
theorem dX9_setOn_141 : decode cX9_setOn 141 = .ok (.goto 4, 3) := by decide +kernel
theorem dX9_setOn_144 : decode cX9_setOn 144 = .ok (.iconst 0, 1) := by decide +kernel
theorem dX9_setOn_145 : decode cX9_setOn 145 = .ok (.iadd, 1) := by decide +kernel
theorem dX9_setOn_146 : decode cX9_setOn 146 = .ok (.istore 7, 2) := by decide +kernel
theorem dX9_setOn_148 : decode cX9_setOn 148 = .ok (.aload_n 0, 1) := by decide +kernel
theorem dX9_setOn_149 : decode cX9_setOn 149 = .ok (.getfield 7, 3) := by decide +kernel
theorem dX9_setOn_152 : decode cX9_setOn 152 = .ok (.bipush 6, 2) := by decide +kernel
theorem dX9_setOn_154 : decode cX9_setOn 154 = .ok (.iconst 2, 1) := by decide +kernel
theorem dX9_setOn_155 : decode cX9_setOn 155 = .ok (.iload 4, 2) := by decide +kernel
theorem dX9_setOn_157 : decode cX9_setOn 157 = .ok (.imul, 1) := by decide +kernel
theorem dX9_setOn_158 : decode cX9_setOn 158 = .ok (.iadd, 1) := by decide +kernel
theorem dX9_setOn_159 : decode cX9_setOn 159 = .ok (.iconst 1, 1) := by decide +kernel
theorem dX9_setOn_160 : decode cX9_setOn 160 = .ok (.iadd, 1) := by decide +kernel
theorem dX9_setOn_161 : decode cX9_setOn 161 = .ok (.iaload, 1) := by decide +kernel
theorem dX9_setOn_162 : decode cX9_setOn 162 = .ok (.aload_n 0, 1) := by decide +kernel
theorem dX9_setOn_163 : decode cX9_setOn 163 = .ok (.getfield 7, 3) := by decide +kernel
theorem dX9_setOn_166 : decode cX9_setOn 166 = .ok (.bipush 6, 2) := by decide +kernel
theorem dX9_setOn_168 : decode cX9_setOn 168 = .ok (.iconst 2, 1) := by decide +kernel
theorem dX9_setOn_169 : decode cX9_setOn 169 = .ok (.iload 5, 2) := by decide +kernel
theorem dX9_setOn_171 : decode cX9_setOn 171 = .ok (.imul, 1) := by decide +kernel
theorem dX9_setOn_172 : decode cX9_setOn 172 = .ok (.iadd, 1) := by decide +kernel
theorem dX9_setOn_173 : decode cX9_setOn 173 = .ok (.iconst 1, 1) := by decide +kernel
theorem dX9_setOn_174 : decode cX9_setOn 174 = .ok (.iadd, 1) := by decide +kernel
theorem dX9_setOn_175 : decode cX9_setOn 175 = .ok (.iaload, 1) := by decide +kernel
theorem dX9_setOn_176 : decode cX9_setOn 176 = .ok (.iload 6, 2) := by decide +kernel
theorem dX9_setOn_178 : decode cX9_setOn 178 = .ok (.iload 7, 2) := by decide +kernel
theorem dX9_setOn_180 : decode cX9_setOn 180 = .ok (.invokestatic 215, 3) := by decide +kernel
theorem dX9_setOn_183 : decode cX9_setOn 183 = .ok (.ireturn, 1) := by decide +kernel
theorem dX9_roomNow_0 : decode cX9_roomNow 0 = .ok (.aload_n 0, 1) := by decide +kernel
theorem dX9_roomNow_1 : decode cX9_roomNow 1 = .ok (.aload_n 0, 1) := by decide +kernel
theorem dX9_roomNow_2 : decode cX9_roomNow 2 = .ok (.getfield 16, 3) := by decide +kernel
theorem dX9_roomNow_5 : decode cX9_roomNow 5 = .ok (.iconst 0, 1) := by decide +kernel
theorem dX9_roomNow_6 : decode cX9_roomNow 6 = .ok (.iaload, 1) := by decide +kernel
theorem dX9_roomNow_7 : decode cX9_roomNow 7 = .ok (.bipush 24, 2) := by decide +kernel
theorem dX9_roomNow_9 : decode cX9_roomNow 9 = .ok (.idiv, 1) := by decide +kernel
theorem dX9_roomNow_10 : decode cX9_roomNow 10 = .ok (.sipush 365, 3) := by decide +kernel
theorem dX9_roomNow_13 : decode cX9_roomNow 13 = .ok (.irem, 1) := by decide +kernel
theorem dX9_roomNow_14 : decode cX9_roomNow 14 = .ok (.invokevirtual 219, 3) := by decide +kernel
theorem dX9_roomNow_17 : decode cX9_roomNow 17 = .ok (.aload_n 0, 1) := by decide +kernel
theorem dX9_roomNow_18 : decode cX9_roomNow 18 = .ok (.getfield 16, 3) := by decide +kernel
theorem dX9_roomNow_21 : decode cX9_roomNow 21 = .ok (.iconst 1, 1) := by decide +kernel
theorem dX9_roomNow_22 : decode cX9_roomNow 22 = .ok (.iaload, 1) := by decide +kernel
theorem dX9_roomNow_23 : decode cX9_roomNow 23 = .ok (.iadd, 1) := by decide +kernel
theorem dX9_roomNow_24 : decode cX9_roomNow 24 = .ok (.istore_n 1, 1) := by decide +kernel
theorem dX9_roomNow_25 : decode cX9_roomNow 25 = .ok (.iload_n 1, 1) := by decide +kernel
theorem dX9_roomNow_26 : decode cX9_roomNow 26 = .ok (.ifCond .ge 7, 3) := by decide +kernel
theorem dX9_roomNow_29 : decode cX9_roomNow 29 = .ok (.iconst 0, 1) := by decide +kernel
theorem dX9_roomNow_30 : decode cX9_roomNow 30 = .ok (.goto 17, 3) := by decide +kernel
theorem dX9_roomNow_33 : decode cX9_roomNow 33 = .ok (.iload_n 1, 1) := by decide +kernel
theorem dX9_roomNow_34 : decode cX9_roomNow 34 = .ok (.sipush 1000, 3) := by decide +kernel
theorem dX9_roomNow_37 : decode cX9_roomNow 37 = .ok (.if_icmp .le 9, 3) := by decide +kernel
theorem dX9_roomNow_40 : decode cX9_roomNow 40 = .ok (.sipush 1000, 3) := by decide +kernel
theorem dX9_roomNow_43 : decode cX9_roomNow 43 = .ok (.goto 4, 3) := by decide +kernel
theorem dX9_roomNow_46 : decode cX9_roomNow 46 = .ok (.iload_n 1, 1) := by decide +kernel
theorem dX9_roomNow_47 : decode cX9_roomNow 47 = .ok (.ireturn, 1) := by decide +kernel
theorem dX9_cassettesInAll_0 : decode cX9_cassettesInAll 0 = .ok (.iconst 0, 1) := by decide +kernel
theorem dX9_cassettesInAll_1 : decode cX9_cassettesInAll 1 = .ok (.istore_n 1, 1) := by decide +kernel
theorem dX9_cassettesInAll_2 : decode cX9_cassettesInAll 2 = .ok (.iconst 0, 1) := by decide +kernel
theorem dX9_cassettesInAll_3 : decode cX9_cassettesInAll 3 = .ok (.istore_n 2, 1) := by decide +kernel
theorem dX9_cassettesInAll_4 : decode cX9_cassettesInAll 4 = .ok (.iload_n 2, 1) := by decide +kernel
theorem dX9_cassettesInAll_5 : decode cX9_cassettesInAll 5 = .ok (.aload_n 0, 1) := by decide +kernel
theorem dX9_cassettesInAll_6 : decode cX9_cassettesInAll 6 = .ok (.getfield 7, 3) := by decide +kernel
theorem dX9_cassettesInAll_9 : decode cX9_cassettesInAll 9 = .ok (.iconst 5, 1) := by decide +kernel
theorem dX9_cassettesInAll_10 : decode cX9_cassettesInAll 10 = .ok (.iaload, 1) := by decide +kernel
theorem dX9_cassettesInAll_11 : decode cX9_cassettesInAll 11 = .ok (.if_icmp .ge 18, 3) := by decide +kernel
theorem dX9_cassettesInAll_14 : decode cX9_cassettesInAll 14 = .ok (.iload_n 1, 1) := by decide +kernel
theorem dX9_cassettesInAll_15 : decode cX9_cassettesInAll 15 = .ok (.aload_n 0, 1) := by decide +kernel
theorem dX9_cassettesInAll_16 : decode cX9_cassettesInAll 16 = .ok (.iload_n 2, 1) := by decide +kernel
theorem dX9_cassettesInAll_17 : decode cX9_cassettesInAll 17 = .ok (.iconst 4, 1) := by decide +kernel
theorem dX9_cassettesInAll_18 : decode cX9_cassettesInAll 18 = .ok (.invokevirtual 64, 3) := by decide +kernel
theorem dX9_cassettesInAll_21 : decode cX9_cassettesInAll 21 = .ok (.iadd, 1) := by decide +kernel
theorem dX9_cassettesInAll_22 : decode cX9_cassettesInAll 22 = .ok (.istore_n 1, 1) := by decide +kernel
theorem dX9_cassettesInAll_23 : decode cX9_cassettesInAll 23 = .ok (.iinc 2 1, 3) := by decide +kernel
theorem dX9_cassettesInAll_26 : decode cX9_cassettesInAll 26 = .ok (.goto (-22), 3) := by decide +kernel
theorem dX9_cassettesInAll_29 : decode cX9_cassettesInAll 29 = .ok (.iload_n 1, 1) := by decide +kernel
theorem dX9_cassettesInAll_30 : decode cX9_cassettesInAll 30 = .ok (.ireturn, 1) := by decide +kernel
theorem dX9_report_0 : decode cX9_report 0 = .ok (.aload_n 0, 1) := by decide +kernel
theorem dX9_report_1 : decode cX9_report 1 = .ok (.iconst 0, 1) := by decide +kernel
theorem dX9_report_2 : decode cX9_report 2 = .ok (.putfield 61, 3) := by decide +kernel
theorem dX9_report_5 : decode cX9_report 5 = .ok (.aload_n 0, 1) := by decide +kernel
theorem dX9_report_6 : decode cX9_report 6 = .ok (.iload_n 1, 1) := by decide +kernel
theorem dX9_report_7 : decode cX9_report 7 = .ok (.iconst 0, 1) := by decide +kernel
theorem dX9_report_8 : decode cX9_report 8 = .ok (.bipush 9, 2) := by decide +kernel
theorem dX9_report_10 : decode cX9_report 10 = .ok (.invokestatic 94, 3) := by decide +kernel
theorem dX9_report_13 : decode cX9_report 13 = .ok (.iconst 1, 1) := by decide +kernel
theorem dX9_report_14 : decode cX9_report 14 = .ok (.invokevirtual 90, 3) := by decide +kernel
theorem dX9_report_17 : decode cX9_report 17 = .ok (.ifCond .ne 5, 3) := by decide +kernel
theorem dX9_report_20 : decode cX9_report 20 = .ok (.iconst 0, 1) := by decide +kernel
theorem dX9_report_21 : decode cX9_report 21 = .ok (.ireturn, 1) := by decide +kernel
theorem dX9_report_22 : decode cX9_report 22 = .ok (.iload_n 1, 1) := by decide +kernel
theorem dX9_report_23 : decode cX9_report 23 = .ok (.tableswitch 118 0 8 #[49, 56, 70, 80, 87, 94, 99, 106, 113], 49) := by decide +kernel
theorem dX9_report_72 : decode cX9_report 72 = .ok (.aload_n 0, 1) := by decide +kernel
theorem dX9_report_73 : decode cX9_report 73 = .ok (.getfield 16, 3) := by decide +kernel
theorem dX9_report_76 : decode cX9_report 76 = .ok (.iconst 0, 1) := by decide +kernel
theorem dX9_report_77 : decode cX9_report 77 = .ok (.iaload, 1) := by decide +kernel
theorem dX9_report_78 : decode cX9_report 78 = .ok (.ireturn, 1) := by decide +kernel
theorem dX9_report_79 : decode cX9_report 79 = .ok (.aload_n 0, 1) := by decide +kernel
theorem dX9_report_80 : decode cX9_report 80 = .ok (.getfield 16, 3) := by decide +kernel
theorem dX9_report_83 : decode cX9_report 83 = .ok (.iconst 0, 1) := by decide +kernel
theorem dX9_report_84 : decode cX9_report 84 = .ok (.iaload, 1) := by decide +kernel
theorem dX9_report_85 : decode cX9_report 85 = .ok (.bipush 24, 2) := by decide +kernel
theorem dX9_report_87 : decode cX9_report 87 = .ok (.idiv, 1) := by decide +kernel
theorem dX9_report_88 : decode cX9_report 88 = .ok (.sipush 365, 3) := by decide +kernel
theorem dX9_report_91 : decode cX9_report 91 = .ok (.irem, 1) := by decide +kernel
theorem dX9_report_92 : decode cX9_report 92 = .ok (.ireturn, 1) := by decide +kernel
theorem dX9_report_93 : decode cX9_report 93 = .ok (.aload_n 0, 1) := by decide +kernel
theorem dX9_report_94 : decode cX9_report 94 = .ok (.getfield 16, 3) := by decide +kernel
theorem dX9_report_97 : decode cX9_report 97 = .ok (.iconst 0, 1) := by decide +kernel
theorem dX9_report_98 : decode cX9_report 98 = .ok (.iaload, 1) := by decide +kernel
theorem dX9_report_99 : decode cX9_report 99 = .ok (.bipush 24, 2) := by decide +kernel
theorem dX9_report_101 : decode cX9_report 101 = .ok (.irem, 1) := by decide +kernel
theorem dX9_report_102 : decode cX9_report 102 = .ok (.ireturn, 1) := by decide +kernel
theorem dX9_report_103 : decode cX9_report 103 = .ok (.aload_n 0, 1) := by decide +kernel
theorem dX9_report_104 : decode cX9_report 104 = .ok (.getfield 7, 3) := by decide +kernel
theorem dX9_report_107 : decode cX9_report 107 = .ok (.iconst 5, 1) := by decide +kernel
theorem dX9_report_108 : decode cX9_report 108 = .ok (.iaload, 1) := by decide +kernel
theorem dX9_report_109 : decode cX9_report 109 = .ok (.ireturn, 1) := by decide +kernel
theorem dX9_report_110 : decode cX9_report 110 = .ok (.aload_n 0, 1) := by decide +kernel
theorem dX9_report_111 : decode cX9_report 111 = .ok (.getfield 7, 3) := by decide +kernel
theorem dX9_report_114 : decode cX9_report 114 = .ok (.iconst 4, 1) := by decide +kernel
theorem dX9_report_115 : decode cX9_report 115 = .ok (.iaload, 1) := by decide +kernel
theorem dX9_report_116 : decode cX9_report 116 = .ok (.ireturn, 1) := by decide +kernel
theorem dX9_report_117 : decode cX9_report 117 = .ok (.aload_n 0, 1) := by decide +kernel
theorem dX9_report_118 : decode cX9_report 118 = .ok (.invokevirtual 222, 3) := by decide +kernel
theorem dX9_report_121 : decode cX9_report 121 = .ok (.ireturn, 1) := by decide +kernel
theorem dX9_report_122 : decode cX9_report 122 = .ok (.aload_n 0, 1) := by decide +kernel
theorem dX9_report_123 : decode cX9_report 123 = .ok (.getfield 16, 3) := by decide +kernel
theorem dX9_report_126 : decode cX9_report 126 = .ok (.iconst 3, 1) := by decide +kernel
theorem dX9_report_127 : decode cX9_report 127 = .ok (.iaload, 1) := by decide +kernel
theorem dX9_report_128 : decode cX9_report 128 = .ok (.ireturn, 1) := by decide +kernel
theorem dX9_report_129 : decode cX9_report 129 = .ok (.aload_n 0, 1) := by decide +kernel
theorem dX9_report_130 : decode cX9_report 130 = .ok (.getfield 16, 3) := by decide +kernel
theorem dX9_report_133 : decode cX9_report 133 = .ok (.iconst 1, 1) := by decide +kernel
theorem dX9_report_134 : decode cX9_report 134 = .ok (.iaload, 1) := by decide +kernel
theorem dX9_report_135 : decode cX9_report 135 = .ok (.ireturn, 1) := by decide +kernel
theorem dX9_report_136 : decode cX9_report 136 = .ok (.aload_n 0, 1) := by decide +kernel
theorem dX9_report_137 : decode cX9_report 137 = .ok (.invokevirtual 225, 3) := by decide +kernel
theorem dX9_report_140 : decode cX9_report 140 = .ok (.ireturn, 1) := by decide +kernel
theorem dX9_report_141 : decode cX9_report 141 = .ok (.aload_n 0, 1) := by decide +kernel
theorem dX9_report_142 : decode cX9_report 142 = .ok (.getfield 16, 3) := by decide +kernel
theorem dX9_report_145 : decode cX9_report 145 = .ok (.iconst 2, 1) := by decide +kernel
theorem dX9_report_146 : decode cX9_report 146 = .ok (.iaload, 1) := by decide +kernel
theorem dX9_report_147 : decode cX9_report 147 = .ok (.ireturn, 1) := by decide +kernel
theorem dX9_setPoint_0 : decode cX9_setPoint 0 = .ok (.aload_n 0, 1) := by decide +kernel
theorem dX9_setPoint_1 : decode cX9_setPoint 1 = .ok (.iconst 0, 1) := by decide +kernel
theorem dX9_setPoint_2 : decode cX9_setPoint 2 = .ok (.putfield 61, 3) := by decide +kernel
theorem dX9_setPoint_5 : decode cX9_setPoint 5 = .ok (.aload_n 0, 1) := by decide +kernel
theorem dX9_setPoint_6 : decode cX9_setPoint 6 = .ok (.iload_n 1, 1) := by decide +kernel
theorem dX9_setPoint_7 : decode cX9_setPoint 7 = .ok (.iconst 0, 1) := by decide +kernel
theorem dX9_setPoint_8 : decode cX9_setPoint 8 = .ok (.sipush 364, 3) := by decide +kernel
theorem dX9_setPoint_11 : decode cX9_setPoint 11 = .ok (.invokestatic 94, 3) := by decide +kernel
theorem dX9_setPoint_14 : decode cX9_setPoint 14 = .ok (.iconst 1, 1) := by decide +kernel
theorem dX9_setPoint_15 : decode cX9_setPoint 15 = .ok (.invokevirtual 90, 3) := by decide +kernel
theorem dX9_setPoint_18 : decode cX9_setPoint 18 = .ok (.ifCond .eq 11, 3) := by decide +kernel
theorem dX9_setPoint_21 : decode cX9_setPoint 21 = .ok (.aload_n 0, 1) := by decide +kernel
theorem dX9_setPoint_22 : decode cX9_setPoint 22 = .ok (.iload_n 1, 1) := by decide +kernel
theorem dX9_setPoint_23 : decode cX9_setPoint 23 = .ok (.invokevirtual 219, 3) := by decide +kernel
theorem dX9_setPoint_26 : decode cX9_setPoint 26 = .ok (.goto 4, 3) := by decide +kernel
theorem dX9_setPoint_29 : decode cX9_setPoint 29 = .ok (.iconst 0, 1) := by decide +kernel
theorem dX9_setPoint_30 : decode cX9_setPoint 30 = .ok (.ireturn, 1) := by decide +kernel
theorem dX9_visitors__0 : decode cX9_visitors_ 0 = .ok (.aload_n 0, 1) := by decide +kernel
theorem dX9_visitors__1 : decode cX9_visitors_ 1 = .ok (.iconst 0, 1) := by decide +kernel
theorem dX9_visitors__2 : decode cX9_visitors_ 2 = .ok (.putfield 61, 3) := by decide +kernel
theorem dX9_visitors__5 : decode cX9_visitors_ 5 = .ok (.aload_n 0, 1) := by decide +kernel
theorem dX9_visitors__6 : decode cX9_visitors_ 6 = .ok (.iload_n 1, 1) := by decide +kernel
theorem dX9_visitors__7 : decode cX9_visitors_ 7 = .ok (.iconst 0, 1) := by decide +kernel
theorem dX9_visitors__8 : decode cX9_visitors_ 8 = .ok (.bipush 23, 2) := by decide +kernel
theorem dX9_visitors__10 : decode cX9_visitors_ 10 = .ok (.invokestatic 94, 3) := by decide +kernel
theorem dX9_visitors__13 : decode cX9_visitors_ 13 = .ok (.iconst 1, 1) := by decide +kernel
theorem dX9_visitors__14 : decode cX9_visitors_ 14 = .ok (.invokevirtual 90, 3) := by decide +kernel
theorem dX9_visitors__17 : decode cX9_visitors_ 17 = .ok (.ifCond .eq 15, 3) := by decide +kernel
theorem dX9_visitors__20 : decode cX9_visitors_ 20 = .ok (.aload_n 0, 1) := by decide +kernel
theorem dX9_visitors__21 : decode cX9_visitors_ 21 = .ok (.getfield 7, 3) := by decide +kernel
theorem dX9_visitors__24 : decode cX9_visitors_ 24 = .ok (.bipush 30, 2) := by decide +kernel
theorem dX9_visitors__26 : decode cX9_visitors_ 26 = .ok (.iload_n 1, 1) := by decide +kernel
theorem dX9_visitors__27 : decode cX9_visitors_ 27 = .ok (.iadd, 1) := by decide +kernel
theorem dX9_visitors__28 : decode cX9_visitors_ 28 = .ok (.iaload, 1) := by decide +kernel
theorem dX9_visitors__29 : decode cX9_visitors_ 29 = .ok (.goto 4, 3) := by decide +kernel
theorem dX9_visitors__32 : decode cX9_visitors_ 32 = .ok (.iconst 0, 1) := by decide +kernel
theorem dX9_visitors__33 : decode cX9_visitors_ 33 = .ok (.ireturn, 1) := by decide +kernel
theorem dX9_contentOf_0 : decode cX9_contentOf 0 = .ok (.bipush 54, 2) := by decide +kernel
theorem dX9_contentOf_2 : decode cX9_contentOf 2 = .ok (.bipush 14, 2) := by decide +kernel
theorem dX9_contentOf_4 : decode cX9_contentOf 4 = .ok (.iload_n 1, 1) := by decide +kernel
theorem dX9_contentOf_5 : decode cX9_contentOf 5 = .ok (.imul, 1) := by decide +kernel
theorem dX9_contentOf_6 : decode cX9_contentOf 6 = .ok (.iadd, 1) := by decide +kernel
theorem dX9_contentOf_7 : decode cX9_contentOf 7 = .ok (.iconst 2, 1) := by decide +kernel
theorem dX9_contentOf_8 : decode cX9_contentOf 8 = .ok (.iadd, 1) := by decide +kernel
theorem dX9_contentOf_9 : decode cX9_contentOf 9 = .ok (.istore_n 3, 1) := by decide +kernel
theorem dX9_contentOf_10 : decode cX9_contentOf 10 = .ok (.iload_n 3, 1) := by decide +kernel
theorem dX9_contentOf_11 : decode cX9_contentOf 11 = .ok (.iconst 2, 1) := by decide +kernel
theorem dX9_contentOf_12 : decode cX9_contentOf 12 = .ok (.aload_n 0, 1) := by decide +kernel
theorem dX9_contentOf_13 : decode cX9_contentOf 13 = .ok (.getfield 7, 3) := by decide +kernel
theorem dX9_contentOf_16 : decode cX9_contentOf 16 = .ok (.iload_n 3, 1) := by decide +kernel
theorem dX9_contentOf_17 : decode cX9_contentOf 17 = .ok (.iconst 1, 1) := by decide +kernel
theorem dX9_contentOf_18 : decode cX9_contentOf 18 = .ok (.isub, 1) := by decide +kernel
theorem dX9_contentOf_19 : decode cX9_contentOf 19 = .ok (.iaload, 1) := by decide +kernel
theorem dX9_contentOf_20 : decode cX9_contentOf 20 = .ok (.imul, 1) := by decide +kernel
theorem dX9_contentOf_21 : decode cX9_contentOf 21 = .ok (.iadd, 1) := by decide +kernel
theorem dX9_contentOf_22 : decode cX9_contentOf 22 = .ok (.iconst 2, 1) := by decide +kernel
theorem dX9_contentOf_23 : decode cX9_contentOf 23 = .ok (.isub, 1) := by decide +kernel
theorem dX9_contentOf_24 : decode cX9_contentOf 24 = .ok (.istore 4, 2) := by decide +kernel
theorem dX9_contentOf_26 : decode cX9_contentOf 26 = .ok (.iload_n 2, 1) := by decide +kernel
theorem dX9_contentOf_27 : decode cX9_contentOf 27 = .ok (.aload_n 0, 1) := by decide +kernel
theorem dX9_contentOf_28 : decode cX9_contentOf 28 = .ok (.getfield 7, 3) := by decide +kernel
theorem dX9_contentOf_31 : decode cX9_contentOf 31 = .ok (.iload_n 3, 1) := by decide +kernel
theorem dX9_contentOf_32 : decode cX9_contentOf 32 = .ok (.iaload, 1) := by decide +kernel
theorem dX9_contentOf_33 : decode cX9_contentOf 33 = .ok (.if_icmp .gt 12, 3) := by decide +kernel
theorem dX9_contentOf_36 : decode cX9_contentOf 36 = .ok (.aload_n 0, 1) := by decide +kernel
theorem dX9_contentOf_37 : decode cX9_contentOf 37 = .ok (.getfield 7, 3) := by decide +kernel
theorem dX9_contentOf_40 : decode cX9_contentOf 40 = .ok (.iload_n 3, 1) := by decide +kernel
theorem dX9_contentOf_41 : decode cX9_contentOf 41 = .ok (.iconst 1, 1) := by decide +kernel
theorem dX9_contentOf_42 : decode cX9_contentOf 42 = .ok (.iadd, 1) := by decide +kernel
theorem dX9_contentOf_43 : decode cX9_contentOf 43 = .ok (.iaload, 1) := by decide +kernel
theorem dX9_contentOf_44 : decode cX9_contentOf 44 = .ok (.ireturn, 1) := by decide +kernel
theorem dX9_contentOf_45 : decode cX9_contentOf 45 = .ok (.iload_n 2, 1) := by decide +kernel
theorem dX9_contentOf_46 : decode cX9_contentOf 46 = .ok (.aload_n 0, 1) := by decide +kernel
theorem dX9_contentOf_47 : decode cX9_contentOf 47 = .ok (.getfield 7, 3) := by decide +kernel
theorem dX9_contentOf_50 : decode cX9_contentOf 50 = .ok (.iload 4, 2) := by decide +kernel
theorem dX9_contentOf_52 : decode cX9_contentOf 52 = .ok (.iaload, 1) := by decide +kernel
theorem dX9_contentOf_53 : decode cX9_contentOf 53 = .ok (.if_icmp .lt 13, 3) := by decide +kernel
theorem dX9_contentOf_56 : decode cX9_contentOf 56 = .ok (.aload_n 0, 1) := by decide +kernel
theorem dX9_contentOf_57 : decode cX9_contentOf 57 = .ok (.getfield 7, 3) := by decide +kernel
theorem dX9_contentOf_60 : decode cX9_contentOf 60 = .ok (.iload 4, 2) := by decide +kernel
theorem dX9_contentOf_62 : decode cX9_contentOf 62 = .ok (.iconst 1, 1) := by decide +kernel
theorem dX9_contentOf_63 : decode cX9_contentOf 63 = .ok (.iadd, 1) := by decide +kernel
theorem dX9_contentOf_64 : decode cX9_contentOf 64 = .ok (.iaload, 1) := by decide +kernel
theorem dX9_contentOf_65 : decode cX9_contentOf 65 = .ok (.ireturn, 1) := by decide +kernel
theorem dX9_contentOf_66 : decode cX9_contentOf 66 = .ok (.iload_n 3, 1) := by decide +kernel
theorem dX9_contentOf_67 : decode cX9_contentOf 67 = .ok (.istore 5, 2) := by decide +kernel
theorem dX9_contentOf_69 : decode cX9_contentOf 69 = .ok (.aload_n 0, 1) := by decide +kernel
theorem dX9_contentOf_70 : decode cX9_contentOf 70 = .ok (.getfield 7, 3) := by decide +kernel
theorem dX9_contentOf_73 : decode cX9_contentOf 73 = .ok (.iload 5, 2) := by decide +kernel
theorem dX9_contentOf_75 : decode cX9_contentOf 75 = .ok (.iconst 2, 1) := by decide +kernel
theorem dX9_contentOf_76 : decode cX9_contentOf 76 = .ok (.iadd, 1) := by decide +kernel
theorem dX9_contentOf_77 : decode cX9_contentOf 77 = .ok (.iaload, 1) := by decide +kernel
theorem dX9_contentOf_78 : decode cX9_contentOf 78 = .ok (.iload_n 2, 1) := by decide +kernel
theorem dX9_contentOf_79 : decode cX9_contentOf 79 = .ok (.if_icmp .gt 9, 3) := by decide +kernel
theorem dX9_contentOf_82 : decode cX9_contentOf 82 = .ok (.iinc 5 2, 3) := by decide +kernel
theorem dX9_contentOf_85 : decode cX9_contentOf 85 = .ok (.goto (-16), 3) := by decide +kernel
theorem dX9_contentOf_88 : decode cX9_contentOf 88 = .ok (.aload_n 0, 1) := by decide +kernel
theorem dX9_contentOf_89 : decode cX9_contentOf 89 = .ok (.getfield 7, 3) := by decide +kernel
theorem dX9_contentOf_92 : decode cX9_contentOf 92 = .ok (.iload 5, 2) := by decide +kernel
theorem dX9_contentOf_94 : decode cX9_contentOf 94 = .ok (.iconst 1, 1) := by decide +kernel
theorem dX9_contentOf_95 : decode cX9_contentOf 95 = .ok (.iadd, 1) := by decide +kernel
theorem dX9_contentOf_96 : decode cX9_contentOf 96 = .ok (.iaload, 1) := by decide +kernel
theorem dX9_contentOf_97 : decode cX9_contentOf 97 = .ok (.aload_n 0, 1) := by decide +kernel
theorem dX9_contentOf_98 : decode cX9_contentOf 98 = .ok (.getfield 7, 3) := by decide +kernel
theorem dX9_contentOf_101 : decode cX9_contentOf 101 = .ok (.iload 5, 2) := by decide +kernel
theorem dX9_contentOf_103 : decode cX9_contentOf 103 = .ok (.iconst 3, 1) := by decide +kernel
theorem dX9_contentOf_104 : decode cX9_contentOf 104 = .ok (.iadd, 1) := by decide +kernel
theorem dX9_contentOf_105 : decode cX9_contentOf 105 = .ok (.iaload, 1) := by decide +kernel
theorem dX9_contentOf_106 : decode cX9_contentOf 106 = .ok (.iload_n 2, 1) := by decide +kernel
theorem dX9_contentOf_107 : decode cX9_contentOf 107 = .ok (.aload_n 0, 1) := by decide +kernel
theorem dX9_contentOf_108 : decode cX9_contentOf 108 = .ok (.getfield 7, 3) := by decide +kernel
theorem dX9_contentOf_111 : decode cX9_contentOf 111 = .ok (.iload 5, 2) := by decide +kernel
theorem dX9_contentOf_113 : decode cX9_contentOf 113 = .ok (.iaload, 1) := by decide +kernel
theorem dX9_contentOf_114 : decode cX9_contentOf 114 = .ok (.isub, 1) := by decide +kernel
theorem dX9_contentOf_115 : decode cX9_contentOf 115 = .ok (.aload_n 0, 1) := by decide +kernel
theorem dX9_contentOf_116 : decode cX9_contentOf 116 = .ok (.getfield 7, 3) := by decide +kernel
theorem dX9_contentOf_119 : decode cX9_contentOf 119 = .ok (.iload 5, 2) := by decide +kernel
theorem dX9_contentOf_121 : decode cX9_contentOf 121 = .ok (.iconst 2, 1) := by decide +kernel
theorem dX9_contentOf_122 : decode cX9_contentOf 122 = .ok (.iadd, 1) := by decide +kernel
theorem dX9_contentOf_123 : decode cX9_contentOf 123 = .ok (.iaload, 1) := by decide +kernel
theorem dX9_contentOf_124 : decode cX9_contentOf 124 = .ok (.aload_n 0, 1) := by decide +kernel
theorem dX9_contentOf_125 : decode cX9_contentOf 125 = .ok (.getfield 7, 3) := by decide +kernel
theorem dX9_contentOf_128 : decode cX9_contentOf 128 = .ok (.iload 5, 2) := by decide +kernel
theorem dX9_contentOf_130 : decode cX9_contentOf 130 = .ok (.iaload, 1) := by decide +kernel
theorem dX9_contentOf_131 : decode cX9_contentOf 131 = .ok (.isub, 1) := by decide +kernel
theorem dX9_contentOf_132 : decode cX9_contentOf 132 = .ok (.invokestatic 215, 3) := by decide +kernel
theorem dX9_contentOf_135 : decode cX9_contentOf 135 = .ok (.ireturn, 1) := by decide +kernel
theorem dX9_wouldHave_0 : decode cX9_wouldHave 0 = .ok (.aload_n 0, 1) := by decide +kernel
theorem dX9_wouldHave_1 : decode cX9_wouldHave 1 = .ok (.iload_n 1, 1) := by decide +kernel
theorem dX9_wouldHave_2 : decode cX9_wouldHave 2 = .ok (.iload_n 3, 1) := by decide +kernel
theorem dX9_wouldHave_3 : decode cX9_wouldHave 3 = .ok (.invokevirtual 228, 3) := by decide +kernel
theorem dX9_wouldHave_6 : decode cX9_wouldHave 6 = .ok (.iload_n 2, 1) := by decide +kernel
theorem dX9_wouldHave_7 : decode cX9_wouldHave 7 = .ok (.imul, 1) := by decide +kernel
theorem dX9_wouldHave_8 : decode cX9_wouldHave 8 = .ok (.sipush 1000, 3) := by decide +kernel
theorem dX9_wouldHave_11 : decode cX9_wouldHave 11 = .ok (.idiv, 1) := by decide +kernel
theorem dX9_wouldHave_12 : decode cX9_wouldHave 12 = .ok (.ireturn, 1) := by decide +kernel
theorem dX9_isKind_0 : decode cX9_isKind 0 = .ok (.iload_n 1, 1) := by decide +kernel
theorem dX9_isKind_1 : decode cX9_isKind 1 = .ok (.iconst 0, 1) := by decide +kernel
theorem dX9_isKind_2 : decode cX9_isKind 2 = .ok (.aload_n 0, 1) := by decide +kernel
theorem dX9_isKind_3 : decode cX9_isKind 3 = .ok (.getfield 7, 3) := by decide +kernel
theorem dX9_isKind_6 : decode cX9_isKind 6 = .ok (.iconst 4, 1) := by decide +kernel
theorem dX9_isKind_7 : decode cX9_isKind 7 = .ok (.iaload, 1) := by decide +kernel
theorem dX9_isKind_8 : decode cX9_isKind 8 = .ok (.iconst 1, 1) := by decide +kernel
theorem dX9_isKind_9 : decode cX9_isKind 9 = .ok (.isub, 1) := by decide +kernel
theorem dX9_isKind_10 : decode cX9_isKind 10 = .ok (.invokestatic 94, 3) := by decide +kernel
theorem dX9_isKind_13 : decode cX9_isKind 13 = .ok (.ireturn, 1) := by decide +kernel
theorem dX9_isCase_0 : decode cX9_isCase 0 = .ok (.iload_n 1, 1) := by decide +kernel
theorem dX9_isCase_1 : decode cX9_isCase 1 = .ok (.iconst 0, 1) := by decide +kernel
theorem dX9_isCase_2 : decode cX9_isCase 2 = .ok (.aload_n 0, 1) := by decide +kernel
theorem dX9_isCase_3 : decode cX9_isCase 3 = .ok (.getfield 7, 3) := by decide +kernel
theorem dX9_isCase_6 : decode cX9_isCase 6 = .ok (.iconst 5, 1) := by decide +kernel
theorem dX9_isCase_7 : decode cX9_isCase 7 = .ok (.iaload, 1) := by decide +kernel
theorem dX9_isCase_8 : decode cX9_isCase 8 = .ok (.iconst 1, 1) := by decide +kernel
theorem dX9_isCase_9 : decode cX9_isCase 9 = .ok (.isub, 1) := by decide +kernel
theorem dX9_isCase_10 : decode cX9_isCase 10 = .ok (.invokestatic 94, 3) := by decide +kernel
theorem dX9_isCase_13 : decode cX9_isCase 13 = .ok (.ireturn, 1) := by decide +kernel
theorem dX9_content_0 : decode cX9_content 0 = .ok (.aload_n 0, 1) := by decide +kernel
theorem dX9_content_1 : decode cX9_content 1 = .ok (.iconst 0, 1) := by decide +kernel
theorem dX9_content_2 : decode cX9_content 2 = .ok (.putfield 61, 3) := by decide +kernel
theorem dX9_content_5 : decode cX9_content 5 = .ok (.aload_n 0, 1) := by decide +kernel
theorem dX9_content_6 : decode cX9_content 6 = .ok (.aload_n 0, 1) := by decide +kernel
theorem dX9_content_7 : decode cX9_content 7 = .ok (.iload_n 1, 1) := by decide +kernel
theorem dX9_content_8 : decode cX9_content 8 = .ok (.invokevirtual 231, 3) := by decide +kernel
theorem dX9_content_11 : decode cX9_content 11 = .ok (.iconst 1, 1) := by decide +kernel
theorem dX9_content_12 : decode cX9_content 12 = .ok (.invokevirtual 90, 3) := by decide +kernel
theorem dX9_content_15 : decode cX9_content 15 = .ok (.ifCond .eq 12, 3) := by decide +kernel
theorem dX9_content_18 : decode cX9_content 18 = .ok (.aload_n 0, 1) := by decide +kernel
theorem dX9_content_19 : decode cX9_content 19 = .ok (.iload_n 1, 1) := by decide +kernel
theorem dX9_content_20 : decode cX9_content 20 = .ok (.iload_n 2, 1) := by decide +kernel
theorem dX9_content_21 : decode cX9_content 21 = .ok (.invokevirtual 228, 3) := by decide +kernel
theorem dX9_content_24 : decode cX9_content 24 = .ok (.goto 4, 3) := by decide +kernel
theorem dX9_content_27 : decode cX9_content 27 = .ok (.iconst 0, 1) := by decide +kernel
theorem dX9_content_28 : decode cX9_content 28 = .ok (.ireturn, 1) := by decide +kernel
theorem dX9_announce_0 : decode cX9_announce 0 = .ok (.aload_n 0, 1) := by decide +kernel
theorem dX9_announce_1 : decode cX9_announce 1 = .ok (.iconst 0, 1) := by decide +kernel
theorem dX9_announce_2 : decode cX9_announce 2 = .ok (.putfield 61, 3) := by decide +kernel
theorem dX9_announce_5 : decode cX9_announce 5 = .ok (.aload_n 0, 1) := by decide +kernel
theorem dX9_announce_6 : decode cX9_announce 6 = .ok (.iload_n 1, 1) := by decide +kernel
theorem dX9_announce_7 : decode cX9_announce 7 = .ok (.iconst 1, 1) := by decide +kernel
theorem dX9_announce_8 : decode cX9_announce 8 = .ok (.sipush 999, 3) := by decide +kernel
theorem dX9_announce_11 : decode cX9_announce 11 = .ok (.invokestatic 94, 3) := by decide +kernel
theorem dX9_announce_14 : decode cX9_announce 14 = .ok (.iconst 1, 1) := by decide +kernel
theorem dX9_announce_15 : decode cX9_announce 15 = .ok (.invokevirtual 90, 3) := by decide +kernel
theorem dX9_announce_18 : decode cX9_announce 18 = .ok (.ifCond .eq 30, 3) := by decide +kernel
theorem dX9_announce_21 : decode cX9_announce 21 = .ok (.aload_n 0, 1) := by decide +kernel
theorem dX9_announce_22 : decode cX9_announce 22 = .ok (.aload_n 0, 1) := by decide +kernel
theorem dX9_announce_23 : decode cX9_announce 23 = .ok (.getfield 16, 3) := by decide +kernel
theorem dX9_announce_26 : decode cX9_announce 26 = .ok (.iconst 2, 1) := by decide +kernel
theorem dX9_announce_27 : decode cX9_announce 27 = .ok (.iaload, 1) := by decide +kernel
theorem dX9_announce_28 : decode cX9_announce 28 = .ok (.iload_n 1, 1) := by decide +kernel
theorem dX9_announce_29 : decode cX9_announce 29 = .ok (.iadd, 1) := by decide +kernel
theorem dX9_announce_30 : decode cX9_announce 30 = .ok (.sipush 5000, 3) := by decide +kernel
theorem dX9_announce_33 : decode cX9_announce 33 = .ok (.if_icmp .gt 7, 3) := by decide +kernel
theorem dX9_announce_36 : decode cX9_announce 36 = .ok (.iconst 1, 1) := by decide +kernel
theorem dX9_announce_37 : decode cX9_announce 37 = .ok (.goto 4, 3) := by decide +kernel
theorem dX9_announce_40 : decode cX9_announce 40 = .ok (.iconst 0, 1) := by decide +kernel
theorem dX9_announce_41 : decode cX9_announce 41 = .ok (.iconst 2, 1) := by decide +kernel
theorem dX9_announce_42 : decode cX9_announce 42 = .ok (.invokevirtual 90, 3) := by decide +kernel
theorem dX9_announce_45 : decode cX9_announce 45 = .ok (.ifCond .ne 5, 3) := by decide +kernel
theorem dX9_announce_48 : decode cX9_announce 48 = .ok (.iconst 0, 1) := by decide +kernel
theorem dX9_announce_49 : decode cX9_announce 49 = .ok (.ireturn, 1) := by decide +kernel
theorem dX9_announce_50 : decode cX9_announce 50 = .ok (.aload_n 0, 1) := by decide +kernel
theorem dX9_announce_51 : decode cX9_announce 51 = .ok (.getfield 16, 3) := by decide +kernel
theorem dX9_announce_54 : decode cX9_announce 54 = .ok (.iconst 2, 1) := by decide +kernel
theorem dX9_announce_55 : decode cX9_announce 55 = .ok (.dup2, 1) := by decide +kernel
theorem dX9_announce_56 : decode cX9_announce 56 = .ok (.iaload, 1) := by decide +kernel
theorem dX9_announce_57 : decode cX9_announce 57 = .ok (.iload_n 1, 1) := by decide +kernel
theorem dX9_announce_58 : decode cX9_announce 58 = .ok (.iadd, 1) := by decide +kernel
theorem dX9_announce_59 : decode cX9_announce 59 = .ok (.iastore, 1) := by decide +kernel
theorem dX9_announce_60 : decode cX9_announce 60 = .ok (.aload_n 0, 1) := by decide +kernel
theorem dX9_announce_61 : decode cX9_announce 61 = .ok (.getfield 16, 3) := by decide +kernel
theorem dX9_announce_64 : decode cX9_announce 64 = .ok (.iconst 2, 1) := by decide +kernel
theorem dX9_announce_65 : decode cX9_announce 65 = .ok (.iaload, 1) := by decide +kernel
theorem dX9_announce_66 : decode cX9_announce 66 = .ok (.ireturn, 1) := by decide +kernel
theorem dX9_humidityOf_0 : decode cX9_humidityOf 0 = .ok (.ldc2_w 234, 3) := by decide +kernel
theorem dX9_humidityOf_3 : decode cX9_humidityOf 3 = .ok (.aload_n 0, 1) := by decide +kernel
theorem dX9_humidityOf_4 : decode cX9_humidityOf 4 = .ok (.iload_n 1, 1) := by decide +kernel
theorem dX9_humidityOf_5 : decode cX9_humidityOf 5 = .ok (.iconst 3, 1) := by decide +kernel
theorem dX9_humidityOf_6 : decode cX9_humidityOf 6 = .ok (.invokevirtual 64, 3) := by decide +kernel
theorem dX9_humidityOf_9 : decode cX9_humidityOf 9 = .ok (.i2l, 1) := by decide +kernel
theorem dX9_humidityOf_10 : decode cX9_humidityOf 10 = .ok (.lmul, 1) := by decide +kernel
theorem dX9_humidityOf_11 : decode cX9_humidityOf 11 = .ok (.aload_n 0, 1) := by decide +kernel
theorem dX9_humidityOf_12 : decode cX9_humidityOf 12 = .ok (.getfield 7, 3) := by decide +kernel
theorem dX9_humidityOf_15 : decode cX9_humidityOf 15 = .ok (.bipush 110, 2) := by decide +kernel
theorem dX9_humidityOf_17 : decode cX9_humidityOf 17 = .ok (.iload_n 1, 1) := by decide +kernel
theorem dX9_humidityOf_18 : decode cX9_humidityOf 18 = .ok (.iadd, 1) := by decide +kernel
theorem dX9_humidityOf_19 : decode cX9_humidityOf 19 = .ok (.iaload, 1) := by decide +kernel
theorem dX9_humidityOf_20 : decode cX9_humidityOf 20 = .ok (.i2l, 1) := by decide +kernel
theorem dX9_humidityOf_21 : decode cX9_humidityOf 21 = .ok (.ldiv, 1) := by decide +kernel
theorem dX9_humidityOf_22 : decode cX9_humidityOf 22 = .ok (.l2i, 1) := by decide +kernel
theorem dX9_humidityOf_23 : decode cX9_humidityOf 23 = .ok (.ireturn, 1) := by decide +kernel
theorem dX9_inCassettes_0 : decode cX9_inCassettes 0 = .ok (.iconst 0, 1) := by decide +kernel
theorem dX9_inCassettes_1 : decode cX9_inCassettes 1 = .ok (.istore_n 2, 1) := by decide +kernel
theorem dX9_inCassettes_2 : decode cX9_inCassettes 2 = .ok (.iconst 0, 1) := by decide +kernel
theorem dX9_inCassettes_3 : decode cX9_inCassettes 3 = .ok (.istore_n 3, 1) := by decide +kernel
theorem dX9_inCassettes_4 : decode cX9_inCassettes 4 = .ok (.iload_n 3, 1) := by decide +kernel
theorem dX9_inCassettes_5 : decode cX9_inCassettes 5 = .ok (.aload_n 0, 1) := by decide +kernel
theorem dX9_inCassettes_6 : decode cX9_inCassettes 6 = .ok (.iload_n 1, 1) := by decide +kernel
theorem dX9_inCassettes_7 : decode cX9_inCassettes 7 = .ok (.iconst 4, 1) := by decide +kernel
theorem dX9_inCassettes_8 : decode cX9_inCassettes 8 = .ok (.invokevirtual 64, 3) := by decide +kernel
theorem dX9_inCassettes_11 : decode cX9_inCassettes 11 = .ok (.if_icmp .ge 19, 3) := by decide +kernel
theorem dX9_inCassettes_14 : decode cX9_inCassettes 14 = .ok (.iload_n 2, 1) := by decide +kernel
theorem dX9_inCassettes_15 : decode cX9_inCassettes 15 = .ok (.aload_n 0, 1) := by decide +kernel
theorem dX9_inCassettes_16 : decode cX9_inCassettes 16 = .ok (.iload_n 1, 1) := by decide +kernel
theorem dX9_inCassettes_17 : decode cX9_inCassettes 17 = .ok (.iload_n 3, 1) := by decide +kernel
theorem dX9_inCassettes_18 : decode cX9_inCassettes 18 = .ok (.iconst 3, 1) := by decide +kernel
theorem dX9_inCassettes_19 : decode cX9_inCassettes 19 = .ok (.invokevirtual 68, 3) := by decide +kernel
theorem dX9_inCassettes_22 : decode cX9_inCassettes 22 = .ok (.iadd, 1) := by decide +kernel
theorem dX9_inCassettes_23 : decode cX9_inCassettes 23 = .ok (.istore_n 2, 1) := by decide +kernel
theorem dX9_inCassettes_24 : decode cX9_inCassettes 24 = .ok (.iinc 3 1, 3) := by decide +kernel
theorem dX9_inCassettes_27 : decode cX9_inCassettes 27 = .ok (.goto (-23), 3) := by decide +kernel
theorem dX9_inCassettes_30 : decode cX9_inCassettes 30 = .ok (.iload_n 2, 1) := by decide +kernel
theorem dX9_inCassettes_31 : decode cX9_inCassettes 31 = .ok (.ireturn, 1) := by decide +kernel
theorem dX9_moistureOf_0 : decode cX9_moistureOf 0 = .ok (.aload_n 0, 1) := by decide +kernel
theorem dX9_moistureOf_1 : decode cX9_moistureOf 1 = .ok (.iload_n 1, 1) := by decide +kernel
theorem dX9_moistureOf_2 : decode cX9_moistureOf 2 = .ok (.iconst 3, 1) := by decide +kernel
theorem dX9_moistureOf_3 : decode cX9_moistureOf 3 = .ok (.invokevirtual 64, 3) := by decide +kernel
theorem dX9_moistureOf_6 : decode cX9_moistureOf 6 = .ok (.i2l, 1) := by decide +kernel
theorem dX9_moistureOf_7 : decode cX9_moistureOf 7 = .ok (.aload_n 0, 1) := by decide +kernel
theorem dX9_moistureOf_8 : decode cX9_moistureOf 8 = .ok (.iload_n 1, 1) := by decide +kernel
theorem dX9_moistureOf_9 : decode cX9_moistureOf 9 = .ok (.invokevirtual 236, 3) := by decide +kernel
theorem dX9_moistureOf_12 : decode cX9_moistureOf 12 = .ok (.i2l, 1) := by decide +kernel
theorem dX9_moistureOf_13 : decode cX9_moistureOf 13 = .ok (.ladd, 1) := by decide +kernel
theorem dX9_moistureOf_14 : decode cX9_moistureOf 14 = .ok (.lreturn, 1) := by decide +kernel
theorem dX9_displayCase_0 : decode cX9_displayCase 0 = .ok (.aload_n 0, 1) := by decide +kernel
theorem dX9_displayCase_1 : decode cX9_displayCase 1 = .ok (.iconst 0, 1) := by decide +kernel
theorem dX9_displayCase_2 : decode cX9_displayCase 2 = .ok (.putfield 61, 3) := by decide +kernel
theorem dX9_displayCase_5 : decode cX9_displayCase 5 = .ok (.aload_n 0, 1) := by decide +kernel
theorem dX9_displayCase_6 : decode cX9_displayCase 6 = .ok (.aload_n 0, 1) := by decide +kernel
theorem dX9_displayCase_7 : decode cX9_displayCase 7 = .ok (.iload_n 1, 1) := by decide +kernel
theorem dX9_displayCase_8 : decode cX9_displayCase 8 = .ok (.invokevirtual 239, 3) := by decide +kernel
theorem dX9_displayCase_11 : decode cX9_displayCase 11 = .ok (.iconst 1, 1) := by decide +kernel
theorem dX9_displayCase_12 : decode cX9_displayCase 12 = .ok (.invokevirtual 90, 3) := by decide +kernel
theorem dX9_displayCase_15 : decode cX9_displayCase 15 = .ok (.ifCond .eq 18, 3) := by decide +kernel
theorem dX9_displayCase_18 : decode cX9_displayCase 18 = .ok (.aload_n 0, 1) := by decide +kernel
theorem dX9_displayCase_19 : decode cX9_displayCase 19 = .ok (.iload_n 2, 1) := by decide +kernel
theorem dX9_displayCase_20 : decode cX9_displayCase 20 = .ok (.iconst 0, 1) := by decide +kernel
theorem dX9_displayCase_21 : decode cX9_displayCase 21 = .ok (.bipush 10, 2) := by decide +kernel
theorem dX9_displayCase_23 : decode cX9_displayCase 23 = .ok (.invokestatic 94, 3) := by decide +kernel
theorem dX9_displayCase_26 : decode cX9_displayCase 26 = .ok (.iconst 2, 1) := by decide +kernel
theorem dX9_displayCase_27 : decode cX9_displayCase 27 = .ok (.invokevirtual 90, 3) := by decide +kernel
theorem dX9_displayCase_30 : decode cX9_displayCase 30 = .ok (.ifCond .ne 5, 3) := by decide +kernel
theorem dX9_displayCase_33 : decode cX9_displayCase 33 = .ok (.iconst 0, 1) := by decide +kernel
theorem dX9_displayCase_34 : decode cX9_displayCase 34 = .ok (.ireturn, 1) := by decide +kernel
theorem dX9_displayCase_35 : decode cX9_displayCase 35 = .ok (.iload_n 2, 1) := by decide +kernel
theorem dX9_displayCase_36 : decode cX9_displayCase 36 = .ok (.tableswitch 128 0 9 #[56, 66, 73, 80, 86, 93, 99, 106, 113, 120], 56) := by decide +kernel
theorem dX9_displayCase_92 : decode cX9_displayCase 92 = .ok (.aload_n 0, 1) := by decide +kernel
theorem dX9_displayCase_93 : decode cX9_displayCase 93 = .ok (.getfield 7, 3) := by decide +kernel
theorem dX9_displayCase_96 : decode cX9_displayCase 96 = .ok (.bipush 110, 2) := by decide +kernel
theorem dX9_displayCase_98 : decode cX9_displayCase 98 = .ok (.iload_n 1, 1) := by decide +kernel
theorem dX9_displayCase_99 : decode cX9_displayCase 99 = .ok (.iadd, 1) := by decide +kernel
theorem dX9_displayCase_100 : decode cX9_displayCase 100 = .ok (.iaload, 1) := by decide +kernel
theorem dX9_displayCase_101 : decode cX9_displayCase 101 = .ok (.ireturn, 1) := by decide +kernel
theorem dX9_displayCase_102 : decode cX9_displayCase 102 = .ok (.aload_n 0, 1) := by decide +kernel
theorem dX9_displayCase_103 : decode cX9_displayCase 103 = .ok (.iload_n 1, 1) := by decide +kernel
theorem dX9_displayCase_104 : decode cX9_displayCase 104 = .ok (.iconst 0, 1) := by decide +kernel
theorem dX9_displayCase_105 : decode cX9_displayCase 105 = .ok (.invokevirtual 64, 3) := by decide +kernel
theorem dX9_displayCase_108 : decode cX9_displayCase 108 = .ok (.ireturn, 1) := by decide +kernel
theorem dX9_displayCase_109 : decode cX9_displayCase 109 = .ok (.aload_n 0, 1) := by decide +kernel
theorem dX9_displayCase_110 : decode cX9_displayCase 110 = .ok (.iload_n 1, 1) := by decide +kernel
theorem dX9_displayCase_111 : decode cX9_displayCase 111 = .ok (.iconst 3, 1) := by decide +kernel
theorem dX9_displayCase_112 : decode cX9_displayCase 112 = .ok (.invokevirtual 64, 3) := by decide +kernel
theorem dX9_displayCase_115 : decode cX9_displayCase 115 = .ok (.ireturn, 1) := by decide +kernel
theorem dX9_displayCase_116 : decode cX9_displayCase 116 = .ok (.aload_n 0, 1) := by decide +kernel
theorem dX9_displayCase_117 : decode cX9_displayCase 117 = .ok (.iload_n 1, 1) := by decide +kernel
theorem dX9_displayCase_118 : decode cX9_displayCase 118 = .ok (.invokevirtual 242, 3) := by decide +kernel
theorem dX9_displayCase_121 : decode cX9_displayCase 121 = .ok (.ireturn, 1) := by decide +kernel
theorem dX9_displayCase_122 : decode cX9_displayCase 122 = .ok (.aload_n 0, 1) := by decide +kernel
theorem dX9_displayCase_123 : decode cX9_displayCase 123 = .ok (.iload_n 1, 1) := by decide +kernel
theorem dX9_displayCase_124 : decode cX9_displayCase 124 = .ok (.iconst 4, 1) := by decide +kernel
theorem dX9_displayCase_125 : decode cX9_displayCase 125 = .ok (.invokevirtual 64, 3) := by decide +kernel
theorem dX9_displayCase_128 : decode cX9_displayCase 128 = .ok (.ireturn, 1) := by decide +kernel
theorem dX9_displayCase_129 : decode cX9_displayCase 129 = .ok (.aload_n 0, 1) := by decide +kernel
theorem dX9_displayCase_130 : decode cX9_displayCase 130 = .ok (.iload_n 1, 1) := by decide +kernel
theorem dX9_displayCase_131 : decode cX9_displayCase 131 = .ok (.invokevirtual 236, 3) := by decide +kernel
theorem dX9_displayCase_134 : decode cX9_displayCase 134 = .ok (.ireturn, 1) := by decide +kernel
theorem dX9_displayCase_135 : decode cX9_displayCase 135 = .ok (.aload_n 0, 1) := by decide +kernel
theorem dX9_displayCase_136 : decode cX9_displayCase 136 = .ok (.iload_n 1, 1) := by decide +kernel
theorem dX9_displayCase_137 : decode cX9_displayCase 137 = .ok (.iconst 1, 1) := by decide +kernel
theorem dX9_displayCase_138 : decode cX9_displayCase 138 = .ok (.invokevirtual 64, 3) := by decide +kernel
theorem dX9_displayCase_141 : decode cX9_displayCase 141 = .ok (.ireturn, 1) := by decide +kernel
theorem dX9_displayCase_142 : decode cX9_displayCase 142 = .ok (.aload_n 0, 1) := by decide +kernel
theorem dX9_displayCase_143 : decode cX9_displayCase 143 = .ok (.iload_n 1, 1) := by decide +kernel
theorem dX9_displayCase_144 : decode cX9_displayCase 144 = .ok (.iconst 2, 1) := by decide +kernel
theorem dX9_displayCase_145 : decode cX9_displayCase 145 = .ok (.invokevirtual 64, 3) := by decide +kernel
theorem dX9_displayCase_148 : decode cX9_displayCase 148 = .ok (.ireturn, 1) := by decide +kernel
theorem dX9_displayCase_149 : decode cX9_displayCase 149 = .ok (.aload_n 0, 1) := by decide +kernel
theorem dX9_displayCase_150 : decode cX9_displayCase 150 = .ok (.iload_n 1, 1) := by decide +kernel
theorem dX9_displayCase_151 : decode cX9_displayCase 151 = .ok (.iconst 5, 1) := by decide +kernel
theorem dX9_displayCase_152 : decode cX9_displayCase 152 = .ok (.invokevirtual 64, 3) := by decide +kernel
theorem dX9_displayCase_155 : decode cX9_displayCase 155 = .ok (.ireturn, 1) := by decide +kernel
theorem dX9_displayCase_156 : decode cX9_displayCase 156 = .ok (.aload_n 0, 1) := by decide +kernel
theorem dX9_displayCase_157 : decode cX9_displayCase 157 = .ok (.iload_n 1, 1) := by decide +kernel
theorem dX9_displayCase_158 : decode cX9_displayCase 158 = .ok (.bipush 6, 2) := by decide +kernel
theorem dX9_displayCase_160 : decode cX9_displayCase 160 = .ok (.invokevirtual 64, 3) := by decide +kernel
theorem dX9_displayCase_163 : decode cX9_displayCase 163 = .ok (.ireturn, 1) := by decide +kernel
theorem dX9_displayCase_164 : decode cX9_displayCase 164 = .ok (.aload_n 0, 1) := by decide +kernel
theorem dX9_displayCase_165 : decode cX9_displayCase 165 = .ok (.iload_n 1, 1) := by decide +kernel
theorem dX9_displayCase_166 : decode cX9_displayCase 166 = .ok (.bipush 7, 2) := by decide +kernel
theorem dX9_displayCase_168 : decode cX9_displayCase 168 = .ok (.invokevirtual 64, 3) := by decide +kernel
theorem dX9_displayCase_171 : decode cX9_displayCase 171 = .ok (.ireturn, 1) := by decide +kernel
theorem dX9_balance_0 : decode cX9_balance 0 = .ok (.aload_n 0, 1) := by decide +kernel
theorem dX9_balance_1 : decode cX9_balance 1 = .ok (.iconst 0, 1) := by decide +kernel
theorem dX9_balance_2 : decode cX9_balance 2 = .ok (.putfield 61, 3) := by decide +kernel
theorem dX9_balance_5 : decode cX9_balance 5 = .ok (.aload_n 0, 1) := by decide +kernel
theorem dX9_balance_6 : decode cX9_balance 6 = .ok (.aload_n 0, 1) := by decide +kernel
theorem dX9_balance_7 : decode cX9_balance 7 = .ok (.iload_n 1, 1) := by decide +kernel
theorem dX9_balance_8 : decode cX9_balance 8 = .ok (.invokevirtual 239, 3) := by decide +kernel
theorem dX9_balance_11 : decode cX9_balance 11 = .ok (.iconst 1, 1) := by decide +kernel
theorem dX9_balance_12 : decode cX9_balance 12 = .ok (.invokevirtual 90, 3) := by decide +kernel
theorem dX9_balance_15 : decode cX9_balance 15 = .ok (.ifCond .eq 17, 3) := by decide +kernel
theorem dX9_balance_18 : decode cX9_balance 18 = .ok (.aload_n 0, 1) := by decide +kernel
theorem dX9_balance_19 : decode cX9_balance 19 = .ok (.iload_n 2, 1) := by decide +kernel
theorem dX9_balance_20 : decode cX9_balance 20 = .ok (.iconst 0, 1) := by decide +kernel
theorem dX9_balance_21 : decode cX9_balance 21 = .ok (.iconst 4, 1) := by decide +kernel
theorem dX9_balance_22 : decode cX9_balance 22 = .ok (.invokestatic 94, 3) := by decide +kernel
theorem dX9_balance_25 : decode cX9_balance 25 = .ok (.iconst 2, 1) := by decide +kernel
theorem dX9_balance_26 : decode cX9_balance 26 = .ok (.invokevirtual 90, 3) := by decide +kernel
theorem dX9_balance_29 : decode cX9_balance 29 = .ok (.ifCond .ne 5, 3) := by decide +kernel
theorem dX9_balance_32 : decode cX9_balance 32 = .ok (.lconst 0, 1) := by decide +kernel
theorem dX9_balance_33 : decode cX9_balance 33 = .ok (.lreturn, 1) := by decide +kernel
theorem dX9_balance_34 : decode cX9_balance 34 = .ok (.iload_n 2, 1) := by decide +kernel
theorem dX9_balance_35 : decode cX9_balance 35 = .ok (.iconst 4, 1) := by decide +kernel
theorem dX9_balance_36 : decode cX9_balance 36 = .ok (.if_icmp .ne 11, 3) := by decide +kernel
theorem dX9_balance_39 : decode cX9_balance 39 = .ok (.aload_n 0, 1) := by decide +kernel
theorem dX9_balance_40 : decode cX9_balance 40 = .ok (.iload_n 1, 1) := by decide +kernel
theorem dX9_balance_41 : decode cX9_balance 41 = .ok (.invokevirtual 83, 3) := by decide +kernel
theorem dX9_balance_44 : decode cX9_balance 44 = .ok (.goto 15, 3) := by decide +kernel
theorem dX9_balance_47 : decode cX9_balance 47 = .ok (.aload_n 0, 1) := by decide +kernel
theorem dX9_balance_48 : decode cX9_balance 48 = .ok (.getfield 28, 3) := by decide +kernel
theorem dX9_balance_51 : decode cX9_balance 51 = .ok (.iconst 5, 1) := by decide +kernel
theorem dX9_balance_52 : decode cX9_balance 52 = .ok (.iload_n 1, 1) := by decide +kernel
theorem dX9_balance_53 : decode cX9_balance 53 = .ok (.imul, 1) := by decide +kernel
theorem dX9_balance_54 : decode cX9_balance 54 = .ok (.iconst 1, 1) := by decide +kernel
theorem dX9_balance_55 : decode cX9_balance 55 = .ok (.iadd, 1) := by decide +kernel
theorem dX9_balance_56 : decode cX9_balance 56 = .ok (.iload_n 2, 1) := by decide +kernel
theorem dX9_balance_57 : decode cX9_balance 57 = .ok (.iadd, 1) := by decide +kernel
theorem dX9_balance_58 : decode cX9_balance 58 = .ok (.laload, 1) := by decide +kernel
theorem dX9_balance_59 : decode cX9_balance 59 = .ok (.lreturn, 1) := by decide +kernel
theorem dX9_recordOf_0 : decode cX9_recordOf 0 = .ok (.aload_n 0, 1) := by decide +kernel
theorem dX9_recordOf_1 : decode cX9_recordOf 1 = .ok (.iload_n 1, 1) := by decide +kernel
theorem dX9_recordOf_2 : decode cX9_recordOf 2 = .ok (.bipush 32, 2) := by decide +kernel
theorem dX9_recordOf_4 : decode cX9_recordOf 4 = .ok (.aload_n 0, 1) := by decide +kernel
theorem dX9_recordOf_5 : decode cX9_recordOf 5 = .ok (.getfield 16, 3) := by decide +kernel
theorem dX9_recordOf_8 : decode cX9_recordOf 8 = .ok (.iconst 0, 1) := by decide +kernel
theorem dX9_recordOf_9 : decode cX9_recordOf 9 = .ok (.iaload, 1) := by decide +kernel
theorem dX9_recordOf_10 : decode cX9_recordOf 10 = .ok (.iconst 1, 1) := by decide +kernel
theorem dX9_recordOf_11 : decode cX9_recordOf 11 = .ok (.isub, 1) := by decide +kernel
theorem dX9_recordOf_12 : decode cX9_recordOf 12 = .ok (.iload_n 2, 1) := by decide +kernel
theorem dX9_recordOf_13 : decode cX9_recordOf 13 = .ok (.isub, 1) := by decide +kernel
theorem dX9_recordOf_14 : decode cX9_recordOf 14 = .ok (.bipush 24, 2) := by decide +kernel
theorem dX9_recordOf_16 : decode cX9_recordOf 16 = .ok (.irem, 1) := by decide +kernel
theorem dX9_recordOf_17 : decode cX9_recordOf 17 = .ok (.iadd, 1) := by decide +kernel
theorem dX9_recordOf_18 : decode cX9_recordOf 18 = .ok (.invokevirtual 64, 3) := by decide +kernel
theorem dX9_recordOf_21 : decode cX9_recordOf 21 = .ok (.ireturn, 1) := by decide +kernel
theorem dX9_recorded_0 : decode cX9_recorded 0 = .ok (.aload_n 0, 1) := by decide +kernel
theorem dX9_recorded_1 : decode cX9_recorded 1 = .ok (.iconst 0, 1) := by decide +kernel
theorem dX9_recorded_2 : decode cX9_recorded 2 = .ok (.putfield 61, 3) := by decide +kernel
theorem dX9_recorded_5 : decode cX9_recorded 5 = .ok (.aload_n 0, 1) := by decide +kernel
theorem dX9_recorded_6 : decode cX9_recorded 6 = .ok (.aload_n 0, 1) := by decide +kernel
theorem dX9_recorded_7 : decode cX9_recorded 7 = .ok (.iload_n 1, 1) := by decide +kernel
theorem dX9_recorded_8 : decode cX9_recorded 8 = .ok (.invokevirtual 239, 3) := by decide +kernel
theorem dX9_recorded_11 : decode cX9_recorded 11 = .ok (.iconst 1, 1) := by decide +kernel
theorem dX9_recorded_12 : decode cX9_recorded 12 = .ok (.invokevirtual 90, 3) := by decide +kernel
theorem dX9_recorded_15 : decode cX9_recorded 15 = .ok (.ifCond .eq 41, 3) := by decide +kernel
theorem dX9_recorded_18 : decode cX9_recorded 18 = .ok (.aload_n 0, 1) := by decide +kernel
theorem dX9_recorded_19 : decode cX9_recorded 19 = .ok (.iload_n 2, 1) := by decide +kernel
theorem dX9_recorded_20 : decode cX9_recorded 20 = .ok (.iconst 0, 1) := by decide +kernel
theorem dX9_recorded_21 : decode cX9_recorded 21 = .ok (.bipush 23, 2) := by decide +kernel
theorem dX9_recorded_23 : decode cX9_recorded 23 = .ok (.invokestatic 94, 3) := by decide +kernel
theorem dX9_recorded_26 : decode cX9_recorded 26 = .ok (.iconst 2, 1) := by decide +kernel
theorem dX9_recorded_27 : decode cX9_recorded 27 = .ok (.invokevirtual 90, 3) := by decide +kernel
theorem dX9_recorded_30 : decode cX9_recorded 30 = .ok (.ifCond .eq 26, 3) := by decide +kernel
theorem dX9_recorded_33 : decode cX9_recorded 33 = .ok (.aload_n 0, 1) := by decide +kernel
theorem dX9_recorded_34 : decode cX9_recorded 34 = .ok (.iload_n 2, 1) := by decide +kernel
theorem dX9_recorded_35 : decode cX9_recorded 35 = .ok (.aload_n 0, 1) := by decide +kernel
theorem dX9_recorded_36 : decode cX9_recorded 36 = .ok (.getfield 16, 3) := by decide +kernel
theorem dX9_recorded_39 : decode cX9_recorded 39 = .ok (.iconst 0, 1) := by decide +kernel
theorem dX9_recorded_40 : decode cX9_recorded 40 = .ok (.iaload, 1) := by decide +kernel
theorem dX9_recorded_41 : decode cX9_recorded 41 = .ok (.if_icmp .ge 7, 3) := by decide +kernel
theorem dX9_recorded_44 : decode cX9_recorded 44 = .ok (.iconst 1, 1) := by decide +kernel
theorem dX9_recorded_45 : decode cX9_recorded 45 = .ok (.goto 4, 3) := by decide +kernel
theorem dX9_recorded_48 : decode cX9_recorded 48 = .ok (.iconst 0, 1) := by decide +kernel
theorem dX9_recorded_49 : decode cX9_recorded 49 = .ok (.iconst 3, 1) := by decide +kernel
theorem dX9_recorded_50 : decode cX9_recorded 50 = .ok (.invokevirtual 90, 3) := by decide +kernel
theorem dX9_recorded_53 : decode cX9_recorded 53 = .ok (.ifCond .ne 5, 3) := by decide +kernel
theorem dX9_recorded_56 : decode cX9_recorded 56 = .ok (.iconst 0, 1) := by decide +kernel
theorem dX9_recorded_57 : decode cX9_recorded 57 = .ok (.ireturn, 1) := by decide +kernel
theorem dX9_recorded_58 : decode cX9_recorded 58 = .ok (.aload_n 0, 1) := by decide +kernel
theorem dX9_recorded_59 : decode cX9_recorded 59 = .ok (.iload_n 1, 1) := by decide +kernel
theorem dX9_recorded_60 : decode cX9_recorded 60 = .ok (.iload_n 2, 1) := by decide +kernel
theorem dX9_recorded_61 : decode cX9_recorded 61 = .ok (.invokevirtual 245, 3) := by decide +kernel
theorem dX9_recorded_64 : decode cX9_recorded 64 = .ok (.ireturn, 1) := by decide +kernel
theorem dX9_swing_0 : decode cX9_swing 0 = .ok (.aload_n 0, 1) := by decide +kernel
theorem dX9_swing_1 : decode cX9_swing 1 = .ok (.iconst 0, 1) := by decide +kernel
theorem dX9_swing_2 : decode cX9_swing 2 = .ok (.putfield 61, 3) := by decide +kernel
theorem dX9_swing_5 : decode cX9_swing 5 = .ok (.aload_n 0, 1) := by decide +kernel
theorem dX9_swing_6 : decode cX9_swing 6 = .ok (.aload_n 0, 1) := by decide +kernel
theorem dX9_swing_7 : decode cX9_swing 7 = .ok (.iload_n 1, 1) := by decide +kernel
theorem dX9_swing_8 : decode cX9_swing 8 = .ok (.invokevirtual 239, 3) := by decide +kernel
theorem dX9_swing_11 : decode cX9_swing 11 = .ok (.iconst 1, 1) := by decide +kernel
theorem dX9_swing_12 : decode cX9_swing 12 = .ok (.invokevirtual 90, 3) := by decide +kernel
theorem dX9_swing_15 : decode cX9_swing 15 = .ok (.ifCond .eq 25, 3) := by decide +kernel
theorem dX9_swing_18 : decode cX9_swing 18 = .ok (.aload_n 0, 1) := by decide +kernel
theorem dX9_swing_19 : decode cX9_swing 19 = .ok (.aload_n 0, 1) := by decide +kernel
theorem dX9_swing_20 : decode cX9_swing 20 = .ok (.getfield 16, 3) := by decide +kernel
theorem dX9_swing_23 : decode cX9_swing 23 = .ok (.iconst 0, 1) := by decide +kernel
theorem dX9_swing_24 : decode cX9_swing 24 = .ok (.iaload, 1) := by decide +kernel
theorem dX9_swing_25 : decode cX9_swing 25 = .ok (.ifCond .le 7, 3) := by decide +kernel
theorem dX9_swing_28 : decode cX9_swing 28 = .ok (.iconst 1, 1) := by decide +kernel
theorem dX9_swing_29 : decode cX9_swing 29 = .ok (.goto 4, 3) := by decide +kernel
theorem dX9_swing_32 : decode cX9_swing 32 = .ok (.iconst 0, 1) := by decide +kernel
theorem dX9_swing_33 : decode cX9_swing 33 = .ok (.iconst 2, 1) := by decide +kernel
theorem dX9_swing_34 : decode cX9_swing 34 = .ok (.invokevirtual 90, 3) := by decide +kernel
theorem dX9_swing_37 : decode cX9_swing 37 = .ok (.ifCond .ne 5, 3) := by decide +kernel
theorem dX9_swing_40 : decode cX9_swing 40 = .ok (.iconst 0, 1) := by decide +kernel
theorem dX9_swing_41 : decode cX9_swing 41 = .ok (.ireturn, 1) := by decide +kernel
theorem dX9_swing_42 : decode cX9_swing 42 = .ok (.aload_n 0, 1) := by decide +kernel
theorem dX9_swing_43 : decode cX9_swing 43 = .ok (.iload_n 1, 1) := by decide +kernel
theorem dX9_swing_44 : decode cX9_swing 44 = .ok (.iconst 0, 1) := by decide +kernel
theorem dX9_swing_45 : decode cX9_swing 45 = .ok (.invokevirtual 245, 3) := by decide +kernel
theorem dX9_swing_48 : decode cX9_swing 48 = .ok (.istore_n 2, 1) := by decide +kernel
theorem dX9_swing_49 : decode cX9_swing 49 = .ok (.iload_n 2, 1) := by decide +kernel
theorem dX9_swing_50 : decode cX9_swing 50 = .ok (.istore_n 3, 1) := by decide +kernel
theorem dX9_swing_51 : decode cX9_swing 51 = .ok (.iconst 1, 1) := by decide +kernel
theorem dX9_swing_52 : decode cX9_swing 52 = .ok (.istore 4, 2) := by decide +kernel
theorem dX9_swing_54 : decode cX9_swing 54 = .ok (.iload 4, 2) := by decide +kernel
theorem dX9_swing_56 : decode cX9_swing 56 = .ok (.bipush 24, 2) := by decide +kernel
theorem dX9_swing_58 : decode cX9_swing 58 = .ok (.if_icmp .ge 55, 3) := by decide +kernel
theorem dX9_swing_61 : decode cX9_swing 61 = .ok (.iload 4, 2) := by decide +kernel
theorem dX9_swing_63 : decode cX9_swing 63 = .ok (.aload_n 0, 1) := by decide +kernel
theorem dX9_swing_64 : decode cX9_swing 64 = .ok (.getfield 16, 3) := by decide +kernel
theorem dX9_swing_67 : decode cX9_swing 67 = .ok (.iconst 0, 1) := by decide +kernel
theorem dX9_swing_68 : decode cX9_swing 68 = .ok (.iaload, 1) := by decide +kernel
theorem dX9_swing_69 : decode cX9_swing 69 = .ok (.if_icmp .ge 44, 3) := by decide +kernel
theorem dX9_swing_72 : decode cX9_swing 72 = .ok (.aload_n 0, 1) := by decide +kernel
theorem dX9_swing_73 : decode cX9_swing 73 = .ok (.iload_n 1, 1) := by decide +kernel
theorem dX9_swing_74 : decode cX9_swing 74 = .ok (.iload 4, 2) := by decide +kernel
theorem dX9_swing_76 : decode cX9_swing 76 = .ok (.invokevirtual 245, 3) := by decide +kernel
theorem dX9_swing_79 : decode cX9_swing 79 = .ok (.istore 5, 2) := by decide +kernel
theorem dX9_swing_81 : decode cX9_swing 81 = .ok (.iload 5, 2) := by decide +kernel
theorem dX9_swing_83 : decode cX9_swing 83 = .ok (.iload_n 2, 1) := by decide +kernel
theorem dX9_swing_84 : decode cX9_swing 84 = .ok (.if_icmp .ge 8, 3) := by decide +kernel
theorem dX9_swing_87 : decode cX9_swing 87 = .ok (.iload 5, 2) := by decide +kernel
theorem dX9_swing_89 : decode cX9_swing 89 = .ok (.goto 4, 3) := by decide +kernel
theorem dX9_swing_92 : decode cX9_swing 92 = .ok (.iload_n 2, 1) := by decide +kernel
theorem dX9_swing_93 : decode cX9_swing 93 = .ok (.istore_n 2, 1) := by decide +kernel
theorem dX9_swing_94 : decode cX9_swing 94 = .ok (.iload 5, 2) := by decide +kernel
theorem dX9_swing_96 : decode cX9_swing 96 = .ok (.iload_n 3, 1) := by decide +kernel
theorem dX9_swing_97 : decode cX9_swing 97 = .ok (.if_icmp .le 8, 3) := by decide +kernel
theorem dX9_swing_100 : decode cX9_swing 100 = .ok (.iload 5, 2) := by decide +kernel
theorem dX9_swing_102 : decode cX9_swing 102 = .ok (.goto 4, 3) := by decide +kernel
theorem dX9_swing_105 : decode cX9_swing 105 = .ok (.iload_n 3, 1) := by decide +kernel
theorem dX9_swing_106 : decode cX9_swing 106 = .ok (.istore_n 3, 1) := by decide +kernel
theorem dX9_swing_107 : decode cX9_swing 107 = .ok (.iinc 4 1, 3) := by decide +kernel
theorem dX9_swing_110 : decode cX9_swing 110 = .ok (.goto (-56), 3) := by decide +kernel
theorem dX9_swing_113 : decode cX9_swing 113 = .ok (.iload_n 3, 1) := by decide +kernel
theorem dX9_swing_114 : decode cX9_swing 114 = .ok (.iload_n 2, 1) := by decide +kernel
theorem dX9_swing_115 : decode cX9_swing 115 = .ok (.isub, 1) := by decide +kernel
theorem dX9_swing_116 : decode cX9_swing 116 = .ok (.ireturn, 1) := by decide +kernel
theorem dX9_mean_0 : decode cX9_mean 0 = .ok (.aload_n 0, 1) := by decide +kernel
theorem dX9_mean_1 : decode cX9_mean 1 = .ok (.iconst 0, 1) := by decide +kernel
theorem dX9_mean_2 : decode cX9_mean 2 = .ok (.putfield 61, 3) := by decide +kernel
theorem dX9_mean_5 : decode cX9_mean 5 = .ok (.aload_n 0, 1) := by decide +kernel
theorem dX9_mean_6 : decode cX9_mean 6 = .ok (.aload_n 0, 1) := by decide +kernel
theorem dX9_mean_7 : decode cX9_mean 7 = .ok (.iload_n 1, 1) := by decide +kernel
theorem dX9_mean_8 : decode cX9_mean 8 = .ok (.invokevirtual 239, 3) := by decide +kernel
theorem dX9_mean_11 : decode cX9_mean 11 = .ok (.iconst 1, 1) := by decide +kernel
theorem dX9_mean_12 : decode cX9_mean 12 = .ok (.invokevirtual 90, 3) := by decide +kernel
theorem dX9_mean_15 : decode cX9_mean 15 = .ok (.ifCond .eq 47, 3) := by decide +kernel
theorem dX9_mean_18 : decode cX9_mean 18 = .ok (.aload_n 0, 1) := by decide +kernel
theorem dX9_mean_19 : decode cX9_mean 19 = .ok (.aload_n 0, 1) := by decide +kernel
theorem dX9_mean_20 : decode cX9_mean 20 = .ok (.getfield 16, 3) := by decide +kernel
theorem dX9_mean_23 : decode cX9_mean 23 = .ok (.iconst 0, 1) := by decide +kernel
theorem dX9_mean_24 : decode cX9_mean 24 = .ok (.iaload, 1) := by decide +kernel
theorem dX9_mean_25 : decode cX9_mean 25 = .ok (.ifCond .le 7, 3) := by decide +kernel
theorem dX9_mean_28 : decode cX9_mean 28 = .ok (.iconst 1, 1) := by decide +kernel
theorem dX9_mean_29 : decode cX9_mean 29 = .ok (.goto 4, 3) := by decide +kernel
theorem dX9_mean_32 : decode cX9_mean 32 = .ok (.iconst 0, 1) := by decide +kernel
theorem dX9_mean_33 : decode cX9_mean 33 = .ok (.iconst 2, 1) := by decide +kernel
theorem dX9_mean_34 : decode cX9_mean 34 = .ok (.invokevirtual 90, 3) := by decide +kernel
theorem dX9_mean_37 : decode cX9_mean 37 = .ok (.ifCond .eq 25, 3) := by decide +kernel
theorem dX9_mean_40 : decode cX9_mean 40 = .ok (.aload_n 0, 1) := by decide +kernel
theorem dX9_mean_41 : decode cX9_mean 41 = .ok (.getfield 28, 3) := by decide +kernel
theorem dX9_mean_44 : decode cX9_mean 44 = .ok (.iconst 5, 1) := by decide +kernel
theorem dX9_mean_45 : decode cX9_mean 45 = .ok (.iload_n 1, 1) := by decide +kernel
theorem dX9_mean_46 : decode cX9_mean 46 = .ok (.imul, 1) := by decide +kernel
theorem dX9_mean_47 : decode cX9_mean 47 = .ok (.iconst 0, 1) := by decide +kernel
theorem dX9_mean_48 : decode cX9_mean 48 = .ok (.iadd, 1) := by decide +kernel
theorem dX9_mean_49 : decode cX9_mean 49 = .ok (.laload, 1) := by decide +kernel
theorem dX9_mean_50 : decode cX9_mean 50 = .ok (.l2d, 1) := by decide +kernel
theorem dX9_mean_51 : decode cX9_mean 51 = .ok (.aload_n 0, 1) := by decide +kernel
theorem dX9_mean_52 : decode cX9_mean 52 = .ok (.getfield 16, 3) := by decide +kernel
theorem dX9_mean_55 : decode cX9_mean 55 = .ok (.iconst 0, 1) := by decide +kernel
theorem dX9_mean_56 : decode cX9_mean 56 = .ok (.iaload, 1) := by decide +kernel
theorem dX9_mean_57 : decode cX9_mean 57 = .ok (.i2d, 1) := by decide +kernel
theorem dX9_mean_58 : decode cX9_mean 58 = .ok (.ddiv, 1) := by decide +kernel
theorem dX9_mean_59 : decode cX9_mean 59 = .ok (.goto 4, 3) := by decide +kernel
theorem dX9_mean_62 : decode cX9_mean 62 = .ok (.dconst 0, 1) := by decide +kernel
theorem dX9_mean_63 : decode cX9_mean 63 = .ok (.dreturn, 1) := by decide +kernel
theorem dX9_buffering_0 : decode cX9_buffering 0 = .ok (.aload_n 0, 1) := by decide +kernel
theorem dX9_buffering_1 : decode cX9_buffering 1 = .ok (.iconst 0, 1) := by decide +kernel
theorem dX9_buffering_2 : decode cX9_buffering 2 = .ok (.putfield 61, 3) := by decide +kernel
theorem dX9_buffering_5 : decode cX9_buffering 5 = .ok (.aload_n 0, 1) := by decide +kernel
theorem dX9_buffering_6 : decode cX9_buffering 6 = .ok (.aload_n 0, 1) := by decide +kernel
theorem dX9_buffering_7 : decode cX9_buffering 7 = .ok (.iload_n 1, 1) := by decide +kernel
theorem dX9_buffering_8 : decode cX9_buffering 8 = .ok (.invokevirtual 239, 3) := by decide +kernel
theorem dX9_buffering_11 : decode cX9_buffering 11 = .ok (.iconst 1, 1) := by decide +kernel
theorem dX9_buffering_12 : decode cX9_buffering 12 = .ok (.invokevirtual 90, 3) := by decide +kernel
theorem dX9_buffering_15 : decode cX9_buffering 15 = .ok (.ifCond .eq 43, 3) := by decide +kernel
theorem dX9_buffering_18 : decode cX9_buffering 18 = .ok (.aload_n 0, 1) := by decide +kernel
theorem dX9_buffering_19 : decode cX9_buffering 19 = .ok (.aload_n 0, 1) := by decide +kernel
theorem dX9_buffering_20 : decode cX9_buffering 20 = .ok (.iload_n 1, 1) := by decide +kernel
theorem dX9_buffering_21 : decode cX9_buffering 21 = .ok (.invokevirtual 83, 3) := by decide +kernel
theorem dX9_buffering_24 : decode cX9_buffering 24 = .ok (.lconst 0, 1) := by decide +kernel
theorem dX9_buffering_25 : decode cX9_buffering 25 = .ok (.lcmp, 1) := by decide +kernel
theorem dX9_buffering_26 : decode cX9_buffering 26 = .ok (.ifCond .le 7, 3) := by decide +kernel
theorem dX9_buffering_29 : decode cX9_buffering 29 = .ok (.iconst 1, 1) := by decide +kernel
theorem dX9_buffering_30 : decode cX9_buffering 30 = .ok (.goto 4, 3) := by decide +kernel
theorem dX9_buffering_33 : decode cX9_buffering 33 = .ok (.iconst 0, 1) := by decide +kernel
theorem dX9_buffering_34 : decode cX9_buffering 34 = .ok (.iconst 2, 1) := by decide +kernel
theorem dX9_buffering_35 : decode cX9_buffering 35 = .ok (.invokevirtual 90, 3) := by decide +kernel
theorem dX9_buffering_38 : decode cX9_buffering 38 = .ok (.ifCond .eq 20, 3) := by decide +kernel
theorem dX9_buffering_41 : decode cX9_buffering 41 = .ok (.aload_n 0, 1) := by decide +kernel
theorem dX9_buffering_42 : decode cX9_buffering 42 = .ok (.iload_n 1, 1) := by decide +kernel
theorem dX9_buffering_43 : decode cX9_buffering 43 = .ok (.invokevirtual 236, 3) := by decide +kernel
theorem dX9_buffering_46 : decode cX9_buffering 46 = .ok (.i2f, 1) := by decide +kernel
theorem dX9_buffering_47 : decode cX9_buffering 47 = .ok (.aload_n 0, 1) := by decide +kernel
theorem dX9_buffering_48 : decode cX9_buffering 48 = .ok (.iload_n 1, 1) := by decide +kernel
theorem dX9_buffering_49 : decode cX9_buffering 49 = .ok (.invokevirtual 83, 3) := by decide +kernel
theorem dX9_buffering_52 : decode cX9_buffering 52 = .ok (.l2f, 1) := by decide +kernel
theorem dX9_buffering_53 : decode cX9_buffering 53 = .ok (.fdiv, 1) := by decide +kernel
theorem dX9_buffering_54 : decode cX9_buffering 54 = .ok (.f2d, 1) := by decide +kernel
theorem dX9_buffering_55 : decode cX9_buffering 55 = .ok (.goto 4, 3) := by decide +kernel
theorem dX9_buffering_58 : decode cX9_buffering 58 = .ok (.dconst 0, 1) := by decide +kernel
theorem dX9_buffering_59 : decode cX9_buffering 59 = .ok (.dreturn, 1) := by decide +kernel
theorem dX9_setLeak_0 : decode cX9_setLeak 0 = .ok (.aload_n 0, 1) := by decide +kernel
theorem dX9_setLeak_1 : decode cX9_setLeak 1 = .ok (.iconst 0, 1) := by decide +kernel
theorem dX9_setLeak_2 : decode cX9_setLeak 2 = .ok (.putfield 61, 3) := by decide +kernel
theorem dX9_setLeak_5 : decode cX9_setLeak 5 = .ok (.aload_n 0, 1) := by decide +kernel
theorem dX9_setLeak_6 : decode cX9_setLeak 6 = .ok (.aload_n 0, 1) := by decide +kernel
theorem dX9_setLeak_7 : decode cX9_setLeak 7 = .ok (.iload_n 1, 1) := by decide +kernel
theorem dX9_setLeak_8 : decode cX9_setLeak 8 = .ok (.invokevirtual 239, 3) := by decide +kernel
theorem dX9_setLeak_11 : decode cX9_setLeak 11 = .ok (.iconst 1, 1) := by decide +kernel
theorem dX9_setLeak_12 : decode cX9_setLeak 12 = .ok (.invokevirtual 90, 3) := by decide +kernel
theorem dX9_setLeak_15 : decode cX9_setLeak 15 = .ok (.ifCond .eq 19, 3) := by decide +kernel
theorem dX9_setLeak_18 : decode cX9_setLeak 18 = .ok (.aload_n 0, 1) := by decide +kernel
theorem dX9_setLeak_19 : decode cX9_setLeak 19 = .ok (.iload_n 2, 1) := by decide +kernel
theorem dX9_setLeak_20 : decode cX9_setLeak 20 = .ok (.iconst 0, 1) := by decide +kernel
theorem dX9_setLeak_21 : decode cX9_setLeak 21 = .ok (.sipush 1000, 3) := by decide +kernel
theorem dX9_setLeak_24 : decode cX9_setLeak 24 = .ok (.invokestatic 94, 3) := by decide +kernel
theorem dX9_setLeak_27 : decode cX9_setLeak 27 = .ok (.iconst 2, 1) := by decide +kernel
theorem dX9_setLeak_28 : decode cX9_setLeak 28 = .ok (.invokevirtual 90, 3) := by decide +kernel
theorem dX9_setLeak_31 : decode cX9_setLeak 31 = .ok (.ifCond .ne 5, 3) := by decide +kernel
theorem dX9_setLeak_34 : decode cX9_setLeak 34 = .ok (.iconst 0, 1) := by decide +kernel
theorem dX9_setLeak_35 : decode cX9_setLeak 35 = .ok (.ireturn, 1) := by decide +kernel
theorem dX9_setLeak_36 : decode cX9_setLeak 36 = .ok (.aload_n 0, 1) := by decide +kernel
theorem dX9_setLeak_37 : decode cX9_setLeak 37 = .ok (.iload_n 1, 1) := by decide +kernel
theorem dX9_setLeak_38 : decode cX9_setLeak 38 = .ok (.iconst 0, 1) := by decide +kernel
theorem dX9_setLeak_39 : decode cX9_setLeak 39 = .ok (.invokevirtual 64, 3) := by decide +kernel
theorem dX9_setLeak_42 : decode cX9_setLeak 42 = .ok (.istore_n 3, 1) := by decide +kernel
theorem dX9_setLeak_43 : decode cX9_setLeak 43 = .ok (.aload_n 0, 1) := by decide +kernel
theorem dX9_setLeak_44 : decode cX9_setLeak 44 = .ok (.iload_n 1, 1) := by decide +kernel
theorem dX9_setLeak_45 : decode cX9_setLeak 45 = .ok (.iconst 0, 1) := by decide +kernel
theorem dX9_setLeak_46 : decode cX9_setLeak 46 = .ok (.iload_n 2, 1) := by decide +kernel
theorem dX9_setLeak_47 : decode cX9_setLeak 47 = .ok (.invokevirtual 79, 3) := by decide +kernel
theorem dX9_setLeak_50 : decode cX9_setLeak 50 = .ok (.iload_n 3, 1) := by decide +kernel
theorem dX9_setLeak_51 : decode cX9_setLeak 51 = .ok (.ireturn, 1) := by decide +kernel
theorem dX9_setSafe_0 : decode cX9_setSafe 0 = .ok (.aload_n 0, 1) := by decide +kernel
theorem dX9_setSafe_1 : decode cX9_setSafe 1 = .ok (.iconst 0, 1) := by decide +kernel
theorem dX9_setSafe_2 : decode cX9_setSafe 2 = .ok (.putfield 61, 3) := by decide +kernel
theorem dX9_setSafe_5 : decode cX9_setSafe 5 = .ok (.aload_n 0, 1) := by decide +kernel
theorem dX9_setSafe_6 : decode cX9_setSafe 6 = .ok (.aload_n 0, 1) := by decide +kernel
theorem dX9_setSafe_7 : decode cX9_setSafe 7 = .ok (.iload_n 1, 1) := by decide +kernel
theorem dX9_setSafe_8 : decode cX9_setSafe 8 = .ok (.invokevirtual 239, 3) := by decide +kernel
theorem dX9_setSafe_11 : decode cX9_setSafe 11 = .ok (.iconst 1, 1) := by decide +kernel
theorem dX9_setSafe_12 : decode cX9_setSafe 12 = .ok (.invokevirtual 90, 3) := by decide +kernel
theorem dX9_setSafe_15 : decode cX9_setSafe 15 = .ok (.ifCond .eq 38, 3) := by decide +kernel
theorem dX9_setSafe_18 : decode cX9_setSafe 18 = .ok (.aload_n 0, 1) := by decide +kernel
theorem dX9_setSafe_19 : decode cX9_setSafe 19 = .ok (.iload_n 2, 1) := by decide +kernel
theorem dX9_setSafe_20 : decode cX9_setSafe 20 = .ok (.iconst 0, 1) := by decide +kernel
theorem dX9_setSafe_21 : decode cX9_setSafe 21 = .ok (.sipush 1000, 3) := by decide +kernel
theorem dX9_setSafe_24 : decode cX9_setSafe 24 = .ok (.invokestatic 94, 3) := by decide +kernel
theorem dX9_setSafe_27 : decode cX9_setSafe 27 = .ok (.ifCond .eq 18, 3) := by decide +kernel
theorem dX9_setSafe_30 : decode cX9_setSafe 30 = .ok (.iload_n 3, 1) := by decide +kernel
theorem dX9_setSafe_31 : decode cX9_setSafe 31 = .ok (.iload_n 2, 1) := by decide +kernel
theorem dX9_setSafe_32 : decode cX9_setSafe 32 = .ok (.sipush 1000, 3) := by decide +kernel
theorem dX9_setSafe_35 : decode cX9_setSafe 35 = .ok (.invokestatic 94, 3) := by decide +kernel
theorem dX9_setSafe_38 : decode cX9_setSafe 38 = .ok (.ifCond .eq 7, 3) := by decide +kernel
theorem dX9_setSafe_41 : decode cX9_setSafe 41 = .ok (.iconst 1, 1) := by decide +kernel
theorem dX9_setSafe_42 : decode cX9_setSafe 42 = .ok (.goto 4, 3) := by decide +kernel
theorem dX9_setSafe_45 : decode cX9_setSafe 45 = .ok (.iconst 0, 1) := by decide +kernel
theorem dX9_setSafe_46 : decode cX9_setSafe 46 = .ok (.iconst 2, 1) := by decide +kernel
theorem dX9_setSafe_47 : decode cX9_setSafe 47 = .ok (.invokevirtual 90, 3) := by decide +kernel
theorem dX9_setSafe_50 : decode cX9_setSafe 50 = .ok (.ifCond .ne 4, 3) := by decide +kernel
theorem dX9_setSafe_53 : decode cX9_setSafe 53 = .ok (.return_, 1) := by decide +kernel
theorem dX9_setSafe_54 : decode cX9_setSafe 54 = .ok (.aload_n 0, 1) := by decide +kernel
theorem dX9_setSafe_55 : decode cX9_setSafe 55 = .ok (.iload_n 1, 1) := by decide +kernel
theorem dX9_setSafe_56 : decode cX9_setSafe 56 = .ok (.iconst 1, 1) := by decide +kernel
theorem dX9_setSafe_57 : decode cX9_setSafe 57 = .ok (.iload_n 2, 1) := by decide +kernel
theorem dX9_setSafe_58 : decode cX9_setSafe 58 = .ok (.invokevirtual 79, 3) := by decide +kernel
theorem dX9_setSafe_61 : decode cX9_setSafe 61 = .ok (.aload_n 0, 1) := by decide +kernel
theorem dX9_setSafe_62 : decode cX9_setSafe 62 = .ok (.iload_n 1, 1) := by decide +kernel
theorem dX9_setSafe_63 : decode cX9_setSafe 63 = .ok (.iconst 2, 1) := by decide +kernel
theorem dX9_setSafe_64 : decode cX9_setSafe 64 = .ok (.iload_n 3, 1) := by decide +kernel
theorem dX9_setSafe_65 : decode cX9_setSafe 65 = .ok (.invokevirtual 79, 3) := by decide +kernel
theorem dX9_setSafe_68 : decode cX9_setSafe 68 = .ok (.return_, 1) := by decide +kernel
theorem dX9_open_0 : decode cX9_open 0 = .ok (.aload_n 0, 1) := by decide +kernel
theorem dX9_open_1 : decode cX9_open 1 = .ok (.iconst 0, 1) := by decide +kernel
theorem dX9_open_2 : decode cX9_open 2 = .ok (.putfield 61, 3) := by decide +kernel
theorem dX9_open_5 : decode cX9_open 5 = .ok (.aload_n 0, 1) := by decide +kernel
theorem dX9_open_6 : decode cX9_open 6 = .ok (.aload_n 0, 1) := by decide +kernel
theorem dX9_open_7 : decode cX9_open 7 = .ok (.iload_n 1, 1) := by decide +kernel
theorem dX9_open_8 : decode cX9_open 8 = .ok (.invokevirtual 239, 3) := by decide +kernel
theorem dX9_open_11 : decode cX9_open 11 = .ok (.iconst 1, 1) := by decide +kernel
theorem dX9_open_12 : decode cX9_open 12 = .ok (.invokevirtual 90, 3) := by decide +kernel
theorem dX9_open_15 : decode cX9_open 15 = .ok (.ifCond .ne 5, 3) := by decide +kernel
theorem dX9_open_18 : decode cX9_open 18 = .ok (.iconst 0, 1) := by decide +kernel
theorem dX9_open_19 : decode cX9_open 19 = .ok (.ireturn, 1) := by decide +kernel
theorem dX9_open_20 : decode cX9_open 20 = .ok (.aload_n 0, 1) := by decide +kernel
theorem dX9_open_21 : decode cX9_open 21 = .ok (.getfield 7, 3) := by decide +kernel
theorem dX9_open_24 : decode cX9_open 24 = .ok (.bipush 110, 2) := by decide +kernel
theorem dX9_open_26 : decode cX9_open 26 = .ok (.iload_n 1, 1) := by decide +kernel
theorem dX9_open_27 : decode cX9_open 27 = .ok (.iadd, 1) := by decide +kernel
theorem dX9_open_28 : decode cX9_open 28 = .ok (.iaload, 1) := by decide +kernel
theorem dX9_open_29 : decode cX9_open 29 = .ok (.aload_n 0, 1) := by decide +kernel
theorem dX9_open_30 : decode cX9_open 30 = .ok (.invokevirtual 225, 3) := by decide +kernel
theorem dX9_open_33 : decode cX9_open 33 = .ok (.imul, 1) := by decide +kernel
theorem dX9_open_34 : decode cX9_open 34 = .ok (.sipush 1000, 3) := by decide +kernel
theorem dX9_open_37 : decode cX9_open 37 = .ok (.idiv, 1) := by decide +kernel
theorem dX9_open_38 : decode cX9_open 38 = .ok (.aload_n 0, 1) := by decide +kernel
theorem dX9_open_39 : decode cX9_open 39 = .ok (.iload_n 1, 1) := by decide +kernel
theorem dX9_open_40 : decode cX9_open 40 = .ok (.iconst 3, 1) := by decide +kernel
theorem dX9_open_41 : decode cX9_open 41 = .ok (.invokevirtual 64, 3) := by decide +kernel
theorem dX9_open_44 : decode cX9_open 44 = .ok (.isub, 1) := by decide +kernel
theorem dX9_open_45 : decode cX9_open 45 = .ok (.istore_n 2, 1) := by decide +kernel
theorem dX9_open_46 : decode cX9_open 46 = .ok (.aload_n 0, 1) := by decide +kernel
theorem dX9_open_47 : decode cX9_open 47 = .ok (.iload_n 1, 1) := by decide +kernel
theorem dX9_open_48 : decode cX9_open 48 = .ok (.iconst 3, 1) := by decide +kernel
theorem dX9_open_49 : decode cX9_open 49 = .ok (.aload_n 0, 1) := by decide +kernel
theorem dX9_open_50 : decode cX9_open 50 = .ok (.iload_n 1, 1) := by decide +kernel
theorem dX9_open_51 : decode cX9_open 51 = .ok (.iconst 3, 1) := by decide +kernel
theorem dX9_open_52 : decode cX9_open 52 = .ok (.invokevirtual 64, 3) := by decide +kernel
theorem dX9_open_55 : decode cX9_open 55 = .ok (.iload_n 2, 1) := by decide +kernel
theorem dX9_open_56 : decode cX9_open 56 = .ok (.iadd, 1) := by decide +kernel
theorem dX9_open_57 : decode cX9_open 57 = .ok (.invokevirtual 79, 3) := by decide +kernel
theorem dX9_open_60 : decode cX9_open 60 = .ok (.aload_n 0, 1) := by decide +kernel
theorem dX9_open_61 : decode cX9_open 61 = .ok (.iload_n 1, 1) := by decide +kernel
theorem dX9_open_62 : decode cX9_open 62 = .ok (.iconst 2, 1) := by decide +kernel
theorem dX9_open_63 : decode cX9_open 63 = .ok (.iload_n 2, 1) := by decide +kernel
theorem dX9_open_64 : decode cX9_open 64 = .ok (.i2l, 1) := by decide +kernel
theorem dX9_open_65 : decode cX9_open 65 = .ok (.invokevirtual 248, 3) := by decide +kernel
theorem dX9_open_68 : decode cX9_open 68 = .ok (.iload_n 2, 1) := by decide +kernel
theorem dX9_open_69 : decode cX9_open 69 = .ok (.ireturn, 1) := by decide +kernel
theorem dX9_finds_0 : decode cX9_finds 0 = .ok (.aload_n 0, 1) := by decide +kernel
theorem dX9_finds_1 : decode cX9_finds 1 = .ok (.iconst (-1), 1) := by decide +kernel
theorem dX9_finds_2 : decode cX9_finds 2 = .ok (.putfield 252, 3) := by decide +kernel
theorem dX9_finds_5 : decode cX9_finds 5 = .ok (.iconst 0, 1) := by decide +kernel
theorem dX9_finds_6 : decode cX9_finds 6 = .ok (.istore_n 2, 1) := by decide +kernel
theorem dX9_finds_7 : decode cX9_finds 7 = .ok (.iload_n 2, 1) := by decide +kernel
theorem dX9_finds_8 : decode cX9_finds 8 = .ok (.aload_n 0, 1) := by decide +kernel
theorem dX9_finds_9 : decode cX9_finds 9 = .ok (.getfield 7, 3) := by decide +kernel
theorem dX9_finds_12 : decode cX9_finds 12 = .ok (.iconst 5, 1) := by decide +kernel
theorem dX9_finds_13 : decode cX9_finds 13 = .ok (.iaload, 1) := by decide +kernel
theorem dX9_finds_14 : decode cX9_finds 14 = .ok (.if_icmp .ge 51, 3) := by decide +kernel
theorem dX9_finds_17 : decode cX9_finds 17 = .ok (.iconst 0, 1) := by decide +kernel
theorem dX9_finds_18 : decode cX9_finds 18 = .ok (.istore_n 3, 1) := by decide +kernel
theorem dX9_finds_19 : decode cX9_finds 19 = .ok (.iload_n 3, 1) := by decide +kernel
theorem dX9_finds_20 : decode cX9_finds 20 = .ok (.aload_n 0, 1) := by decide +kernel
theorem dX9_finds_21 : decode cX9_finds 21 = .ok (.iload_n 2, 1) := by decide +kernel
theorem dX9_finds_22 : decode cX9_finds 22 = .ok (.iconst 4, 1) := by decide +kernel
theorem dX9_finds_23 : decode cX9_finds 23 = .ok (.invokevirtual 64, 3) := by decide +kernel
theorem dX9_finds_26 : decode cX9_finds 26 = .ok (.if_icmp .ge 33, 3) := by decide +kernel
theorem dX9_finds_29 : decode cX9_finds 29 = .ok (.aload_n 0, 1) := by decide +kernel
theorem dX9_finds_30 : decode cX9_finds 30 = .ok (.iload_n 2, 1) := by decide +kernel
theorem dX9_finds_31 : decode cX9_finds 31 = .ok (.iload_n 3, 1) := by decide +kernel
theorem dX9_finds_32 : decode cX9_finds 32 = .ok (.iconst 0, 1) := by decide +kernel
theorem dX9_finds_33 : decode cX9_finds 33 = .ok (.invokevirtual 68, 3) := by decide +kernel
theorem dX9_finds_36 : decode cX9_finds 36 = .ok (.iload_n 1, 1) := by decide +kernel
theorem dX9_finds_37 : decode cX9_finds 37 = .ok (.if_icmp .eq 6, 3) := by decide +kernel
theorem dX9_finds_40 : decode cX9_finds 40 = .ok (.goto 13, 3) := by decide +kernel
theorem dX9_finds_43 : decode cX9_finds 43 = .ok (.aload_n 0, 1) := by decide +kernel
theorem dX9_finds_44 : decode cX9_finds 44 = .ok (.iload_n 2, 1) := by decide +kernel
theorem dX9_finds_45 : decode cX9_finds 45 = .ok (.putfield 252, 3) := by decide +kernel
theorem dX9_finds_48 : decode cX9_finds 48 = .ok (.aload_n 0, 1) := by decide +kernel
theorem dX9_finds_49 : decode cX9_finds 49 = .ok (.iload_n 3, 1) := by decide +kernel
theorem dX9_finds_50 : decode cX9_finds 50 = .ok (.putfield 255, 3) := by decide +kernel
theorem dX9_finds_53 : decode cX9_finds 53 = .ok (.iinc 3 1, 3) := by decide +kernel
theorem dX9_finds_56 : decode cX9_finds 56 = .ok (.goto (-37), 3) := by decide +kernel
theorem dX9_finds_59 : decode cX9_finds 59 = .ok (.iinc 2 1, 3) := by decide +kernel
theorem dX9_finds_62 : decode cX9_finds 62 = .ok (.goto (-55), 3) := by decide +kernel
theorem dX9_finds_65 : decode cX9_finds 65 = .ok (.aload_n 0, 1) := by decide +kernel
theorem dX9_finds_66 : decode cX9_finds 66 = .ok (.getfield 252, 3) := by decide +kernel
theorem dX9_finds_69 : decode cX9_finds 69 = .ok (.iconst (-1), 1) := by decide +kernel
theorem dX9_finds_70 : decode cX9_finds 70 = .ok (.if_icmp .eq 7, 3) := by decide +kernel
theorem dX9_finds_73 : decode cX9_finds 73 = .ok (.iconst 1, 1) := by decide +kernel
theorem dX9_finds_74 : decode cX9_finds 74 = .ok (.goto 4, 3) := by decide +kernel
theorem dX9_finds_77 : decode cX9_finds 77 = .ok (.iconst 0, 1) := by decide +kernel
theorem dX9_finds_78 : decode cX9_finds 78 = .ok (.ireturn, 1) := by decide +kernel
theorem dX9_ownHumidity_0 : decode cX9_ownHumidity 0 = .ok (.sipush 1000, 3) := by decide +kernel
theorem dX9_ownHumidity_3 : decode cX9_ownHumidity 3 = .ok (.istore_n 3, 1) := by decide +kernel
theorem dX9_ownHumidity_4 : decode cX9_ownHumidity 4 = .ok (.iload_n 3, 1) := by decide +kernel
theorem dX9_ownHumidity_5 : decode cX9_ownHumidity 5 = .ok (.ifCond .lt 38, 3) := by decide +kernel
theorem dX9_ownHumidity_8 : decode cX9_ownHumidity 8 = .ok (.aload_n 0, 1) := by decide +kernel
theorem dX9_ownHumidity_9 : decode cX9_ownHumidity 9 = .ok (.aload_n 0, 1) := by decide +kernel
theorem dX9_ownHumidity_10 : decode cX9_ownHumidity 10 = .ok (.iload_n 1, 1) := by decide +kernel
theorem dX9_ownHumidity_11 : decode cX9_ownHumidity 11 = .ok (.iload_n 2, 1) := by decide +kernel
theorem dX9_ownHumidity_12 : decode cX9_ownHumidity 12 = .ok (.iconst 1, 1) := by decide +kernel
theorem dX9_ownHumidity_13 : decode cX9_ownHumidity 13 = .ok (.invokevirtual 68, 3) := by decide +kernel
theorem dX9_ownHumidity_16 : decode cX9_ownHumidity 16 = .ok (.aload_n 0, 1) := by decide +kernel
theorem dX9_ownHumidity_17 : decode cX9_ownHumidity 17 = .ok (.iload_n 1, 1) := by decide +kernel
theorem dX9_ownHumidity_18 : decode cX9_ownHumidity 18 = .ok (.iload_n 2, 1) := by decide +kernel
theorem dX9_ownHumidity_19 : decode cX9_ownHumidity 19 = .ok (.iconst 2, 1) := by decide +kernel
theorem dX9_ownHumidity_20 : decode cX9_ownHumidity 20 = .ok (.invokevirtual 68, 3) := by decide +kernel
theorem dX9_ownHumidity_23 : decode cX9_ownHumidity 23 = .ok (.iload_n 3, 1) := by decide +kernel
theorem dX9_ownHumidity_24 : decode cX9_ownHumidity 24 = .ok (.invokevirtual 72, 3) := by decide +kernel
theorem dX9_ownHumidity_27 : decode cX9_ownHumidity 27 = .ok (.aload_n 0, 1) := by decide +kernel
theorem dX9_ownHumidity_28 : decode cX9_ownHumidity 28 = .ok (.iload_n 1, 1) := by decide +kernel
theorem dX9_ownHumidity_29 : decode cX9_ownHumidity 29 = .ok (.iload_n 2, 1) := by decide +kernel
theorem dX9_ownHumidity_30 : decode cX9_ownHumidity 30 = .ok (.iconst 3, 1) := by decide +kernel
theorem dX9_ownHumidity_31 : decode cX9_ownHumidity 31 = .ok (.invokevirtual 68, 3) := by decide +kernel
theorem dX9_ownHumidity_34 : decode cX9_ownHumidity 34 = .ok (.if_icmp .le 9, 3) := by decide +kernel
theorem dX9_ownHumidity_37 : decode cX9_ownHumidity 37 = .ok (.iinc 3 (-1), 3) := by decide +kernel
theorem dX9_ownHumidity_40 : decode cX9_ownHumidity 40 = .ok (.goto (-36), 3) := by decide +kernel
theorem dX9_ownHumidity_43 : decode cX9_ownHumidity 43 = .ok (.iload_n 3, 1) := by decide +kernel
theorem dX9_ownHumidity_44 : decode cX9_ownHumidity 44 = .ok (.ireturn, 1) := by decide +kernel
theorem dX9_cassette_0 : decode cX9_cassette 0 = .ok (.aload_n 0, 1) := by decide +kernel
theorem dX9_cassette_1 : decode cX9_cassette 1 = .ok (.iconst 0, 1) := by decide +kernel
theorem dX9_cassette_2 : decode cX9_cassette 2 = .ok (.putfield 61, 3) := by decide +kernel
theorem dX9_cassette_5 : decode cX9_cassette 5 = .ok (.aload_n 0, 1) := by decide +kernel
theorem dX9_cassette_6 : decode cX9_cassette 6 = .ok (.aload_n 0, 1) := by decide +kernel
theorem dX9_cassette_7 : decode cX9_cassette 7 = .ok (.iload_n 1, 1) := by decide +kernel
theorem dX9_cassette_8 : decode cX9_cassette 8 = .ok (.invokevirtual 239, 3) := by decide +kernel
theorem dX9_cassette_11 : decode cX9_cassette 11 = .ok (.ifCond .eq 23, 3) := by decide +kernel
theorem dX9_cassette_14 : decode cX9_cassette 14 = .ok (.iload_n 2, 1) := by decide +kernel
theorem dX9_cassette_15 : decode cX9_cassette 15 = .ok (.iconst 0, 1) := by decide +kernel
theorem dX9_cassette_16 : decode cX9_cassette 16 = .ok (.aload_n 0, 1) := by decide +kernel
theorem dX9_cassette_17 : decode cX9_cassette 17 = .ok (.iload_n 1, 1) := by decide +kernel
theorem dX9_cassette_18 : decode cX9_cassette 18 = .ok (.iconst 4, 1) := by decide +kernel
theorem dX9_cassette_19 : decode cX9_cassette 19 = .ok (.invokevirtual 64, 3) := by decide +kernel
theorem dX9_cassette_22 : decode cX9_cassette 22 = .ok (.iconst 1, 1) := by decide +kernel
theorem dX9_cassette_23 : decode cX9_cassette 23 = .ok (.isub, 1) := by decide +kernel
theorem dX9_cassette_24 : decode cX9_cassette 24 = .ok (.invokestatic 94, 3) := by decide +kernel
theorem dX9_cassette_27 : decode cX9_cassette 27 = .ok (.ifCond .eq 7, 3) := by decide +kernel
theorem dX9_cassette_30 : decode cX9_cassette 30 = .ok (.iconst 1, 1) := by decide +kernel
theorem dX9_cassette_31 : decode cX9_cassette 31 = .ok (.goto 4, 3) := by decide +kernel
theorem dX9_cassette_34 : decode cX9_cassette 34 = .ok (.iconst 0, 1) := by decide +kernel
theorem dX9_cassette_35 : decode cX9_cassette 35 = .ok (.iconst 1, 1) := by decide +kernel
theorem dX9_cassette_36 : decode cX9_cassette 36 = .ok (.invokevirtual 90, 3) := by decide +kernel
theorem dX9_cassette_39 : decode cX9_cassette 39 = .ok (.ifCond .eq 17, 3) := by decide +kernel
theorem dX9_cassette_42 : decode cX9_cassette 42 = .ok (.aload_n 0, 1) := by decide +kernel
theorem dX9_cassette_43 : decode cX9_cassette 43 = .ok (.iload_n 3, 1) := by decide +kernel
theorem dX9_cassette_44 : decode cX9_cassette 44 = .ok (.iconst 0, 1) := by decide +kernel
theorem dX9_cassette_45 : decode cX9_cassette 45 = .ok (.iconst 4, 1) := by decide +kernel
theorem dX9_cassette_46 : decode cX9_cassette 46 = .ok (.invokestatic 94, 3) := by decide +kernel
theorem dX9_cassette_49 : decode cX9_cassette 49 = .ok (.iconst 2, 1) := by decide +kernel
theorem dX9_cassette_50 : decode cX9_cassette 50 = .ok (.invokevirtual 90, 3) := by decide +kernel
theorem dX9_cassette_53 : decode cX9_cassette 53 = .ok (.ifCond .ne 5, 3) := by decide +kernel
theorem dX9_cassette_56 : decode cX9_cassette 56 = .ok (.iconst 0, 1) := by decide +kernel
theorem dX9_cassette_57 : decode cX9_cassette 57 = .ok (.ireturn, 1) := by decide +kernel
theorem dX9_cassette_58 : decode cX9_cassette 58 = .ok (.iload_n 3, 1) := by decide +kernel
theorem dX9_cassette_59 : decode cX9_cassette 59 = .ok (.iconst 4, 1) := by decide +kernel
theorem dX9_cassette_60 : decode cX9_cassette 60 = .ok (.if_icmp .ne 12, 3) := by decide +kernel
theorem dX9_cassette_63 : decode cX9_cassette 63 = .ok (.aload_n 0, 1) := by decide +kernel
theorem dX9_cassette_64 : decode cX9_cassette 64 = .ok (.iload_n 1, 1) := by decide +kernel
theorem dX9_cassette_65 : decode cX9_cassette 65 = .ok (.iload_n 2, 1) := by decide +kernel
theorem dX9_cassette_66 : decode cX9_cassette 66 = .ok (.invokevirtual 258, 3) := by decide +kernel
theorem dX9_cassette_69 : decode cX9_cassette 69 = .ok (.goto 10, 3) := by decide +kernel
theorem dX9_cassette_72 : decode cX9_cassette 72 = .ok (.aload_n 0, 1) := by decide +kernel
theorem dX9_cassette_73 : decode cX9_cassette 73 = .ok (.iload_n 1, 1) := by decide +kernel
theorem dX9_cassette_74 : decode cX9_cassette 74 = .ok (.iload_n 2, 1) := by decide +kernel
theorem dX9_cassette_75 : decode cX9_cassette 75 = .ok (.iload_n 3, 1) := by decide +kernel
theorem dX9_cassette_76 : decode cX9_cassette 76 = .ok (.invokevirtual 68, 3) := by decide +kernel
theorem dX9_cassette_79 : decode cX9_cassette 79 = .ok (.ireturn, 1) := by decide +kernel
theorem dX9_caseOf_0 : decode cX9_caseOf 0 = .ok (.aload_n 0, 1) := by decide +kernel
theorem dX9_caseOf_1 : decode cX9_caseOf 1 = .ok (.iconst 0, 1) := by decide +kernel
theorem dX9_caseOf_2 : decode cX9_caseOf 2 = .ok (.putfield 61, 3) := by decide +kernel
theorem dX9_caseOf_5 : decode cX9_caseOf 5 = .ok (.aload_n 0, 1) := by decide +kernel
theorem dX9_caseOf_6 : decode cX9_caseOf 6 = .ok (.aload_n 0, 1) := by decide +kernel
theorem dX9_caseOf_7 : decode cX9_caseOf 7 = .ok (.iload_n 1, 1) := by decide +kernel
theorem dX9_caseOf_8 : decode cX9_caseOf 8 = .ok (.invokevirtual 261, 3) := by decide +kernel
theorem dX9_caseOf_11 : decode cX9_caseOf 11 = .ok (.iconst 1, 1) := by decide +kernel
theorem dX9_caseOf_12 : decode cX9_caseOf 12 = .ok (.invokevirtual 90, 3) := by decide +kernel
theorem dX9_caseOf_15 : decode cX9_caseOf 15 = .ok (.ifCond .eq 10, 3) := by decide +kernel
theorem dX9_caseOf_18 : decode cX9_caseOf 18 = .ok (.aload_n 0, 1) := by decide +kernel
theorem dX9_caseOf_19 : decode cX9_caseOf 19 = .ok (.getfield 252, 3) := by decide +kernel
theorem dX9_caseOf_22 : decode cX9_caseOf 22 = .ok (.goto 4, 3) := by decide +kernel
theorem dX9_caseOf_25 : decode cX9_caseOf 25 = .ok (.iconst 0, 1) := by decide +kernel
theorem dX9_caseOf_26 : decode cX9_caseOf 26 = .ok (.ireturn, 1) := by decide +kernel
theorem dX9_puts_0 : decode cX9_puts 0 = .ok (.aload_n 0, 1) := by decide +kernel
theorem dX9_puts_1 : decode cX9_puts 1 = .ok (.iload_n 1, 1) := by decide +kernel
theorem dX9_puts_2 : decode cX9_puts 2 = .ok (.iload_n 2, 1) := by decide +kernel
theorem dX9_puts_3 : decode cX9_puts 3 = .ok (.iconst 0, 1) := by decide +kernel
theorem dX9_puts_4 : decode cX9_puts 4 = .ok (.iload_n 3, 1) := by decide +kernel
theorem dX9_puts_5 : decode cX9_puts 5 = .ok (.invokevirtual 75, 3) := by decide +kernel
theorem dX9_puts_8 : decode cX9_puts 8 = .ok (.aload_n 0, 1) := by decide +kernel
theorem dX9_puts_9 : decode cX9_puts 9 = .ok (.iload_n 1, 1) := by decide +kernel
theorem dX9_puts_10 : decode cX9_puts 10 = .ok (.iload_n 2, 1) := by decide +kernel
theorem dX9_puts_11 : decode cX9_puts 11 = .ok (.iconst 1, 1) := by decide +kernel
theorem dX9_puts_12 : decode cX9_puts 12 = .ok (.iload 4, 2) := by decide +kernel
theorem dX9_puts_14 : decode cX9_puts 14 = .ok (.invokevirtual 75, 3) := by decide +kernel
theorem dX9_puts_17 : decode cX9_puts 17 = .ok (.aload_n 0, 1) := by decide +kernel
theorem dX9_puts_18 : decode cX9_puts 18 = .ok (.iload_n 1, 1) := by decide +kernel
theorem dX9_puts_19 : decode cX9_puts 19 = .ok (.iload_n 2, 1) := by decide +kernel
theorem dX9_puts_20 : decode cX9_puts 20 = .ok (.iconst 2, 1) := by decide +kernel
theorem dX9_puts_21 : decode cX9_puts 21 = .ok (.iload 5, 2) := by decide +kernel
theorem dX9_puts_23 : decode cX9_puts 23 = .ok (.invokevirtual 75, 3) := by decide +kernel
theorem dX9_puts_26 : decode cX9_puts 26 = .ok (.aload_n 0, 1) := by decide +kernel
theorem dX9_puts_27 : decode cX9_puts 27 = .ok (.iload_n 1, 1) := by decide +kernel
theorem dX9_puts_28 : decode cX9_puts 28 = .ok (.iload_n 2, 1) := by decide +kernel
theorem dX9_puts_29 : decode cX9_puts 29 = .ok (.iconst 3, 1) := by decide +kernel
theorem dX9_puts_30 : decode cX9_puts 30 = .ok (.iload 6, 2) := by decide +kernel
theorem dX9_puts_32 : decode cX9_puts 32 = .ok (.invokevirtual 75, 3) := by decide +kernel
theorem dX9_puts_35 : decode cX9_puts 35 = .ok (.aload_n 0, 1) := by decide +kernel
theorem dX9_puts_36 : decode cX9_puts 36 = .ok (.iload_n 1, 1) := by decide +kernel
theorem dX9_puts_37 : decode cX9_puts 37 = .ok (.iconst 3, 1) := by decide +kernel
theorem dX9_puts_38 : decode cX9_puts 38 = .ok (.iload 6, 2) := by decide +kernel
theorem dX9_puts_40 : decode cX9_puts 40 = .ok (.i2l, 1) := by decide +kernel
theorem dX9_puts_41 : decode cX9_puts 41 = .ok (.invokevirtual 248, 3) := by decide +kernel
theorem dX9_puts_44 : decode cX9_puts 44 = .ok (.return_, 1) := by decide +kernel
theorem dX9_addsTo_0 : decode cX9_addsTo 0 = .ok (.aload_n 0, 1) := by decide +kernel
theorem dX9_addsTo_1 : decode cX9_addsTo 1 = .ok (.iload_n 1, 1) := by decide +kernel
theorem dX9_addsTo_2 : decode cX9_addsTo 2 = .ok (.iconst 4, 1) := by decide +kernel
theorem dX9_addsTo_3 : decode cX9_addsTo 3 = .ok (.invokevirtual 64, 3) := by decide +kernel
theorem dX9_addsTo_6 : decode cX9_addsTo 6 = .ok (.istore 6, 2) := by decide +kernel
theorem dX9_addsTo_8 : decode cX9_addsTo 8 = .ok (.aload_n 0, 1) := by decide +kernel
theorem dX9_addsTo_9 : decode cX9_addsTo 9 = .ok (.iload_n 1, 1) := by decide +kernel
theorem dX9_addsTo_10 : decode cX9_addsTo 10 = .ok (.iconst 4, 1) := by decide +kernel
theorem dX9_addsTo_11 : decode cX9_addsTo 11 = .ok (.iload 6, 2) := by decide +kernel
theorem dX9_addsTo_13 : decode cX9_addsTo 13 = .ok (.iconst 1, 1) := by decide +kernel
theorem dX9_addsTo_14 : decode cX9_addsTo 14 = .ok (.iadd, 1) := by decide +kernel
theorem dX9_addsTo_15 : decode cX9_addsTo 15 = .ok (.invokevirtual 79, 3) := by decide +kernel
theorem dX9_addsTo_18 : decode cX9_addsTo 18 = .ok (.aload_n 0, 1) := by decide +kernel
theorem dX9_addsTo_19 : decode cX9_addsTo 19 = .ok (.iload_n 1, 1) := by decide +kernel
theorem dX9_addsTo_20 : decode cX9_addsTo 20 = .ok (.iload 6, 2) := by decide +kernel
theorem dX9_addsTo_22 : decode cX9_addsTo 22 = .ok (.iload_n 2, 1) := by decide +kernel
theorem dX9_addsTo_23 : decode cX9_addsTo 23 = .ok (.iload_n 3, 1) := by decide +kernel
theorem dX9_addsTo_24 : decode cX9_addsTo 24 = .ok (.iload 4, 2) := by decide +kernel
theorem dX9_addsTo_26 : decode cX9_addsTo 26 = .ok (.iload 5, 2) := by decide +kernel
theorem dX9_addsTo_28 : decode cX9_addsTo 28 = .ok (.invokevirtual 264, 3) := by decide +kernel
theorem dX9_addsTo_31 : decode cX9_addsTo 31 = .ok (.return_, 1) := by decide +kernel
theorem dX9_newSerial_0 : decode cX9_newSerial 0 = .ok (.aload_n 0, 1) := by decide +kernel
theorem dX9_newSerial_1 : decode cX9_newSerial 1 = .ok (.getfield 16, 3) := by decide +kernel
theorem dX9_newSerial_4 : decode cX9_newSerial 4 = .ok (.iconst 3, 1) := by decide +kernel
theorem dX9_newSerial_5 : decode cX9_newSerial 5 = .ok (.dup2, 1) := by decide +kernel
theorem dX9_newSerial_6 : decode cX9_newSerial 6 = .ok (.iaload, 1) := by decide +kernel
theorem dX9_newSerial_7 : decode cX9_newSerial 7 = .ok (.iconst 1, 1) := by decide +kernel
theorem dX9_newSerial_8 : decode cX9_newSerial 8 = .ok (.iadd, 1) := by decide +kernel
theorem dX9_newSerial_9 : decode cX9_newSerial 9 = .ok (.iastore, 1) := by decide +kernel
theorem dX9_newSerial_10 : decode cX9_newSerial 10 = .ok (.aload_n 0, 1) := by decide +kernel
theorem dX9_newSerial_11 : decode cX9_newSerial 11 = .ok (.getfield 16, 3) := by decide +kernel
theorem dX9_newSerial_14 : decode cX9_newSerial 14 = .ok (.iconst 3, 1) := by decide +kernel
theorem dX9_newSerial_15 : decode cX9_newSerial 15 = .ok (.iaload, 1) := by decide +kernel
theorem dX9_newSerial_16 : decode cX9_newSerial 16 = .ok (.iconst 1, 1) := by decide +kernel
theorem dX9_newSerial_17 : decode cX9_newSerial 17 = .ok (.isub, 1) := by decide +kernel
theorem dX9_newSerial_18 : decode cX9_newSerial 18 = .ok (.ireturn, 1) := by decide +kernel
theorem dX9_add_0 : decode cX9_add 0 = .ok (.aload_n 0, 1) := by decide +kernel
theorem dX9_add_1 : decode cX9_add 1 = .ok (.iconst 0, 1) := by decide +kernel
theorem dX9_add_2 : decode cX9_add 2 = .ok (.putfield 61, 3) := by decide +kernel
theorem dX9_add_5 : decode cX9_add 5 = .ok (.aload_n 0, 1) := by decide +kernel
theorem dX9_add_6 : decode cX9_add 6 = .ok (.aload_n 0, 1) := by decide +kernel
theorem dX9_add_7 : decode cX9_add 7 = .ok (.iload_n 1, 1) := by decide +kernel
theorem dX9_add_8 : decode cX9_add 8 = .ok (.invokevirtual 239, 3) := by decide +kernel
theorem dX9_add_11 : decode cX9_add 11 = .ok (.ifCond .eq 15, 3) := by decide +kernel
theorem dX9_add_14 : decode cX9_add 14 = .ok (.aload_n 0, 1) := by decide +kernel
theorem dX9_add_15 : decode cX9_add 15 = .ok (.iload_n 2, 1) := by decide +kernel
theorem dX9_add_16 : decode cX9_add 16 = .ok (.invokevirtual 231, 3) := by decide +kernel
theorem dX9_add_19 : decode cX9_add 19 = .ok (.ifCond .eq 7, 3) := by decide +kernel
theorem dX9_add_22 : decode cX9_add 22 = .ok (.iconst 1, 1) := by decide +kernel
theorem dX9_add_23 : decode cX9_add 23 = .ok (.goto 4, 3) := by decide +kernel
theorem dX9_add_26 : decode cX9_add 26 = .ok (.iconst 0, 1) := by decide +kernel
theorem dX9_add_27 : decode cX9_add 27 = .ok (.iconst 1, 1) := by decide +kernel
theorem dX9_add_28 : decode cX9_add 28 = .ok (.invokevirtual 90, 3) := by decide +kernel
theorem dX9_add_31 : decode cX9_add 31 = .ok (.ifCond .eq 62, 3) := by decide +kernel
theorem dX9_add_34 : decode cX9_add 34 = .ok (.aload_n 0, 1) := by decide +kernel
theorem dX9_add_35 : decode cX9_add 35 = .ok (.iload_n 3, 1) := by decide +kernel
theorem dX9_add_36 : decode cX9_add 36 = .ok (.iconst 1, 1) := by decide +kernel
theorem dX9_add_37 : decode cX9_add 37 = .ok (.sipush 999, 3) := by decide +kernel
theorem dX9_add_40 : decode cX9_add 40 = .ok (.invokestatic 94, 3) := by decide +kernel
theorem dX9_add_43 : decode cX9_add 43 = .ok (.ifCond .eq 19, 3) := by decide +kernel
theorem dX9_add_46 : decode cX9_add 46 = .ok (.iload 4, 2) := by decide +kernel
theorem dX9_add_48 : decode cX9_add 48 = .ok (.iconst 0, 1) := by decide +kernel
theorem dX9_add_49 : decode cX9_add 49 = .ok (.sipush 1000, 3) := by decide +kernel
theorem dX9_add_52 : decode cX9_add 52 = .ok (.invokestatic 94, 3) := by decide +kernel
theorem dX9_add_55 : decode cX9_add 55 = .ok (.ifCond .eq 7, 3) := by decide +kernel
theorem dX9_add_58 : decode cX9_add 58 = .ok (.iconst 1, 1) := by decide +kernel
theorem dX9_add_59 : decode cX9_add 59 = .ok (.goto 4, 3) := by decide +kernel
theorem dX9_add_62 : decode cX9_add 62 = .ok (.iconst 0, 1) := by decide +kernel
theorem dX9_add_63 : decode cX9_add 63 = .ok (.iconst 2, 1) := by decide +kernel
theorem dX9_add_64 : decode cX9_add 64 = .ok (.invokevirtual 90, 3) := by decide +kernel
theorem dX9_add_67 : decode cX9_add 67 = .ok (.ifCond .eq 26, 3) := by decide +kernel
theorem dX9_add_70 : decode cX9_add 70 = .ok (.aload_n 0, 1) := by decide +kernel
theorem dX9_add_71 : decode cX9_add 71 = .ok (.aload_n 0, 1) := by decide +kernel
theorem dX9_add_72 : decode cX9_add 72 = .ok (.iload_n 1, 1) := by decide +kernel
theorem dX9_add_73 : decode cX9_add 73 = .ok (.iconst 4, 1) := by decide +kernel
theorem dX9_add_74 : decode cX9_add 74 = .ok (.invokevirtual 64, 3) := by decide +kernel
theorem dX9_add_77 : decode cX9_add 77 = .ok (.iconst 5, 1) := by decide +kernel
theorem dX9_add_78 : decode cX9_add 78 = .ok (.if_icmp .ge 7, 3) := by decide +kernel
theorem dX9_add_81 : decode cX9_add 81 = .ok (.iconst 1, 1) := by decide +kernel
theorem dX9_add_82 : decode cX9_add 82 = .ok (.goto 4, 3) := by decide +kernel
theorem dX9_add_85 : decode cX9_add 85 = .ok (.iconst 0, 1) := by decide +kernel
theorem dX9_add_86 : decode cX9_add 86 = .ok (.iconst 3, 1) := by decide +kernel
theorem dX9_add_87 : decode cX9_add 87 = .ok (.invokevirtual 90, 3) := by decide +kernel
theorem dX9_add_90 : decode cX9_add 90 = .ok (.ifCond .ne 5, 3) := by decide +kernel
theorem dX9_add_93 : decode cX9_add 93 = .ok (.iconst 0, 1) := by decide +kernel
theorem dX9_add_94 : decode cX9_add 94 = .ok (.ireturn, 1) := by decide +kernel
theorem dX9_add_95 : decode cX9_add 95 = .ok (.aload_n 0, 1) := by decide +kernel
theorem dX9_add_96 : decode cX9_add 96 = .ok (.invokevirtual 268, 3) := by decide +kernel
theorem dX9_add_99 : decode cX9_add 99 = .ok (.istore 5, 2) := by decide +kernel
theorem dX9_add_101 : decode cX9_add 101 = .ok (.aload_n 0, 1) := by decide +kernel
theorem dX9_add_102 : decode cX9_add 102 = .ok (.iload_n 1, 1) := by decide +kernel
theorem dX9_add_103 : decode cX9_add 103 = .ok (.iload 5, 2) := by decide +kernel
theorem dX9_add_105 : decode cX9_add 105 = .ok (.iload_n 2, 1) := by decide +kernel
theorem dX9_add_106 : decode cX9_add 106 = .ok (.iload_n 3, 1) := by decide +kernel
theorem dX9_add_107 : decode cX9_add 107 = .ok (.aload_n 0, 1) := by decide +kernel
theorem dX9_add_108 : decode cX9_add 108 = .ok (.iload_n 2, 1) := by decide +kernel
theorem dX9_add_109 : decode cX9_add 109 = .ok (.iload_n 3, 1) := by decide +kernel
theorem dX9_add_110 : decode cX9_add 110 = .ok (.iload 4, 2) := by decide +kernel
theorem dX9_add_112 : decode cX9_add 112 = .ok (.invokevirtual 72, 3) := by decide +kernel
theorem dX9_add_115 : decode cX9_add 115 = .ok (.invokevirtual 271, 3) := by decide +kernel
theorem dX9_add_118 : decode cX9_add 118 = .ok (.iload 5, 2) := by decide +kernel
theorem dX9_add_120 : decode cX9_add 120 = .ok (.ireturn, 1) := by decide +kernel
theorem dX9_goes_0 : decode cX9_goes 0 = .ok (.aload_n 0, 1) := by decide +kernel
theorem dX9_goes_1 : decode cX9_goes 1 = .ok (.iload_n 1, 1) := by decide +kernel
theorem dX9_goes_2 : decode cX9_goes 2 = .ok (.iload_n 2, 1) := by decide +kernel
theorem dX9_goes_3 : decode cX9_goes 3 = .ok (.iconst 3, 1) := by decide +kernel
theorem dX9_goes_4 : decode cX9_goes 4 = .ok (.invokevirtual 68, 3) := by decide +kernel
theorem dX9_goes_7 : decode cX9_goes 7 = .ok (.istore_n 3, 1) := by decide +kernel
theorem dX9_goes_8 : decode cX9_goes 8 = .ok (.aload_n 0, 1) := by decide +kernel
theorem dX9_goes_9 : decode cX9_goes 9 = .ok (.iload_n 1, 1) := by decide +kernel
theorem dX9_goes_10 : decode cX9_goes 10 = .ok (.iconst 4, 1) := by decide +kernel
theorem dX9_goes_11 : decode cX9_goes 11 = .ok (.iload_n 3, 1) := by decide +kernel
theorem dX9_goes_12 : decode cX9_goes 12 = .ok (.i2l, 1) := by decide +kernel
theorem dX9_goes_13 : decode cX9_goes 13 = .ok (.invokevirtual 248, 3) := by decide +kernel
theorem dX9_goes_16 : decode cX9_goes 16 = .ok (.aload_n 0, 1) := by decide +kernel
theorem dX9_goes_17 : decode cX9_goes 17 = .ok (.iload_n 1, 1) := by decide +kernel
theorem dX9_goes_18 : decode cX9_goes 18 = .ok (.iconst 4, 1) := by decide +kernel
theorem dX9_goes_19 : decode cX9_goes 19 = .ok (.aload_n 0, 1) := by decide +kernel
theorem dX9_goes_20 : decode cX9_goes 20 = .ok (.iload_n 1, 1) := by decide +kernel
theorem dX9_goes_21 : decode cX9_goes 21 = .ok (.iconst 4, 1) := by decide +kernel
theorem dX9_goes_22 : decode cX9_goes 22 = .ok (.invokevirtual 64, 3) := by decide +kernel
theorem dX9_goes_25 : decode cX9_goes 25 = .ok (.iconst 1, 1) := by decide +kernel
theorem dX9_goes_26 : decode cX9_goes 26 = .ok (.isub, 1) := by decide +kernel
theorem dX9_goes_27 : decode cX9_goes 27 = .ok (.invokevirtual 79, 3) := by decide +kernel
theorem dX9_goes_30 : decode cX9_goes 30 = .ok (.iconst 4, 1) := by decide +kernel
theorem dX9_goes_31 : decode cX9_goes 31 = .ok (.iload_n 2, 1) := by decide +kernel
theorem dX9_goes_32 : decode cX9_goes 32 = .ok (.imul, 1) := by decide +kernel
theorem dX9_goes_33 : decode cX9_goes 33 = .ok (.istore 4, 2) := by decide +kernel
theorem dX9_goes_35 : decode cX9_goes 35 = .ok (.iload 4, 2) := by decide +kernel
theorem dX9_goes_37 : decode cX9_goes 37 = .ok (.iconst 4, 1) := by decide +kernel
theorem dX9_goes_38 : decode cX9_goes 38 = .ok (.aload_n 0, 1) := by decide +kernel
theorem dX9_goes_39 : decode cX9_goes 39 = .ok (.iload_n 1, 1) := by decide +kernel
theorem dX9_goes_40 : decode cX9_goes 40 = .ok (.iconst 4, 1) := by decide +kernel
theorem dX9_goes_41 : decode cX9_goes 41 = .ok (.invokevirtual 64, 3) := by decide +kernel
theorem dX9_goes_44 : decode cX9_goes 44 = .ok (.imul, 1) := by decide +kernel
theorem dX9_goes_45 : decode cX9_goes 45 = .ok (.if_icmp .ge 31, 3) := by decide +kernel
theorem dX9_goes_48 : decode cX9_goes 48 = .ok (.aload_n 0, 1) := by decide +kernel
theorem dX9_goes_49 : decode cX9_goes 49 = .ok (.iload_n 1, 1) := by decide +kernel
theorem dX9_goes_50 : decode cX9_goes 50 = .ok (.bipush 8, 2) := by decide +kernel
theorem dX9_goes_52 : decode cX9_goes 52 = .ok (.iload 4, 2) := by decide +kernel
theorem dX9_goes_54 : decode cX9_goes 54 = .ok (.iadd, 1) := by decide +kernel
theorem dX9_goes_55 : decode cX9_goes 55 = .ok (.aload_n 0, 1) := by decide +kernel
theorem dX9_goes_56 : decode cX9_goes 56 = .ok (.iload_n 1, 1) := by decide +kernel
theorem dX9_goes_57 : decode cX9_goes 57 = .ok (.bipush 8, 2) := by decide +kernel
theorem dX9_goes_59 : decode cX9_goes 59 = .ok (.iload 4, 2) := by decide +kernel
theorem dX9_goes_61 : decode cX9_goes 61 = .ok (.iadd, 1) := by decide +kernel
theorem dX9_goes_62 : decode cX9_goes 62 = .ok (.iconst 4, 1) := by decide +kernel
theorem dX9_goes_63 : decode cX9_goes 63 = .ok (.iadd, 1) := by decide +kernel
theorem dX9_goes_64 : decode cX9_goes 64 = .ok (.invokevirtual 64, 3) := by decide +kernel
theorem dX9_goes_67 : decode cX9_goes 67 = .ok (.invokevirtual 79, 3) := by decide +kernel
theorem dX9_goes_70 : decode cX9_goes 70 = .ok (.iinc 4 1, 3) := by decide +kernel
theorem dX9_goes_73 : decode cX9_goes 73 = .ok (.goto (-38), 3) := by decide +kernel
theorem dX9_goes_76 : decode cX9_goes 76 = .ok (.iload_n 3, 1) := by decide +kernel
theorem dX9_goes_77 : decode cX9_goes 77 = .ok (.ireturn, 1) := by decide +kernel
theorem dX9_remove_0 : decode cX9_remove 0 = .ok (.aload_n 0, 1) := by decide +kernel
theorem dX9_remove_1 : decode cX9_remove 1 = .ok (.iconst 0, 1) := by decide +kernel
theorem dX9_remove_2 : decode cX9_remove 2 = .ok (.putfield 61, 3) := by decide +kernel
theorem dX9_remove_5 : decode cX9_remove 5 = .ok (.aload_n 0, 1) := by decide +kernel
theorem dX9_remove_6 : decode cX9_remove 6 = .ok (.aload_n 0, 1) := by decide +kernel
theorem dX9_remove_7 : decode cX9_remove 7 = .ok (.iload_n 1, 1) := by decide +kernel
theorem dX9_remove_8 : decode cX9_remove 8 = .ok (.invokevirtual 261, 3) := by decide +kernel
theorem dX9_remove_11 : decode cX9_remove 11 = .ok (.iconst 1, 1) := by decide +kernel
theorem dX9_remove_12 : decode cX9_remove 12 = .ok (.invokevirtual 90, 3) := by decide +kernel
theorem dX9_remove_15 : decode cX9_remove 15 = .ok (.ifCond .eq 18, 3) := by decide +kernel
theorem dX9_remove_18 : decode cX9_remove 18 = .ok (.aload_n 0, 1) := by decide +kernel
theorem dX9_remove_19 : decode cX9_remove 19 = .ok (.aload_n 0, 1) := by decide +kernel
theorem dX9_remove_20 : decode cX9_remove 20 = .ok (.getfield 252, 3) := by decide +kernel
theorem dX9_remove_23 : decode cX9_remove 23 = .ok (.aload_n 0, 1) := by decide +kernel
theorem dX9_remove_24 : decode cX9_remove 24 = .ok (.getfield 255, 3) := by decide +kernel
theorem dX9_remove_27 : decode cX9_remove 27 = .ok (.invokevirtual 275, 3) := by decide +kernel
theorem dX9_remove_30 : decode cX9_remove 30 = .ok (.goto 4, 3) := by decide +kernel
theorem dX9_remove_33 : decode cX9_remove 33 = .ok (.iconst 0, 1) := by decide +kernel
theorem dX9_remove_34 : decode cX9_remove 34 = .ok (.ireturn, 1) := by decide +kernel
theorem dX9_move_0 : decode cX9_move 0 = .ok (.aload_n 0, 1) := by decide +kernel
theorem dX9_move_1 : decode cX9_move 1 = .ok (.iconst 0, 1) := by decide +kernel
theorem dX9_move_2 : decode cX9_move 2 = .ok (.putfield 61, 3) := by decide +kernel
theorem dX9_move_5 : decode cX9_move 5 = .ok (.aload_n 0, 1) := by decide +kernel
theorem dX9_move_6 : decode cX9_move 6 = .ok (.aload_n 0, 1) := by decide +kernel
theorem dX9_move_7 : decode cX9_move 7 = .ok (.iload_n 1, 1) := by decide +kernel
theorem dX9_move_8 : decode cX9_move 8 = .ok (.invokevirtual 261, 3) := by decide +kernel
theorem dX9_move_11 : decode cX9_move 11 = .ok (.iconst 1, 1) := by decide +kernel
theorem dX9_move_12 : decode cX9_move 12 = .ok (.invokevirtual 90, 3) := by decide +kernel
theorem dX9_move_15 : decode cX9_move 15 = .ok (.ifCond .eq 47, 3) := by decide +kernel
theorem dX9_move_18 : decode cX9_move 18 = .ok (.aload_n 0, 1) := by decide +kernel
theorem dX9_move_19 : decode cX9_move 19 = .ok (.aload_n 0, 1) := by decide +kernel
theorem dX9_move_20 : decode cX9_move 20 = .ok (.iload_n 2, 1) := by decide +kernel
theorem dX9_move_21 : decode cX9_move 21 = .ok (.invokevirtual 239, 3) := by decide +kernel
theorem dX9_move_24 : decode cX9_move 24 = .ok (.iconst 2, 1) := by decide +kernel
theorem dX9_move_25 : decode cX9_move 25 = .ok (.invokevirtual 90, 3) := by decide +kernel
theorem dX9_move_28 : decode cX9_move 28 = .ok (.ifCond .eq 34, 3) := by decide +kernel
theorem dX9_move_31 : decode cX9_move 31 = .ok (.aload_n 0, 1) := by decide +kernel
theorem dX9_move_32 : decode cX9_move 32 = .ok (.aload_n 0, 1) := by decide +kernel
theorem dX9_move_33 : decode cX9_move 33 = .ok (.getfield 252, 3) := by decide +kernel
theorem dX9_move_36 : decode cX9_move 36 = .ok (.iload_n 2, 1) := by decide +kernel
theorem dX9_move_37 : decode cX9_move 37 = .ok (.if_icmp .eq 17, 3) := by decide +kernel
theorem dX9_move_40 : decode cX9_move 40 = .ok (.aload_n 0, 1) := by decide +kernel
theorem dX9_move_41 : decode cX9_move 41 = .ok (.iload_n 2, 1) := by decide +kernel
theorem dX9_move_42 : decode cX9_move 42 = .ok (.iconst 4, 1) := by decide +kernel
theorem dX9_move_43 : decode cX9_move 43 = .ok (.invokevirtual 64, 3) := by decide +kernel
theorem dX9_move_46 : decode cX9_move 46 = .ok (.iconst 5, 1) := by decide +kernel
theorem dX9_move_47 : decode cX9_move 47 = .ok (.if_icmp .ge 7, 3) := by decide +kernel
theorem dX9_move_50 : decode cX9_move 50 = .ok (.iconst 1, 1) := by decide +kernel
theorem dX9_move_51 : decode cX9_move 51 = .ok (.goto 4, 3) := by decide +kernel
theorem dX9_move_54 : decode cX9_move 54 = .ok (.iconst 0, 1) := by decide +kernel
theorem dX9_move_55 : decode cX9_move 55 = .ok (.iconst 3, 1) := by decide +kernel
theorem dX9_move_56 : decode cX9_move 56 = .ok (.invokevirtual 90, 3) := by decide +kernel
theorem dX9_move_59 : decode cX9_move 59 = .ok (.ifCond .ne 5, 3) := by decide +kernel
theorem dX9_move_62 : decode cX9_move 62 = .ok (.iconst 0, 1) := by decide +kernel
theorem dX9_move_63 : decode cX9_move 63 = .ok (.ireturn, 1) := by decide +kernel
theorem dX9_move_64 : decode cX9_move 64 = .ok (.aload_n 0, 1) := by decide +kernel
theorem dX9_move_65 : decode cX9_move 65 = .ok (.aload_n 0, 1) := by decide +kernel
theorem dX9_move_66 : decode cX9_move 66 = .ok (.getfield 252, 3) := by decide +kernel
theorem dX9_move_69 : decode cX9_move 69 = .ok (.aload_n 0, 1) := by decide +kernel
theorem dX9_move_70 : decode cX9_move 70 = .ok (.getfield 255, 3) := by decide +kernel
theorem dX9_move_73 : decode cX9_move 73 = .ok (.iconst 1, 1) := by decide +kernel
theorem dX9_move_74 : decode cX9_move 74 = .ok (.invokevirtual 68, 3) := by decide +kernel
theorem dX9_move_77 : decode cX9_move 77 = .ok (.istore_n 3, 1) := by decide +kernel
theorem dX9_move_78 : decode cX9_move 78 = .ok (.aload_n 0, 1) := by decide +kernel
theorem dX9_move_79 : decode cX9_move 79 = .ok (.aload_n 0, 1) := by decide +kernel
theorem dX9_move_80 : decode cX9_move 80 = .ok (.getfield 252, 3) := by decide +kernel
theorem dX9_move_83 : decode cX9_move 83 = .ok (.aload_n 0, 1) := by decide +kernel
theorem dX9_move_84 : decode cX9_move 84 = .ok (.getfield 255, 3) := by decide +kernel
theorem dX9_move_87 : decode cX9_move 87 = .ok (.iconst 2, 1) := by decide +kernel
theorem dX9_move_88 : decode cX9_move 88 = .ok (.invokevirtual 68, 3) := by decide +kernel
theorem dX9_move_91 : decode cX9_move 91 = .ok (.istore 4, 2) := by decide +kernel
theorem dX9_move_93 : decode cX9_move 93 = .ok (.aload_n 0, 1) := by decide +kernel
theorem dX9_move_94 : decode cX9_move 94 = .ok (.aload_n 0, 1) := by decide +kernel
theorem dX9_move_95 : decode cX9_move 95 = .ok (.getfield 252, 3) := by decide +kernel
theorem dX9_move_98 : decode cX9_move 98 = .ok (.aload_n 0, 1) := by decide +kernel
theorem dX9_move_99 : decode cX9_move 99 = .ok (.getfield 255, 3) := by decide +kernel
theorem dX9_move_102 : decode cX9_move 102 = .ok (.invokevirtual 275, 3) := by decide +kernel
theorem dX9_move_105 : decode cX9_move 105 = .ok (.istore 5, 2) := by decide +kernel
theorem dX9_move_107 : decode cX9_move 107 = .ok (.aload_n 0, 1) := by decide +kernel
theorem dX9_move_108 : decode cX9_move 108 = .ok (.iload_n 2, 1) := by decide +kernel
theorem dX9_move_109 : decode cX9_move 109 = .ok (.iload_n 1, 1) := by decide +kernel
theorem dX9_move_110 : decode cX9_move 110 = .ok (.iload_n 3, 1) := by decide +kernel
theorem dX9_move_111 : decode cX9_move 111 = .ok (.iload 4, 2) := by decide +kernel
theorem dX9_move_113 : decode cX9_move 113 = .ok (.iload 5, 2) := by decide +kernel
theorem dX9_move_115 : decode cX9_move 115 = .ok (.invokevirtual 271, 3) := by decide +kernel
theorem dX9_move_118 : decode cX9_move 118 = .ok (.aload_n 0, 1) := by decide +kernel
theorem dX9_move_119 : decode cX9_move 119 = .ok (.getfield 252, 3) := by decide +kernel
theorem dX9_move_122 : decode cX9_move 122 = .ok (.ireturn, 1) := by decide +kernel
theorem dX9_exchanges_0 : decode cX9_exchanges 0 = .ok (.aload_n 0, 1) := by decide +kernel
theorem dX9_exchanges_1 : decode cX9_exchanges 1 = .ok (.iload_n 1, 1) := by decide +kernel
theorem dX9_exchanges_2 : decode cX9_exchanges 2 = .ok (.iconst 4, 1) := by decide +kernel
theorem dX9_exchanges_3 : decode cX9_exchanges 3 = .ok (.aload_n 0, 1) := by decide +kernel
theorem dX9_exchanges_4 : decode cX9_exchanges 4 = .ok (.iload_n 1, 1) := by decide +kernel
theorem dX9_exchanges_5 : decode cX9_exchanges 5 = .ok (.iload_n 2, 1) := by decide +kernel
theorem dX9_exchanges_6 : decode cX9_exchanges 6 = .ok (.iconst 3, 1) := by decide +kernel
theorem dX9_exchanges_7 : decode cX9_exchanges 7 = .ok (.invokevirtual 68, 3) := by decide +kernel
theorem dX9_exchanges_10 : decode cX9_exchanges 10 = .ok (.i2l, 1) := by decide +kernel
theorem dX9_exchanges_11 : decode cX9_exchanges 11 = .ok (.invokevirtual 248, 3) := by decide +kernel
theorem dX9_exchanges_14 : decode cX9_exchanges 14 = .ok (.aload_n 0, 1) := by decide +kernel
theorem dX9_exchanges_15 : decode cX9_exchanges 15 = .ok (.iload_n 1, 1) := by decide +kernel
theorem dX9_exchanges_16 : decode cX9_exchanges 16 = .ok (.iload_n 2, 1) := by decide +kernel
theorem dX9_exchanges_17 : decode cX9_exchanges 17 = .ok (.iconst 1, 1) := by decide +kernel
theorem dX9_exchanges_18 : decode cX9_exchanges 18 = .ok (.invokevirtual 68, 3) := by decide +kernel
theorem dX9_exchanges_21 : decode cX9_exchanges 21 = .ok (.istore 5, 2) := by decide +kernel
theorem dX9_exchanges_23 : decode cX9_exchanges 23 = .ok (.aload_n 0, 1) := by decide +kernel
theorem dX9_exchanges_24 : decode cX9_exchanges 24 = .ok (.iload_n 1, 1) := by decide +kernel
theorem dX9_exchanges_25 : decode cX9_exchanges 25 = .ok (.iload_n 2, 1) := by decide +kernel
theorem dX9_exchanges_26 : decode cX9_exchanges 26 = .ok (.iconst 2, 1) := by decide +kernel
theorem dX9_exchanges_27 : decode cX9_exchanges 27 = .ok (.invokevirtual 68, 3) := by decide +kernel
theorem dX9_exchanges_30 : decode cX9_exchanges 30 = .ok (.istore 6, 2) := by decide +kernel
theorem dX9_exchanges_32 : decode cX9_exchanges 32 = .ok (.aload_n 0, 1) := by decide +kernel
theorem dX9_exchanges_33 : decode cX9_exchanges 33 = .ok (.iload_n 1, 1) := by decide +kernel
theorem dX9_exchanges_34 : decode cX9_exchanges 34 = .ok (.iload_n 2, 1) := by decide +kernel
theorem dX9_exchanges_35 : decode cX9_exchanges 35 = .ok (.iload_n 3, 1) := by decide +kernel
theorem dX9_exchanges_36 : decode cX9_exchanges 36 = .ok (.iload 5, 2) := by decide +kernel
theorem dX9_exchanges_38 : decode cX9_exchanges 38 = .ok (.iload 6, 2) := by decide +kernel
theorem dX9_exchanges_40 : decode cX9_exchanges 40 = .ok (.aload_n 0, 1) := by decide +kernel
theorem dX9_exchanges_41 : decode cX9_exchanges 41 = .ok (.iload 5, 2) := by decide +kernel
theorem dX9_exchanges_43 : decode cX9_exchanges 43 = .ok (.iload 6, 2) := by decide +kernel
theorem dX9_exchanges_45 : decode cX9_exchanges 45 = .ok (.iload 4, 2) := by decide +kernel
theorem dX9_exchanges_47 : decode cX9_exchanges 47 = .ok (.invokevirtual 72, 3) := by decide +kernel
theorem dX9_exchanges_50 : decode cX9_exchanges 50 = .ok (.invokevirtual 264, 3) := by decide +kernel
theorem dX9_exchanges_53 : decode cX9_exchanges 53 = .ok (.return_, 1) := by decide +kernel
theorem dX9_exchange_0 : decode cX9_exchange 0 = .ok (.aload_n 0, 1) := by decide +kernel
theorem dX9_exchange_1 : decode cX9_exchange 1 = .ok (.iconst 0, 1) := by decide +kernel
theorem dX9_exchange_2 : decode cX9_exchange 2 = .ok (.putfield 61, 3) := by decide +kernel
theorem dX9_exchange_5 : decode cX9_exchange 5 = .ok (.aload_n 0, 1) := by decide +kernel
theorem dX9_exchange_6 : decode cX9_exchange 6 = .ok (.aload_n 0, 1) := by decide +kernel
theorem dX9_exchange_7 : decode cX9_exchange 7 = .ok (.iload_n 1, 1) := by decide +kernel
theorem dX9_exchange_8 : decode cX9_exchange 8 = .ok (.invokevirtual 261, 3) := by decide +kernel
theorem dX9_exchange_11 : decode cX9_exchange 11 = .ok (.iconst 1, 1) := by decide +kernel
theorem dX9_exchange_12 : decode cX9_exchange 12 = .ok (.invokevirtual 90, 3) := by decide +kernel
theorem dX9_exchange_15 : decode cX9_exchange 15 = .ok (.ifCond .eq 19, 3) := by decide +kernel
theorem dX9_exchange_18 : decode cX9_exchange 18 = .ok (.aload_n 0, 1) := by decide +kernel
theorem dX9_exchange_19 : decode cX9_exchange 19 = .ok (.iload_n 2, 1) := by decide +kernel
theorem dX9_exchange_20 : decode cX9_exchange 20 = .ok (.iconst 0, 1) := by decide +kernel
theorem dX9_exchange_21 : decode cX9_exchange 21 = .ok (.sipush 1000, 3) := by decide +kernel
theorem dX9_exchange_24 : decode cX9_exchange 24 = .ok (.invokestatic 94, 3) := by decide +kernel
theorem dX9_exchange_27 : decode cX9_exchange 27 = .ok (.iconst 2, 1) := by decide +kernel
theorem dX9_exchange_28 : decode cX9_exchange 28 = .ok (.invokevirtual 90, 3) := by decide +kernel
theorem dX9_exchange_31 : decode cX9_exchange 31 = .ok (.ifCond .ne 5, 3) := by decide +kernel
theorem dX9_exchange_34 : decode cX9_exchange 34 = .ok (.iconst 0, 1) := by decide +kernel
theorem dX9_exchange_35 : decode cX9_exchange 35 = .ok (.ireturn, 1) := by decide +kernel
theorem dX9_exchange_36 : decode cX9_exchange 36 = .ok (.aload_n 0, 1) := by decide +kernel
theorem dX9_exchange_37 : decode cX9_exchange 37 = .ok (.invokevirtual 268, 3) := by decide +kernel
theorem dX9_exchange_40 : decode cX9_exchange 40 = .ok (.istore_n 3, 1) := by decide +kernel
theorem dX9_exchange_41 : decode cX9_exchange 41 = .ok (.aload_n 0, 1) := by decide +kernel
theorem dX9_exchange_42 : decode cX9_exchange 42 = .ok (.aload_n 0, 1) := by decide +kernel
theorem dX9_exchange_43 : decode cX9_exchange 43 = .ok (.getfield 252, 3) := by decide +kernel
theorem dX9_exchange_46 : decode cX9_exchange 46 = .ok (.aload_n 0, 1) := by decide +kernel
theorem dX9_exchange_47 : decode cX9_exchange 47 = .ok (.getfield 255, 3) := by decide +kernel
theorem dX9_exchange_50 : decode cX9_exchange 50 = .ok (.iload_n 3, 1) := by decide +kernel
