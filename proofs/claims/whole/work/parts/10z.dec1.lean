theorem dX0_init_0 : decode cX0_init 0 = .ok (.aload_n 0, 1) := by decide +kernel
theorem dX0_init_1 : decode cX0_init 1 = .ok (.invokespecial 3, 3) := by decide +kernel
theorem dX0_init_4 : decode cX0_init 4 = .ok (.aload_n 0, 1) := by decide +kernel
theorem dX0_init_5 : decode cX0_init 5 = .ok (.iconst (-1), 1) := by decide +kernel
theorem dX0_init_6 : decode cX0_init 6 = .ok (.putfield 9, 3) := by decide +kernel
theorem dX0_init_9 : decode cX0_init 9 = .ok (.aload_n 0, 1) := by decide +kernel
theorem dX0_init_10 : decode cX0_init 10 = .ok (.aconst_null, 1) := by decide +kernel
theorem dX0_init_11 : decode cX0_init 11 = .ok (.putfield 15, 3) := by decide +kernel
theorem dX0_init_14 : decode cX0_init 14 = .ok (.aload_n 0, 1) := by decide +kernel
theorem dX0_init_15 : decode cX0_init 15 = .ok (.iconst 0, 1) := by decide +kernel
theorem dX0_init_16 : decode cX0_init 16 = .ok (.putfield 19, 3) := by decide +kernel
theorem dX0_init_19 : decode cX0_init 19 = .ok (.aload_n 0, 1) := by decide +kernel
theorem dX0_init_20 : decode cX0_init 20 = .ok (.iconst 0, 1) := by decide +kernel
theorem dX0_init_21 : decode cX0_init 21 = .ok (.putfield 22, 3) := by decide +kernel
theorem dX0_init_24 : decode cX0_init 24 = .ok (.return_, 1) := by decide +kernel
theorem dX0_begin_0 : decode cX0_begin 0 = .ok (.aload_n 0, 1) := by decide +kernel
theorem dX0_begin_1 : decode cX0_begin 1 = .ok (.iload_n 1, 1) := by decide +kernel
theorem dX0_begin_2 : decode cX0_begin 2 = .ok (.putfield 9, 3) := by decide +kernel
theorem dX0_begin_5 : decode cX0_begin 5 = .ok (.aload_n 0, 1) := by decide +kernel
theorem dX0_begin_6 : decode cX0_begin 6 = .ok (.aload_n 2, 1) := by decide +kernel
theorem dX0_begin_7 : decode cX0_begin 7 = .ok (.putfield 15, 3) := by decide +kernel
theorem dX0_begin_10 : decode cX0_begin 10 = .ok (.aload_n 0, 1) := by decide +kernel
theorem dX0_begin_11 : decode cX0_begin 11 = .ok (.iload_n 3, 1) := by decide +kernel
theorem dX0_begin_12 : decode cX0_begin 12 = .ok (.putfield 19, 3) := by decide +kernel
theorem dX0_begin_15 : decode cX0_begin 15 = .ok (.aload_n 0, 1) := by decide +kernel
theorem dX0_begin_16 : decode cX0_begin 16 = .ok (.iload 4, 2) := by decide +kernel
theorem dX0_begin_18 : decode cX0_begin 18 = .ok (.putfield 22, 3) := by decide +kernel
theorem dX0_begin_21 : decode cX0_begin 21 = .ok (.return_, 1) := by decide +kernel
theorem dX0_renew_0 : decode cX0_renew 0 = .ok (.aload_n 0, 1) := by decide +kernel
theorem dX0_renew_1 : decode cX0_renew 1 = .ok (.iload_n 1, 1) := by decide +kernel
theorem dX0_renew_2 : decode cX0_renew 2 = .ok (.putfield 9, 3) := by decide +kernel
theorem dX0_renew_5 : decode cX0_renew 5 = .ok (.aload_n 0, 1) := by decide +kernel
theorem dX0_renew_6 : decode cX0_renew 6 = .ok (.aload_n 0, 1) := by decide +kernel
theorem dX0_renew_7 : decode cX0_renew 7 = .ok (.iload_n 2, 1) := by decide +kernel
theorem dX0_renew_8 : decode cX0_renew 8 = .ok (.invokevirtual 25, 3) := by decide +kernel
theorem dX0_renew_11 : decode cX0_renew 11 = .ok (.putfield 22, 3) := by decide +kernel
theorem dX0_renew_14 : decode cX0_renew 14 = .ok (.return_, 1) := by decide +kernel
theorem dX0_copyFrom_0 : decode cX0_copyFrom 0 = .ok (.aload_n 0, 1) := by decide +kernel
theorem dX0_copyFrom_1 : decode cX0_copyFrom 1 = .ok (.aload_n 1, 1) := by decide +kernel
theorem dX0_copyFrom_2 : decode cX0_copyFrom 2 = .ok (.getfield 9, 3) := by decide +kernel
theorem dX0_copyFrom_5 : decode cX0_copyFrom 5 = .ok (.putfield 9, 3) := by decide +kernel
theorem dX0_copyFrom_8 : decode cX0_copyFrom 8 = .ok (.aload_n 0, 1) := by decide +kernel
theorem dX0_copyFrom_9 : decode cX0_copyFrom 9 = .ok (.aload_n 1, 1) := by decide +kernel
theorem dX0_copyFrom_10 : decode cX0_copyFrom 10 = .ok (.getfield 15, 3) := by decide +kernel
theorem dX0_copyFrom_13 : decode cX0_copyFrom 13 = .ok (.putfield 15, 3) := by decide +kernel
theorem dX0_copyFrom_16 : decode cX0_copyFrom 16 = .ok (.aload_n 0, 1) := by decide +kernel
theorem dX0_copyFrom_17 : decode cX0_copyFrom 17 = .ok (.aload_n 1, 1) := by decide +kernel
theorem dX0_copyFrom_18 : decode cX0_copyFrom 18 = .ok (.getfield 19, 3) := by decide +kernel
theorem dX0_copyFrom_21 : decode cX0_copyFrom 21 = .ok (.putfield 19, 3) := by decide +kernel
theorem dX0_copyFrom_24 : decode cX0_copyFrom 24 = .ok (.aload_n 0, 1) := by decide +kernel
theorem dX0_copyFrom_25 : decode cX0_copyFrom 25 = .ok (.aload_n 1, 1) := by decide +kernel
theorem dX0_copyFrom_26 : decode cX0_copyFrom 26 = .ok (.getfield 22, 3) := by decide +kernel
theorem dX0_copyFrom_29 : decode cX0_copyFrom 29 = .ok (.putfield 22, 3) := by decide +kernel
theorem dX0_copyFrom_32 : decode cX0_copyFrom 32 = .ok (.return_, 1) := by decide +kernel
theorem dX0_kindNumber_0 : decode cX0_kindNumber 0 = .ok (.aload_n 0, 1) := by decide +kernel
theorem dX0_kindNumber_1 : decode cX0_kindNumber 1 = .ok (.getfield 15, 3) := by decide +kernel
theorem dX0_kindNumber_4 : decode cX0_kindNumber 4 = .ok (.ifnonnull 7, 3) := by decide +kernel
theorem dX0_kindNumber_7 : decode cX0_kindNumber 7 = .ok (.iconst (-1), 1) := by decide +kernel
theorem dX0_kindNumber_8 : decode cX0_kindNumber 8 = .ok (.goto 10, 3) := by decide +kernel
theorem dX0_kindNumber_11 : decode cX0_kindNumber 11 = .ok (.aload_n 0, 1) := by decide +kernel
theorem dX0_kindNumber_12 : decode cX0_kindNumber 12 = .ok (.getfield 15, 3) := by decide +kernel
theorem dX0_kindNumber_15 : decode cX0_kindNumber 15 = .ok (.getfield 29, 3) := by decide +kernel
theorem dX0_kindNumber_18 : decode cX0_kindNumber 18 = .ok (.ireturn, 1) := by decide +kernel
theorem dX0_moistureAt_0 : decode cX0_moistureAt 0 = .ok (.aload_n 0, 1) := by decide +kernel
theorem dX0_moistureAt_1 : decode cX0_moistureAt 1 = .ok (.getfield 15, 3) := by decide +kernel
theorem dX0_moistureAt_4 : decode cX0_moistureAt 4 = .ok (.ifnonnull 7, 3) := by decide +kernel
theorem dX0_moistureAt_7 : decode cX0_moistureAt 7 = .ok (.iconst 0, 1) := by decide +kernel
theorem dX0_moistureAt_8 : decode cX0_moistureAt 8 = .ok (.goto 15, 3) := by decide +kernel
theorem dX0_moistureAt_11 : decode cX0_moistureAt 11 = .ok (.aload_n 0, 1) := by decide +kernel
theorem dX0_moistureAt_12 : decode cX0_moistureAt 12 = .ok (.getfield 15, 3) := by decide +kernel
theorem dX0_moistureAt_15 : decode cX0_moistureAt 15 = .ok (.iload_n 1, 1) := by decide +kernel
theorem dX0_moistureAt_16 : decode cX0_moistureAt 16 = .ok (.aload_n 0, 1) := by decide +kernel
theorem dX0_moistureAt_17 : decode cX0_moistureAt 17 = .ok (.getfield 19, 3) := by decide +kernel
theorem dX0_moistureAt_20 : decode cX0_moistureAt 20 = .ok (.invokevirtual 34, 3) := by decide +kernel
theorem dX0_moistureAt_23 : decode cX0_moistureAt 23 = .ok (.ireturn, 1) := by decide +kernel
theorem dX0_wishAt_0 : decode cX0_wishAt 0 = .ok (.aload_n 0, 1) := by decide +kernel
theorem dX0_wishAt_1 : decode cX0_wishAt 1 = .ok (.getfield 15, 3) := by decide +kernel
theorem dX0_wishAt_4 : decode cX0_wishAt 4 = .ok (.ifnonnull 7, 3) := by decide +kernel
theorem dX0_wishAt_7 : decode cX0_wishAt 7 = .ok (.iconst 0, 1) := by decide +kernel
theorem dX0_wishAt_8 : decode cX0_wishAt 8 = .ok (.goto 32, 3) := by decide +kernel
theorem dX0_wishAt_11 : decode cX0_wishAt 11 = .ok (.aload_n 0, 1) := by decide +kernel
theorem dX0_wishAt_12 : decode cX0_wishAt 12 = .ok (.getfield 15, 3) := by decide +kernel
theorem dX0_wishAt_15 : decode cX0_wishAt 15 = .ok (.iload_n 1, 1) := by decide +kernel
theorem dX0_wishAt_16 : decode cX0_wishAt 16 = .ok (.aload_n 0, 1) := by decide +kernel
theorem dX0_wishAt_17 : decode cX0_wishAt 17 = .ok (.getfield 19, 3) := by decide +kernel
theorem dX0_wishAt_20 : decode cX0_wishAt 20 = .ok (.invokevirtual 34, 3) := by decide +kernel
theorem dX0_wishAt_23 : decode cX0_wishAt 23 = .ok (.aload_n 0, 1) := by decide +kernel
theorem dX0_wishAt_24 : decode cX0_wishAt 24 = .ok (.getfield 22, 3) := by decide +kernel
theorem dX0_wishAt_27 : decode cX0_wishAt 27 = .ok (.isub, 1) := by decide +kernel
theorem dX0_wishAt_28 : decode cX0_wishAt 28 = .ok (.aload_n 0, 1) := by decide +kernel
theorem dX0_wishAt_29 : decode cX0_wishAt 29 = .ok (.getfield 15, 3) := by decide +kernel
theorem dX0_wishAt_32 : decode cX0_wishAt 32 = .ok (.getfield 37, 3) := by decide +kernel
theorem dX0_wishAt_35 : decode cX0_wishAt 35 = .ok (.imul, 1) := by decide +kernel
theorem dX0_wishAt_36 : decode cX0_wishAt 36 = .ok (.sipush 1000, 3) := by decide +kernel
theorem dX0_wishAt_39 : decode cX0_wishAt 39 = .ok (.idiv, 1) := by decide +kernel
theorem dX0_wishAt_40 : decode cX0_wishAt 40 = .ok (.ireturn, 1) := by decide +kernel
theorem dX0_ownHumidity_0 : decode cX0_ownHumidity 0 = .ok (.iconst (-1), 1) := by decide +kernel
theorem dX0_ownHumidity_1 : decode cX0_ownHumidity 1 = .ok (.istore_n 1, 1) := by decide +kernel
theorem dX0_ownHumidity_2 : decode cX0_ownHumidity 2 = .ok (.sipush 512, 3) := by decide +kernel
theorem dX0_ownHumidity_5 : decode cX0_ownHumidity 5 = .ok (.istore_n 2, 1) := by decide +kernel
theorem dX0_ownHumidity_6 : decode cX0_ownHumidity 6 = .ok (.iload_n 2, 1) := by decide +kernel
theorem dX0_ownHumidity_7 : decode cX0_ownHumidity 7 = .ok (.ifCond .le 35, 3) := by decide +kernel
theorem dX0_ownHumidity_10 : decode cX0_ownHumidity 10 = .ok (.iload_n 1, 1) := by decide +kernel
theorem dX0_ownHumidity_11 : decode cX0_ownHumidity 11 = .ok (.iload_n 2, 1) := by decide +kernel
theorem dX0_ownHumidity_12 : decode cX0_ownHumidity 12 = .ok (.iadd, 1) := by decide +kernel
theorem dX0_ownHumidity_13 : decode cX0_ownHumidity 13 = .ok (.istore_n 3, 1) := by decide +kernel
theorem dX0_ownHumidity_14 : decode cX0_ownHumidity 14 = .ok (.iload_n 3, 1) := by decide +kernel
theorem dX0_ownHumidity_15 : decode cX0_ownHumidity 15 = .ok (.sipush 1000, 3) := by decide +kernel
theorem dX0_ownHumidity_18 : decode cX0_ownHumidity 18 = .ok (.if_icmp .gt 17, 3) := by decide +kernel
theorem dX0_ownHumidity_21 : decode cX0_ownHumidity 21 = .ok (.aload_n 0, 1) := by decide +kernel
theorem dX0_ownHumidity_22 : decode cX0_ownHumidity 22 = .ok (.iload_n 3, 1) := by decide +kernel
theorem dX0_ownHumidity_23 : decode cX0_ownHumidity 23 = .ok (.invokevirtual 25, 3) := by decide +kernel
theorem dX0_ownHumidity_26 : decode cX0_ownHumidity 26 = .ok (.aload_n 0, 1) := by decide +kernel
theorem dX0_ownHumidity_27 : decode cX0_ownHumidity 27 = .ok (.getfield 22, 3) := by decide +kernel
theorem dX0_ownHumidity_30 : decode cX0_ownHumidity 30 = .ok (.if_icmp .gt 5, 3) := by decide +kernel
theorem dX0_ownHumidity_33 : decode cX0_ownHumidity 33 = .ok (.iload_n 3, 1) := by decide +kernel
theorem dX0_ownHumidity_34 : decode cX0_ownHumidity 34 = .ok (.istore_n 1, 1) := by decide +kernel
theorem dX0_ownHumidity_35 : decode cX0_ownHumidity 35 = .ok (.iload_n 2, 1) := by decide +kernel
theorem dX0_ownHumidity_36 : decode cX0_ownHumidity 36 = .ok (.iconst 2, 1) := by decide +kernel
theorem dX0_ownHumidity_37 : decode cX0_ownHumidity 37 = .ok (.idiv, 1) := by decide +kernel
theorem dX0_ownHumidity_38 : decode cX0_ownHumidity 38 = .ok (.istore_n 2, 1) := by decide +kernel
theorem dX0_ownHumidity_39 : decode cX0_ownHumidity 39 = .ok (.goto (-33), 3) := by decide +kernel
theorem dX0_ownHumidity_42 : decode cX0_ownHumidity 42 = .ok (.iload_n 1, 1) := by decide +kernel
theorem dX0_ownHumidity_43 : decode cX0_ownHumidity 43 = .ok (.ireturn, 1) := by decide +kernel
theorem dX1_init_0 : decode cX1_init 0 = .ok (.aload_n 0, 1) := by decide +kernel
theorem dX1_init_1 : decode cX1_init 1 = .ok (.invokespecial 3, 3) := by decide +kernel
theorem dX1_init_4 : decode cX1_init 4 = .ok (.aload_n 0, 1) := by decide +kernel
theorem dX1_init_5 : decode cX1_init 5 = .ok (.iconst 0, 1) := by decide +kernel
theorem dX1_init_6 : decode cX1_init 6 = .ok (.putfield 9, 3) := by decide +kernel
theorem dX1_init_9 : decode cX1_init 9 = .ok (.aload_n 0, 1) := by decide +kernel
theorem dX1_init_10 : decode cX1_init 10 = .ok (.iconst 0, 1) := by decide +kernel
theorem dX1_init_11 : decode cX1_init 11 = .ok (.putfield 15, 3) := by decide +kernel
theorem dX1_init_14 : decode cX1_init 14 = .ok (.aload_n 0, 1) := by decide +kernel
theorem dX1_init_15 : decode cX1_init 15 = .ok (.iconst 0, 1) := by decide +kernel
theorem dX1_init_16 : decode cX1_init 16 = .ok (.putfield 18, 3) := by decide +kernel
theorem dX1_init_19 : decode cX1_init 19 = .ok (.aload_n 0, 1) := by decide +kernel
theorem dX1_init_20 : decode cX1_init 20 = .ok (.bipush 6, 2) := by decide +kernel
theorem dX1_init_22 : decode cX1_init 22 = .ok (.newarray .int, 2) := by decide +kernel
theorem dX1_init_24 : decode cX1_init 24 = .ok (.putfield 21, 3) := by decide +kernel
theorem dX1_init_27 : decode cX1_init 27 = .ok (.aload_n 0, 1) := by decide +kernel
theorem dX1_init_28 : decode cX1_init 28 = .ok (.bipush 6, 2) := by decide +kernel
theorem dX1_init_30 : decode cX1_init 30 = .ok (.newarray .int, 2) := by decide +kernel
theorem dX1_init_32 : decode cX1_init 32 = .ok (.putfield 25, 3) := by decide +kernel
theorem dX1_init_35 : decode cX1_init 35 = .ok (.return_, 1) := by decide +kernel
theorem dX1_begin_0 : decode cX1_begin 0 = .ok (.aload_n 0, 1) := by decide +kernel
theorem dX1_begin_1 : decode cX1_begin 1 = .ok (.iload_n 1, 1) := by decide +kernel
theorem dX1_begin_2 : decode cX1_begin 2 = .ok (.putfield 9, 3) := by decide +kernel
theorem dX1_begin_5 : decode cX1_begin 5 = .ok (.aload_n 0, 1) := by decide +kernel
theorem dX1_begin_6 : decode cX1_begin 6 = .ok (.iload_n 2, 1) := by decide +kernel
theorem dX1_begin_7 : decode cX1_begin 7 = .ok (.putfield 15, 3) := by decide +kernel
theorem dX1_begin_10 : decode cX1_begin 10 = .ok (.aload_n 0, 1) := by decide +kernel
theorem dX1_begin_11 : decode cX1_begin 11 = .ok (.iconst 0, 1) := by decide +kernel
theorem dX1_begin_12 : decode cX1_begin 12 = .ok (.putfield 18, 3) := by decide +kernel
theorem dX1_begin_15 : decode cX1_begin 15 = .ok (.return_, 1) := by decide +kernel
theorem dX1_nextHumidity_0 : decode cX1_nextHumidity 0 = .ok (.aload_n 0, 1) := by decide +kernel
theorem dX1_nextHumidity_1 : decode cX1_nextHumidity 1 = .ok (.getfield 18, 3) := by decide +kernel
theorem dX1_nextHumidity_4 : decode cX1_nextHumidity 4 = .ok (.iconst 1, 1) := by decide +kernel
theorem dX1_nextHumidity_5 : decode cX1_nextHumidity 5 = .ok (.isub, 1) := by decide +kernel
theorem dX1_nextHumidity_6 : decode cX1_nextHumidity 6 = .ok (.istore_n 1, 1) := by decide +kernel
theorem dX1_nextHumidity_7 : decode cX1_nextHumidity 7 = .ok (.iload_n 1, 1) := by decide +kernel
theorem dX1_nextHumidity_8 : decode cX1_nextHumidity 8 = .ok (.ifCond .lt 9, 3) := by decide +kernel
theorem dX1_nextHumidity_11 : decode cX1_nextHumidity 11 = .ok (.iload_n 1, 1) := by decide +kernel
theorem dX1_nextHumidity_12 : decode cX1_nextHumidity 12 = .ok (.bipush 6, 2) := by decide +kernel
theorem dX1_nextHumidity_14 : decode cX1_nextHumidity 14 = .ok (.if_icmp .lt 7, 3) := by decide +kernel
theorem dX1_nextHumidity_17 : decode cX1_nextHumidity 17 = .ok (.iconst 0, 1) := by decide +kernel
theorem dX1_nextHumidity_18 : decode cX1_nextHumidity 18 = .ok (.goto 11, 3) := by decide +kernel
theorem dX1_nextHumidity_21 : decode cX1_nextHumidity 21 = .ok (.aload_n 0, 1) := by decide +kernel
theorem dX1_nextHumidity_22 : decode cX1_nextHumidity 22 = .ok (.getfield 21, 3) := by decide +kernel
theorem dX1_nextHumidity_25 : decode cX1_nextHumidity 25 = .ok (.iload_n 1, 1) := by decide +kernel
theorem dX1_nextHumidity_26 : decode cX1_nextHumidity 26 = .ok (.iaload, 1) := by decide +kernel
theorem dX1_nextHumidity_27 : decode cX1_nextHumidity 27 = .ok (.iconst 1, 1) := by decide +kernel
theorem dX1_nextHumidity_28 : decode cX1_nextHumidity 28 = .ok (.iadd, 1) := by decide +kernel
theorem dX1_nextHumidity_29 : decode cX1_nextHumidity 29 = .ok (.ireturn, 1) := by decide +kernel
theorem dX1_lastContent_0 : decode cX1_lastContent 0 = .ok (.aload_n 0, 1) := by decide +kernel
theorem dX1_lastContent_1 : decode cX1_lastContent 1 = .ok (.getfield 18, 3) := by decide +kernel
theorem dX1_lastContent_4 : decode cX1_lastContent 4 = .ok (.iconst 1, 1) := by decide +kernel
theorem dX1_lastContent_5 : decode cX1_lastContent 5 = .ok (.isub, 1) := by decide +kernel
theorem dX1_lastContent_6 : decode cX1_lastContent 6 = .ok (.istore_n 1, 1) := by decide +kernel
theorem dX1_lastContent_7 : decode cX1_lastContent 7 = .ok (.iload_n 1, 1) := by decide +kernel
theorem dX1_lastContent_8 : decode cX1_lastContent 8 = .ok (.ifCond .lt 9, 3) := by decide +kernel
theorem dX1_lastContent_11 : decode cX1_lastContent 11 = .ok (.iload_n 1, 1) := by decide +kernel
theorem dX1_lastContent_12 : decode cX1_lastContent 12 = .ok (.bipush 6, 2) := by decide +kernel
theorem dX1_lastContent_14 : decode cX1_lastContent 14 = .ok (.if_icmp .lt 7, 3) := by decide +kernel
theorem dX1_lastContent_17 : decode cX1_lastContent 17 = .ok (.iconst 0, 1) := by decide +kernel
theorem dX1_lastContent_18 : decode cX1_lastContent 18 = .ok (.goto 9, 3) := by decide +kernel
theorem dX1_lastContent_21 : decode cX1_lastContent 21 = .ok (.aload_n 0, 1) := by decide +kernel
theorem dX1_lastContent_22 : decode cX1_lastContent 22 = .ok (.getfield 25, 3) := by decide +kernel
theorem dX1_lastContent_25 : decode cX1_lastContent 25 = .ok (.iload_n 1, 1) := by decide +kernel
theorem dX1_lastContent_26 : decode cX1_lastContent 26 = .ok (.iaload, 1) := by decide +kernel
theorem dX1_lastContent_27 : decode cX1_lastContent 27 = .ok (.ireturn, 1) := by decide +kernel
theorem dX1_addPoint_0 : decode cX1_addPoint 0 = .ok (.aload_n 0, 1) := by decide +kernel
theorem dX1_addPoint_1 : decode cX1_addPoint 1 = .ok (.getfield 18, 3) := by decide +kernel
theorem dX1_addPoint_4 : decode cX1_addPoint 4 = .ok (.bipush 6, 2) := by decide +kernel
theorem dX1_addPoint_6 : decode cX1_addPoint 6 = .ok (.if_icmp .ge 33, 3) := by decide +kernel
theorem dX1_addPoint_9 : decode cX1_addPoint 9 = .ok (.aload_n 0, 1) := by decide +kernel
theorem dX1_addPoint_10 : decode cX1_addPoint 10 = .ok (.getfield 21, 3) := by decide +kernel
theorem dX1_addPoint_13 : decode cX1_addPoint 13 = .ok (.aload_n 0, 1) := by decide +kernel
theorem dX1_addPoint_14 : decode cX1_addPoint 14 = .ok (.getfield 18, 3) := by decide +kernel
theorem dX1_addPoint_17 : decode cX1_addPoint 17 = .ok (.iload_n 1, 1) := by decide +kernel
theorem dX1_addPoint_18 : decode cX1_addPoint 18 = .ok (.iastore, 1) := by decide +kernel
theorem dX1_addPoint_19 : decode cX1_addPoint 19 = .ok (.aload_n 0, 1) := by decide +kernel
theorem dX1_addPoint_20 : decode cX1_addPoint 20 = .ok (.getfield 25, 3) := by decide +kernel
theorem dX1_addPoint_23 : decode cX1_addPoint 23 = .ok (.aload_n 0, 1) := by decide +kernel
theorem dX1_addPoint_24 : decode cX1_addPoint 24 = .ok (.getfield 18, 3) := by decide +kernel
theorem dX1_addPoint_27 : decode cX1_addPoint 27 = .ok (.iload_n 2, 1) := by decide +kernel
theorem dX1_addPoint_28 : decode cX1_addPoint 28 = .ok (.iastore, 1) := by decide +kernel
theorem dX1_addPoint_29 : decode cX1_addPoint 29 = .ok (.aload_n 0, 1) := by decide +kernel
theorem dX1_addPoint_30 : decode cX1_addPoint 30 = .ok (.dup, 1) := by decide +kernel
theorem dX1_addPoint_31 : decode cX1_addPoint 31 = .ok (.getfield 18, 3) := by decide +kernel
theorem dX1_addPoint_34 : decode cX1_addPoint 34 = .ok (.iconst 1, 1) := by decide +kernel
theorem dX1_addPoint_35 : decode cX1_addPoint 35 = .ok (.iadd, 1) := by decide +kernel
theorem dX1_addPoint_36 : decode cX1_addPoint 36 = .ok (.putfield 18, 3) := by decide +kernel
theorem dX1_addPoint_39 : decode cX1_addPoint 39 = .ok (.return_, 1) := by decide +kernel
theorem dX1_contentAt_0 : decode cX1_contentAt 0 = .ok (.iload_n 1, 1) := by decide +kernel
theorem dX1_contentAt_1 : decode cX1_contentAt 1 = .ok (.aload_n 0, 1) := by decide +kernel
theorem dX1_contentAt_2 : decode cX1_contentAt 2 = .ok (.getfield 21, 3) := by decide +kernel
theorem dX1_contentAt_5 : decode cX1_contentAt 5 = .ok (.iconst 0, 1) := by decide +kernel
theorem dX1_contentAt_6 : decode cX1_contentAt 6 = .ok (.iaload, 1) := by decide +kernel
theorem dX1_contentAt_7 : decode cX1_contentAt 7 = .ok (.if_icmp .gt 10, 3) := by decide +kernel
theorem dX1_contentAt_10 : decode cX1_contentAt 10 = .ok (.aload_n 0, 1) := by decide +kernel
theorem dX1_contentAt_11 : decode cX1_contentAt 11 = .ok (.getfield 25, 3) := by decide +kernel
theorem dX1_contentAt_14 : decode cX1_contentAt 14 = .ok (.iconst 0, 1) := by decide +kernel
theorem dX1_contentAt_15 : decode cX1_contentAt 15 = .ok (.iaload, 1) := by decide +kernel
theorem dX1_contentAt_16 : decode cX1_contentAt 16 = .ok (.ireturn, 1) := by decide +kernel
theorem dX1_contentAt_17 : decode cX1_contentAt 17 = .ok (.iconst 1, 1) := by decide +kernel
theorem dX1_contentAt_18 : decode cX1_contentAt 18 = .ok (.istore_n 2, 1) := by decide +kernel
theorem dX1_contentAt_19 : decode cX1_contentAt 19 = .ok (.iload_n 2, 1) := by decide +kernel
theorem dX1_contentAt_20 : decode cX1_contentAt 20 = .ok (.aload_n 0, 1) := by decide +kernel
theorem dX1_contentAt_21 : decode cX1_contentAt 21 = .ok (.getfield 18, 3) := by decide +kernel
theorem dX1_contentAt_24 : decode cX1_contentAt 24 = .ok (.if_icmp .ge 62, 3) := by decide +kernel
theorem dX1_contentAt_27 : decode cX1_contentAt 27 = .ok (.iload_n 1, 1) := by decide +kernel
theorem dX1_contentAt_28 : decode cX1_contentAt 28 = .ok (.aload_n 0, 1) := by decide +kernel
theorem dX1_contentAt_29 : decode cX1_contentAt 29 = .ok (.getfield 21, 3) := by decide +kernel
theorem dX1_contentAt_32 : decode cX1_contentAt 32 = .ok (.iload_n 2, 1) := by decide +kernel
theorem dX1_contentAt_33 : decode cX1_contentAt 33 = .ok (.iaload, 1) := by decide +kernel
theorem dX1_contentAt_34 : decode cX1_contentAt 34 = .ok (.if_icmp .gt 46, 3) := by decide +kernel
theorem dX1_contentAt_37 : decode cX1_contentAt 37 = .ok (.aload_n 0, 1) := by decide +kernel
theorem dX1_contentAt_38 : decode cX1_contentAt 38 = .ok (.getfield 25, 3) := by decide +kernel
theorem dX1_contentAt_41 : decode cX1_contentAt 41 = .ok (.iload_n 2, 1) := by decide +kernel
theorem dX1_contentAt_42 : decode cX1_contentAt 42 = .ok (.iconst 1, 1) := by decide +kernel
theorem dX1_contentAt_43 : decode cX1_contentAt 43 = .ok (.isub, 1) := by decide +kernel
theorem dX1_contentAt_44 : decode cX1_contentAt 44 = .ok (.iaload, 1) := by decide +kernel
theorem dX1_contentAt_45 : decode cX1_contentAt 45 = .ok (.aload_n 0, 1) := by decide +kernel
theorem dX1_contentAt_46 : decode cX1_contentAt 46 = .ok (.getfield 25, 3) := by decide +kernel
theorem dX1_contentAt_49 : decode cX1_contentAt 49 = .ok (.iload_n 2, 1) := by decide +kernel
theorem dX1_contentAt_50 : decode cX1_contentAt 50 = .ok (.iaload, 1) := by decide +kernel
theorem dX1_contentAt_51 : decode cX1_contentAt 51 = .ok (.iload_n 1, 1) := by decide +kernel
theorem dX1_contentAt_52 : decode cX1_contentAt 52 = .ok (.aload_n 0, 1) := by decide +kernel
theorem dX1_contentAt_53 : decode cX1_contentAt 53 = .ok (.getfield 21, 3) := by decide +kernel
theorem dX1_contentAt_56 : decode cX1_contentAt 56 = .ok (.iload_n 2, 1) := by decide +kernel
theorem dX1_contentAt_57 : decode cX1_contentAt 57 = .ok (.iconst 1, 1) := by decide +kernel
theorem dX1_contentAt_58 : decode cX1_contentAt 58 = .ok (.isub, 1) := by decide +kernel
theorem dX1_contentAt_59 : decode cX1_contentAt 59 = .ok (.iaload, 1) := by decide +kernel
theorem dX1_contentAt_60 : decode cX1_contentAt 60 = .ok (.isub, 1) := by decide +kernel
theorem dX1_contentAt_61 : decode cX1_contentAt 61 = .ok (.aload_n 0, 1) := by decide +kernel
theorem dX1_contentAt_62 : decode cX1_contentAt 62 = .ok (.getfield 21, 3) := by decide +kernel
theorem dX1_contentAt_65 : decode cX1_contentAt 65 = .ok (.iload_n 2, 1) := by decide +kernel
theorem dX1_contentAt_66 : decode cX1_contentAt 66 = .ok (.iaload, 1) := by decide +kernel
theorem dX1_contentAt_67 : decode cX1_contentAt 67 = .ok (.aload_n 0, 1) := by decide +kernel
theorem dX1_contentAt_68 : decode cX1_contentAt 68 = .ok (.getfield 21, 3) := by decide +kernel
theorem dX1_contentAt_71 : decode cX1_contentAt 71 = .ok (.iload_n 2, 1) := by decide +kernel
theorem dX1_contentAt_72 : decode cX1_contentAt 72 = .ok (.iconst 1, 1) := by decide +kernel
theorem dX1_contentAt_73 : decode cX1_contentAt 73 = .ok (.isub, 1) := by decide +kernel
theorem dX1_contentAt_74 : decode cX1_contentAt 74 = .ok (.iaload, 1) := by decide +kernel
theorem dX1_contentAt_75 : decode cX1_contentAt 75 = .ok (.isub, 1) := by decide +kernel
theorem dX1_contentAt_76 : decode cX1_contentAt 76 = .ok (.invokestatic 28, 3) := by decide +kernel
theorem dX1_contentAt_79 : decode cX1_contentAt 79 = .ok (.ireturn, 1) := by decide +kernel
theorem dX1_contentAt_80 : decode cX1_contentAt 80 = .ok (.iinc 2 1, 3) := by decide +kernel
theorem dX1_contentAt_83 : decode cX1_contentAt 83 = .ok (.goto (-64), 3) := by decide +kernel
theorem dX1_contentAt_86 : decode cX1_contentAt 86 = .ok (.aload_n 0, 1) := by decide +kernel
theorem dX1_contentAt_87 : decode cX1_contentAt 87 = .ok (.invokevirtual 32, 3) := by decide +kernel
theorem dX1_contentAt_90 : decode cX1_contentAt 90 = .ok (.ireturn, 1) := by decide +kernel
theorem dX1_moistureAt_0 : decode cX1_moistureAt 0 = .ok (.aload_n 0, 1) := by decide +kernel
theorem dX1_moistureAt_1 : decode cX1_moistureAt 1 = .ok (.iload_n 1, 1) := by decide +kernel
theorem dX1_moistureAt_2 : decode cX1_moistureAt 2 = .ok (.invokevirtual 36, 3) := by decide +kernel
theorem dX1_moistureAt_5 : decode cX1_moistureAt 5 = .ok (.iload_n 2, 1) := by decide +kernel
theorem dX1_moistureAt_6 : decode cX1_moistureAt 6 = .ok (.imul, 1) := by decide +kernel
theorem dX1_moistureAt_7 : decode cX1_moistureAt 7 = .ok (.sipush 1000, 3) := by decide +kernel
theorem dX1_moistureAt_10 : decode cX1_moistureAt 10 = .ok (.idiv, 1) := by decide +kernel
theorem dX1_moistureAt_11 : decode cX1_moistureAt 11 = .ok (.ireturn, 1) := by decide +kernel
theorem dX2_init_0 : decode cX2_init 0 = .ok (.aload_n 0, 1) := by decide +kernel
theorem dX2_init_1 : decode cX2_init 1 = .ok (.invokespecial 3, 3) := by decide +kernel
theorem dX2_init_4 : decode cX2_init 4 = .ok (.aload_n 0, 1) := by decide +kernel
theorem dX2_init_5 : decode cX2_init 5 = .ok (.lconst 0, 1) := by decide +kernel
theorem dX2_init_6 : decode cX2_init 6 = .ok (.putfield 9, 3) := by decide +kernel
theorem dX2_init_9 : decode cX2_init 9 = .ok (.aload_n 0, 1) := by decide +kernel
theorem dX2_init_10 : decode cX2_init 10 = .ok (.lconst 0, 1) := by decide +kernel
theorem dX2_init_11 : decode cX2_init 11 = .ok (.putfield 15, 3) := by decide +kernel
theorem dX2_init_14 : decode cX2_init 14 = .ok (.aload_n 0, 1) := by decide +kernel
theorem dX2_init_15 : decode cX2_init 15 = .ok (.lconst 0, 1) := by decide +kernel
theorem dX2_init_16 : decode cX2_init 16 = .ok (.putfield 18, 3) := by decide +kernel
theorem dX2_init_19 : decode cX2_init 19 = .ok (.aload_n 0, 1) := by decide +kernel
theorem dX2_init_20 : decode cX2_init 20 = .ok (.lconst 0, 1) := by decide +kernel
theorem dX2_init_21 : decode cX2_init 21 = .ok (.putfield 21, 3) := by decide +kernel
theorem dX2_init_24 : decode cX2_init 24 = .ok (.aload_n 0, 1) := by decide +kernel
theorem dX2_init_25 : decode cX2_init 25 = .ok (.iconst 0, 1) := by decide +kernel
theorem dX2_init_26 : decode cX2_init 26 = .ok (.putfield 24, 3) := by decide +kernel
theorem dX2_init_29 : decode cX2_init 29 = .ok (.aload_n 0, 1) := by decide +kernel
theorem dX2_init_30 : decode cX2_init 30 = .ok (.iconst (-1), 1) := by decide +kernel
theorem dX2_init_31 : decode cX2_init 31 = .ok (.putfield 28, 3) := by decide +kernel
theorem dX2_init_34 : decode cX2_init 34 = .ok (.aload_n 0, 1) := by decide +kernel
theorem dX2_init_35 : decode cX2_init 35 = .ok (.iconst (-1), 1) := by decide +kernel
theorem dX2_init_36 : decode cX2_init 36 = .ok (.putfield 31, 3) := by decide +kernel
theorem dX2_init_39 : decode cX2_init 39 = .ok (.aload_n 0, 1) := by decide +kernel
theorem dX2_init_40 : decode cX2_init 40 = .ok (.lconst 0, 1) := by decide +kernel
theorem dX2_init_41 : decode cX2_init 41 = .ok (.putfield 34, 3) := by decide +kernel
theorem dX2_init_44 : decode cX2_init 44 = .ok (.aload_n 0, 1) := by decide +kernel
theorem dX2_init_45 : decode cX2_init 45 = .ok (.bipush 24, 2) := by decide +kernel
theorem dX2_init_47 : decode cX2_init 47 = .ok (.newarray .int, 2) := by decide +kernel
theorem dX2_init_49 : decode cX2_init 49 = .ok (.putfield 37, 3) := by decide +kernel
theorem dX2_init_52 : decode cX2_init 52 = .ok (.return_, 1) := by decide +kernel
theorem dX2_begin_0 : decode cX2_begin 0 = .ok (.aload_n 0, 1) := by decide +kernel
theorem dX2_begin_1 : decode cX2_begin 1 = .ok (.iload_n 1, 1) := by decide +kernel
theorem dX2_begin_2 : decode cX2_begin 2 = .ok (.i2l, 1) := by decide +kernel
theorem dX2_begin_3 : decode cX2_begin 3 = .ok (.putfield 9, 3) := by decide +kernel
theorem dX2_begin_6 : decode cX2_begin 6 = .ok (.aload_n 0, 1) := by decide +kernel
theorem dX2_begin_7 : decode cX2_begin 7 = .ok (.lconst 0, 1) := by decide +kernel
theorem dX2_begin_8 : decode cX2_begin 8 = .ok (.putfield 15, 3) := by decide +kernel
theorem dX2_begin_11 : decode cX2_begin 11 = .ok (.aload_n 0, 1) := by decide +kernel
theorem dX2_begin_12 : decode cX2_begin 12 = .ok (.lconst 0, 1) := by decide +kernel
theorem dX2_begin_13 : decode cX2_begin 13 = .ok (.putfield 18, 3) := by decide +kernel
theorem dX2_begin_16 : decode cX2_begin 16 = .ok (.aload_n 0, 1) := by decide +kernel
theorem dX2_begin_17 : decode cX2_begin 17 = .ok (.lconst 0, 1) := by decide +kernel
theorem dX2_begin_18 : decode cX2_begin 18 = .ok (.putfield 21, 3) := by decide +kernel
theorem dX2_begin_21 : decode cX2_begin 21 = .ok (.aload_n 0, 1) := by decide +kernel
theorem dX2_begin_22 : decode cX2_begin 22 = .ok (.iconst 0, 1) := by decide +kernel
theorem dX2_begin_23 : decode cX2_begin 23 = .ok (.putfield 24, 3) := by decide +kernel
theorem dX2_begin_26 : decode cX2_begin 26 = .ok (.aload_n 0, 1) := by decide +kernel
theorem dX2_begin_27 : decode cX2_begin 27 = .ok (.iconst (-1), 1) := by decide +kernel
theorem dX2_begin_28 : decode cX2_begin 28 = .ok (.putfield 28, 3) := by decide +kernel
theorem dX2_begin_31 : decode cX2_begin 31 = .ok (.aload_n 0, 1) := by decide +kernel
theorem dX2_begin_32 : decode cX2_begin 32 = .ok (.iconst (-1), 1) := by decide +kernel
theorem dX2_begin_33 : decode cX2_begin 33 = .ok (.putfield 31, 3) := by decide +kernel
theorem dX2_begin_36 : decode cX2_begin 36 = .ok (.aload_n 0, 1) := by decide +kernel
theorem dX2_begin_37 : decode cX2_begin 37 = .ok (.lconst 0, 1) := by decide +kernel
theorem dX2_begin_38 : decode cX2_begin 38 = .ok (.putfield 34, 3) := by decide +kernel
theorem dX2_begin_41 : decode cX2_begin 41 = .ok (.return_, 1) := by decide +kernel
theorem dX2_copyFrom_0 : decode cX2_copyFrom 0 = .ok (.aload_n 0, 1) := by decide +kernel
theorem dX2_copyFrom_1 : decode cX2_copyFrom 1 = .ok (.aload_n 1, 1) := by decide +kernel
theorem dX2_copyFrom_2 : decode cX2_copyFrom 2 = .ok (.getfield 9, 3) := by decide +kernel
theorem dX2_copyFrom_5 : decode cX2_copyFrom 5 = .ok (.putfield 9, 3) := by decide +kernel
theorem dX2_copyFrom_8 : decode cX2_copyFrom 8 = .ok (.aload_n 0, 1) := by decide +kernel
theorem dX2_copyFrom_9 : decode cX2_copyFrom 9 = .ok (.aload_n 1, 1) := by decide +kernel
theorem dX2_copyFrom_10 : decode cX2_copyFrom 10 = .ok (.getfield 15, 3) := by decide +kernel
theorem dX2_copyFrom_13 : decode cX2_copyFrom 13 = .ok (.putfield 15, 3) := by decide +kernel
theorem dX2_copyFrom_16 : decode cX2_copyFrom 16 = .ok (.aload_n 0, 1) := by decide +kernel
theorem dX2_copyFrom_17 : decode cX2_copyFrom 17 = .ok (.aload_n 1, 1) := by decide +kernel
theorem dX2_copyFrom_18 : decode cX2_copyFrom 18 = .ok (.getfield 18, 3) := by decide +kernel
theorem dX2_copyFrom_21 : decode cX2_copyFrom 21 = .ok (.putfield 18, 3) := by decide +kernel
theorem dX2_copyFrom_24 : decode cX2_copyFrom 24 = .ok (.aload_n 0, 1) := by decide +kernel
theorem dX2_copyFrom_25 : decode cX2_copyFrom 25 = .ok (.aload_n 1, 1) := by decide +kernel
theorem dX2_copyFrom_26 : decode cX2_copyFrom 26 = .ok (.getfield 21, 3) := by decide +kernel
theorem dX2_copyFrom_29 : decode cX2_copyFrom 29 = .ok (.putfield 21, 3) := by decide +kernel
theorem dX2_copyFrom_32 : decode cX2_copyFrom 32 = .ok (.aload_n 0, 1) := by decide +kernel
theorem dX2_copyFrom_33 : decode cX2_copyFrom 33 = .ok (.aload_n 1, 1) := by decide +kernel
theorem dX2_copyFrom_34 : decode cX2_copyFrom 34 = .ok (.getfield 24, 3) := by decide +kernel
theorem dX2_copyFrom_37 : decode cX2_copyFrom 37 = .ok (.putfield 24, 3) := by decide +kernel
theorem dX2_copyFrom_40 : decode cX2_copyFrom 40 = .ok (.aload_n 0, 1) := by decide +kernel
theorem dX2_copyFrom_41 : decode cX2_copyFrom 41 = .ok (.aload_n 1, 1) := by decide +kernel
theorem dX2_copyFrom_42 : decode cX2_copyFrom 42 = .ok (.getfield 28, 3) := by decide +kernel
theorem dX2_copyFrom_45 : decode cX2_copyFrom 45 = .ok (.putfield 28, 3) := by decide +kernel
theorem dX2_copyFrom_48 : decode cX2_copyFrom 48 = .ok (.aload_n 0, 1) := by decide +kernel
theorem dX2_copyFrom_49 : decode cX2_copyFrom 49 = .ok (.aload_n 1, 1) := by decide +kernel
theorem dX2_copyFrom_50 : decode cX2_copyFrom 50 = .ok (.getfield 31, 3) := by decide +kernel
theorem dX2_copyFrom_53 : decode cX2_copyFrom 53 = .ok (.putfield 31, 3) := by decide +kernel
theorem dX2_copyFrom_56 : decode cX2_copyFrom 56 = .ok (.aload_n 0, 1) := by decide +kernel
theorem dX2_copyFrom_57 : decode cX2_copyFrom 57 = .ok (.aload_n 1, 1) := by decide +kernel
theorem dX2_copyFrom_58 : decode cX2_copyFrom 58 = .ok (.getfield 34, 3) := by decide +kernel
theorem dX2_copyFrom_61 : decode cX2_copyFrom 61 = .ok (.putfield 34, 3) := by decide +kernel
theorem dX2_copyFrom_64 : decode cX2_copyFrom 64 = .ok (.aload_n 1, 1) := by decide +kernel
theorem dX2_copyFrom_65 : decode cX2_copyFrom 65 = .ok (.getfield 37, 3) := by decide +kernel
theorem dX2_copyFrom_68 : decode cX2_copyFrom 68 = .ok (.iconst 0, 1) := by decide +kernel
theorem dX2_copyFrom_69 : decode cX2_copyFrom 69 = .ok (.aload_n 0, 1) := by decide +kernel
theorem dX2_copyFrom_70 : decode cX2_copyFrom 70 = .ok (.getfield 37, 3) := by decide +kernel
theorem dX2_copyFrom_73 : decode cX2_copyFrom 73 = .ok (.iconst 0, 1) := by decide +kernel
theorem dX2_copyFrom_74 : decode cX2_copyFrom 74 = .ok (.bipush 24, 2) := by decide +kernel
theorem dX2_copyFrom_76 : decode cX2_copyFrom 76 = .ok (.invokestatic 41, 3) := by decide +kernel
theorem dX2_copyFrom_79 : decode cX2_copyFrom 79 = .ok (.return_, 1) := by decide +kernel
theorem dX2_note_0 : decode cX2_note 0 = .ok (.iload_n 1, 1) := by decide +kernel
theorem dX2_note_1 : decode cX2_note 1 = .ok (.ifCond .lt 13, 3) := by decide +kernel
theorem dX2_note_4 : decode cX2_note 4 = .ok (.aload_n 0, 1) := by decide +kernel
theorem dX2_note_5 : decode cX2_note 5 = .ok (.getfield 37, 3) := by decide +kernel
theorem dX2_note_8 : decode cX2_note 8 = .ok (.iload_n 1, 1) := by decide +kernel
theorem dX2_note_9 : decode cX2_note 9 = .ok (.bipush 24, 2) := by decide +kernel
theorem dX2_note_11 : decode cX2_note 11 = .ok (.irem, 1) := by decide +kernel
theorem dX2_note_12 : decode cX2_note 12 = .ok (.iload_n 2, 1) := by decide +kernel
theorem dX2_note_13 : decode cX2_note 13 = .ok (.iastore, 1) := by decide +kernel
theorem dX2_note_14 : decode cX2_note 14 = .ok (.aload_n 0, 1) := by decide +kernel
theorem dX2_note_15 : decode cX2_note 15 = .ok (.dup, 1) := by decide +kernel
theorem dX2_note_16 : decode cX2_note 16 = .ok (.getfield 34, 3) := by decide +kernel
theorem dX2_note_19 : decode cX2_note 19 = .ok (.iload_n 2, 1) := by decide +kernel
theorem dX2_note_20 : decode cX2_note 20 = .ok (.i2l, 1) := by decide +kernel
theorem dX2_note_21 : decode cX2_note 21 = .ok (.ladd, 1) := by decide +kernel
theorem dX2_note_22 : decode cX2_note 22 = .ok (.putfield 34, 3) := by decide +kernel
theorem dX2_note_25 : decode cX2_note 25 = .ok (.aload_n 0, 1) := by decide +kernel
theorem dX2_note_26 : decode cX2_note 26 = .ok (.aload_n 0, 1) := by decide +kernel
theorem dX2_note_27 : decode cX2_note 27 = .ok (.getfield 28, 3) := by decide +kernel
theorem dX2_note_30 : decode cX2_note 30 = .ok (.iconst (-1), 1) := by decide +kernel
theorem dX2_note_31 : decode cX2_note 31 = .ok (.if_icmp .eq 11, 3) := by decide +kernel
theorem dX2_note_34 : decode cX2_note 34 = .ok (.iload_n 2, 1) := by decide +kernel
theorem dX2_note_35 : decode cX2_note 35 = .ok (.aload_n 0, 1) := by decide +kernel
theorem dX2_note_36 : decode cX2_note 36 = .ok (.getfield 28, 3) := by decide +kernel
theorem dX2_note_39 : decode cX2_note 39 = .ok (.if_icmp .ge 7, 3) := by decide +kernel
theorem dX2_note_42 : decode cX2_note 42 = .ok (.iload_n 2, 1) := by decide +kernel
theorem dX2_note_43 : decode cX2_note 43 = .ok (.goto 7, 3) := by decide +kernel
theorem dX2_note_46 : decode cX2_note 46 = .ok (.aload_n 0, 1) := by decide +kernel
theorem dX2_note_47 : decode cX2_note 47 = .ok (.getfield 28, 3) := by decide +kernel
theorem dX2_note_50 : decode cX2_note 50 = .ok (.putfield 28, 3) := by decide +kernel
theorem dX2_note_53 : decode cX2_note 53 = .ok (.aload_n 0, 1) := by decide +kernel
theorem dX2_note_54 : decode cX2_note 54 = .ok (.iload_n 2, 1) := by decide +kernel
theorem dX2_note_55 : decode cX2_note 55 = .ok (.aload_n 0, 1) := by decide +kernel
theorem dX2_note_56 : decode cX2_note 56 = .ok (.getfield 31, 3) := by decide +kernel
theorem dX2_note_59 : decode cX2_note 59 = .ok (.if_icmp .le 7, 3) := by decide +kernel
theorem dX2_note_62 : decode cX2_note 62 = .ok (.iload_n 2, 1) := by decide +kernel
theorem dX2_note_63 : decode cX2_note 63 = .ok (.goto 7, 3) := by decide +kernel
theorem dX2_note_66 : decode cX2_note 66 = .ok (.aload_n 0, 1) := by decide +kernel
theorem dX2_note_67 : decode cX2_note 67 = .ok (.getfield 31, 3) := by decide +kernel
theorem dX2_note_70 : decode cX2_note 70 = .ok (.putfield 31, 3) := by decide +kernel
theorem dX2_note_73 : decode cX2_note 73 = .ok (.aload_n 0, 1) := by decide +kernel
theorem dX2_note_74 : decode cX2_note 74 = .ok (.dup, 1) := by decide +kernel
theorem dX2_note_75 : decode cX2_note 75 = .ok (.getfield 24, 3) := by decide +kernel
theorem dX2_note_78 : decode cX2_note 78 = .ok (.iload_n 3, 1) := by decide +kernel
theorem dX2_note_79 : decode cX2_note 79 = .ok (.ifCond .eq 7, 3) := by decide +kernel
theorem dX2_note_82 : decode cX2_note 82 = .ok (.iconst 1, 1) := by decide +kernel
theorem dX2_note_83 : decode cX2_note 83 = .ok (.goto 4, 3) := by decide +kernel
theorem dX2_note_86 : decode cX2_note 86 = .ok (.iconst 0, 1) := by decide +kernel
theorem dX2_note_87 : decode cX2_note 87 = .ok (.iadd, 1) := by decide +kernel
theorem dX2_note_88 : decode cX2_note 88 = .ok (.putfield 24, 3) := by decide +kernel
theorem dX2_note_91 : decode cX2_note 91 = .ok (.return_, 1) := by decide +kernel
theorem dX2_recordOf_0 : decode cX2_recordOf 0 = .ok (.iload_n 1, 1) := by decide +kernel
theorem dX2_recordOf_1 : decode cX2_recordOf 1 = .ok (.ifCond .ge 7, 3) := by decide +kernel
theorem dX2_recordOf_4 : decode cX2_recordOf 4 = .ok (.iconst (-1), 1) := by decide +kernel
theorem dX2_recordOf_5 : decode cX2_recordOf 5 = .ok (.goto 12, 3) := by decide +kernel
theorem dX2_recordOf_8 : decode cX2_recordOf 8 = .ok (.aload_n 0, 1) := by decide +kernel
theorem dX2_recordOf_9 : decode cX2_recordOf 9 = .ok (.getfield 37, 3) := by decide +kernel
theorem dX2_recordOf_12 : decode cX2_recordOf 12 = .ok (.iload_n 1, 1) := by decide +kernel
theorem dX2_recordOf_13 : decode cX2_recordOf 13 = .ok (.bipush 24, 2) := by decide +kernel
theorem dX2_recordOf_15 : decode cX2_recordOf 15 = .ok (.irem, 1) := by decide +kernel
theorem dX2_recordOf_16 : decode cX2_recordOf 16 = .ok (.iaload, 1) := by decide +kernel
theorem dX2_recordOf_17 : decode cX2_recordOf 17 = .ok (.ireturn, 1) := by decide +kernel
theorem dX2_swingAt_0 : decode cX2_swingAt 0 = .ok (.aload_n 0, 1) := by decide +kernel
theorem dX2_swingAt_1 : decode cX2_swingAt 1 = .ok (.getfield 37, 3) := by decide +kernel
theorem dX2_swingAt_4 : decode cX2_swingAt 4 = .ok (.iconst 0, 1) := by decide +kernel
theorem dX2_swingAt_5 : decode cX2_swingAt 5 = .ok (.iaload, 1) := by decide +kernel
theorem dX2_swingAt_6 : decode cX2_swingAt 6 = .ok (.istore_n 2, 1) := by decide +kernel
theorem dX2_swingAt_7 : decode cX2_swingAt 7 = .ok (.aload_n 0, 1) := by decide +kernel
theorem dX2_swingAt_8 : decode cX2_swingAt 8 = .ok (.getfield 37, 3) := by decide +kernel
theorem dX2_swingAt_11 : decode cX2_swingAt 11 = .ok (.iconst 0, 1) := by decide +kernel
theorem dX2_swingAt_12 : decode cX2_swingAt 12 = .ok (.iaload, 1) := by decide +kernel
theorem dX2_swingAt_13 : decode cX2_swingAt 13 = .ok (.istore_n 3, 1) := by decide +kernel
theorem dX2_swingAt_14 : decode cX2_swingAt 14 = .ok (.iconst 1, 1) := by decide +kernel
theorem dX2_swingAt_15 : decode cX2_swingAt 15 = .ok (.istore 4, 2) := by decide +kernel
theorem dX2_swingAt_17 : decode cX2_swingAt 17 = .ok (.iload 4, 2) := by decide +kernel
theorem dX2_swingAt_19 : decode cX2_swingAt 19 = .ok (.iload_n 1, 1) := by decide +kernel
theorem dX2_swingAt_20 : decode cX2_swingAt 20 = .ok (.if_icmp .ge 65, 3) := by decide +kernel
theorem dX2_swingAt_23 : decode cX2_swingAt 23 = .ok (.iload 4, 2) := by decide +kernel
theorem dX2_swingAt_25 : decode cX2_swingAt 25 = .ok (.aload_n 0, 1) := by decide +kernel
theorem dX2_swingAt_26 : decode cX2_swingAt 26 = .ok (.getfield 37, 3) := by decide +kernel
theorem dX2_swingAt_29 : decode cX2_swingAt 29 = .ok (.arraylength, 1) := by decide +kernel
theorem dX2_swingAt_30 : decode cX2_swingAt 30 = .ok (.if_icmp .ge 55, 3) := by decide +kernel
theorem dX2_swingAt_33 : decode cX2_swingAt 33 = .ok (.aload_n 0, 1) := by decide +kernel
theorem dX2_swingAt_34 : decode cX2_swingAt 34 = .ok (.getfield 37, 3) := by decide +kernel
theorem dX2_swingAt_37 : decode cX2_swingAt 37 = .ok (.iload 4, 2) := by decide +kernel
theorem dX2_swingAt_39 : decode cX2_swingAt 39 = .ok (.iaload, 1) := by decide +kernel
theorem dX2_swingAt_40 : decode cX2_swingAt 40 = .ok (.iload_n 2, 1) := by decide +kernel
theorem dX2_swingAt_41 : decode cX2_swingAt 41 = .ok (.if_icmp .ge 13, 3) := by decide +kernel
theorem dX2_swingAt_44 : decode cX2_swingAt 44 = .ok (.aload_n 0, 1) := by decide +kernel
theorem dX2_swingAt_45 : decode cX2_swingAt 45 = .ok (.getfield 37, 3) := by decide +kernel
theorem dX2_swingAt_48 : decode cX2_swingAt 48 = .ok (.iload 4, 2) := by decide +kernel
theorem dX2_swingAt_50 : decode cX2_swingAt 50 = .ok (.iaload, 1) := by decide +kernel
theorem dX2_swingAt_51 : decode cX2_swingAt 51 = .ok (.goto 4, 3) := by decide +kernel
theorem dX2_swingAt_54 : decode cX2_swingAt 54 = .ok (.iload_n 2, 1) := by decide +kernel
theorem dX2_swingAt_55 : decode cX2_swingAt 55 = .ok (.istore_n 2, 1) := by decide +kernel
theorem dX2_swingAt_56 : decode cX2_swingAt 56 = .ok (.aload_n 0, 1) := by decide +kernel
theorem dX2_swingAt_57 : decode cX2_swingAt 57 = .ok (.getfield 37, 3) := by decide +kernel
theorem dX2_swingAt_60 : decode cX2_swingAt 60 = .ok (.iload 4, 2) := by decide +kernel
theorem dX2_swingAt_62 : decode cX2_swingAt 62 = .ok (.iaload, 1) := by decide +kernel
theorem dX2_swingAt_63 : decode cX2_swingAt 63 = .ok (.iload_n 3, 1) := by decide +kernel
theorem dX2_swingAt_64 : decode cX2_swingAt 64 = .ok (.if_icmp .le 13, 3) := by decide +kernel
theorem dX2_swingAt_67 : decode cX2_swingAt 67 = .ok (.aload_n 0, 1) := by decide +kernel
theorem dX2_swingAt_68 : decode cX2_swingAt 68 = .ok (.getfield 37, 3) := by decide +kernel
theorem dX2_swingAt_71 : decode cX2_swingAt 71 = .ok (.iload 4, 2) := by decide +kernel
theorem dX2_swingAt_73 : decode cX2_swingAt 73 = .ok (.iaload, 1) := by decide +kernel
theorem dX2_swingAt_74 : decode cX2_swingAt 74 = .ok (.goto 4, 3) := by decide +kernel
theorem dX2_swingAt_77 : decode cX2_swingAt 77 = .ok (.iload_n 3, 1) := by decide +kernel
theorem dX2_swingAt_78 : decode cX2_swingAt 78 = .ok (.istore_n 3, 1) := by decide +kernel
theorem dX2_swingAt_79 : decode cX2_swingAt 79 = .ok (.iinc 4 1, 3) := by decide +kernel
theorem dX2_swingAt_82 : decode cX2_swingAt 82 = .ok (.goto (-65), 3) := by decide +kernel
theorem dX2_swingAt_85 : decode cX2_swingAt 85 = .ok (.iload_n 3, 1) := by decide +kernel
theorem dX2_swingAt_86 : decode cX2_swingAt 86 = .ok (.iload_n 2, 1) := by decide +kernel
theorem dX2_swingAt_87 : decode cX2_swingAt 87 = .ok (.isub, 1) := by decide +kernel
theorem dX2_swingAt_88 : decode cX2_swingAt 88 = .ok (.ireturn, 1) := by decide +kernel
theorem dX3_init_0 : decode cX3_init 0 = .ok (.aload_n 0, 1) := by decide +kernel
theorem dX3_init_1 : decode cX3_init 1 = .ok (.invokespecial 3, 3) := by decide +kernel
theorem dX3_init_4 : decode cX3_init 4 = .ok (.aload_n 0, 1) := by decide +kernel
theorem dX3_init_5 : decode cX3_init 5 = .ok (.sipush 900, 3) := by decide +kernel
theorem dX3_init_8 : decode cX3_init 8 = .ok (.newarray .byte, 2) := by decide +kernel
theorem dX3_init_10 : decode cX3_init 10 = .ok (.putfield 9, 3) := by decide +kernel
theorem dX3_init_13 : decode cX3_init 13 = .ok (.aload_n 0, 1) := by decide +kernel
theorem dX3_init_14 : decode cX3_init 14 = .ok (.iconst 0, 1) := by decide +kernel
theorem dX3_init_15 : decode cX3_init 15 = .ok (.putfield 15, 3) := by decide +kernel
theorem dX3_init_18 : decode cX3_init 18 = .ok (.aload_n 0, 1) := by decide +kernel
theorem dX3_init_19 : decode cX3_init 19 = .ok (.iconst 0, 1) := by decide +kernel
theorem dX3_init_20 : decode cX3_init 20 = .ok (.putfield 19, 3) := by decide +kernel
theorem dX3_init_23 : decode cX3_init 23 = .ok (.aload_n 0, 1) := by decide +kernel
theorem dX3_init_24 : decode cX3_init 24 = .ok (.iconst (-1), 1) := by decide +kernel
theorem dX3_init_25 : decode cX3_init 25 = .ok (.putfield 22, 3) := by decide +kernel
theorem dX3_init_28 : decode cX3_init 28 = .ok (.aload_n 0, 1) := by decide +kernel
theorem dX3_init_29 : decode cX3_init 29 = .ok (.iconst 0, 1) := by decide +kernel
theorem dX3_init_30 : decode cX3_init 30 = .ok (.putfield 25, 3) := by decide +kernel
theorem dX3_init_33 : decode cX3_init 33 = .ok (.aload_n 0, 1) := by decide +kernel
theorem dX3_init_34 : decode cX3_init 34 = .ok (.iconst 0, 1) := by decide +kernel
theorem dX3_init_35 : decode cX3_init 35 = .ok (.putfield 28, 3) := by decide +kernel
theorem dX3_init_38 : decode cX3_init 38 = .ok (.aload_n 0, 1) := by decide +kernel
theorem dX3_init_39 : decode cX3_init 39 = .ok (.iconst 0, 1) := by decide +kernel
theorem dX3_init_40 : decode cX3_init 40 = .ok (.putfield 31, 3) := by decide +kernel
theorem dX3_init_43 : decode cX3_init 43 = .ok (.aload_n 0, 1) := by decide +kernel
theorem dX3_init_44 : decode cX3_init 44 = .ok (.iconst 0, 1) := by decide +kernel
theorem dX3_init_45 : decode cX3_init 45 = .ok (.putfield 34, 3) := by decide +kernel
theorem dX3_init_48 : decode cX3_init 48 = .ok (.aload_n 0, 1) := by decide +kernel
theorem dX3_init_49 : decode cX3_init 49 = .ok (.iconst 4, 1) := by decide +kernel
theorem dX3_init_50 : decode cX3_init 50 = .ok (.newarray .long, 2) := by decide +kernel
theorem dX3_init_52 : decode cX3_init 52 = .ok (.putfield 37, 3) := by decide +kernel
theorem dX3_init_55 : decode cX3_init 55 = .ok (.aload_n 0, 1) := by decide +kernel
theorem dX3_init_56 : decode cX3_init 56 = .ok (.bipush 6, 2) := by decide +kernel
theorem dX3_init_58 : decode cX3_init 58 = .ok (.newarray .long, 2) := by decide +kernel
theorem dX3_init_60 : decode cX3_init 60 = .ok (.putfield 41, 3) := by decide +kernel
theorem dX3_init_63 : decode cX3_init 63 = .ok (.return_, 1) := by decide +kernel
theorem dX3_appendBytes_0 : decode cX3_appendBytes 0 = .ok (.bipush 24, 2) := by decide +kernel
theorem dX3_appendBytes_2 : decode cX3_appendBytes 2 = .ok (.istore_n 2, 1) := by decide +kernel
theorem dX3_appendBytes_3 : decode cX3_appendBytes 3 = .ok (.iload_n 2, 1) := by decide +kernel
theorem dX3_appendBytes_4 : decode cX3_appendBytes 4 = .ok (.ifCond .lt 44, 3) := by decide +kernel
theorem dX3_appendBytes_7 : decode cX3_appendBytes 7 = .ok (.aload_n 0, 1) := by decide +kernel
theorem dX3_appendBytes_8 : decode cX3_appendBytes 8 = .ok (.getfield 15, 3) := by decide +kernel
theorem dX3_appendBytes_11 : decode cX3_appendBytes 11 = .ok (.aload_n 0, 1) := by decide +kernel
theorem dX3_appendBytes_12 : decode cX3_appendBytes 12 = .ok (.getfield 9, 3) := by decide +kernel
theorem dX3_appendBytes_15 : decode cX3_appendBytes 15 = .ok (.arraylength, 1) := by decide +kernel
theorem dX3_appendBytes_16 : decode cX3_appendBytes 16 = .ok (.if_icmp .ge 32, 3) := by decide +kernel
theorem dX3_appendBytes_19 : decode cX3_appendBytes 19 = .ok (.aload_n 0, 1) := by decide +kernel
theorem dX3_appendBytes_20 : decode cX3_appendBytes 20 = .ok (.getfield 9, 3) := by decide +kernel
theorem dX3_appendBytes_23 : decode cX3_appendBytes 23 = .ok (.aload_n 0, 1) := by decide +kernel
theorem dX3_appendBytes_24 : decode cX3_appendBytes 24 = .ok (.getfield 15, 3) := by decide +kernel
theorem dX3_appendBytes_27 : decode cX3_appendBytes 27 = .ok (.iload_n 1, 1) := by decide +kernel
theorem dX3_appendBytes_28 : decode cX3_appendBytes 28 = .ok (.iload_n 2, 1) := by decide +kernel
theorem dX3_appendBytes_29 : decode cX3_appendBytes 29 = .ok (.iushr, 1) := by decide +kernel
theorem dX3_appendBytes_30 : decode cX3_appendBytes 30 = .ok (.i2b, 1) := by decide +kernel
theorem dX3_appendBytes_31 : decode cX3_appendBytes 31 = .ok (.bastore, 1) := by decide +kernel
theorem dX3_appendBytes_32 : decode cX3_appendBytes 32 = .ok (.aload_n 0, 1) := by decide +kernel
theorem dX3_appendBytes_33 : decode cX3_appendBytes 33 = .ok (.dup, 1) := by decide +kernel
theorem dX3_appendBytes_34 : decode cX3_appendBytes 34 = .ok (.getfield 15, 3) := by decide +kernel
theorem dX3_appendBytes_37 : decode cX3_appendBytes 37 = .ok (.iconst 1, 1) := by decide +kernel
theorem dX3_appendBytes_38 : decode cX3_appendBytes 38 = .ok (.iadd, 1) := by decide +kernel
theorem dX3_appendBytes_39 : decode cX3_appendBytes 39 = .ok (.putfield 15, 3) := by decide +kernel
theorem dX3_appendBytes_42 : decode cX3_appendBytes 42 = .ok (.iinc 2 (-8), 3) := by decide +kernel
theorem dX3_appendBytes_45 : decode cX3_appendBytes 45 = .ok (.goto (-42), 3) := by decide +kernel
theorem dX3_appendBytes_48 : decode cX3_appendBytes 48 = .ok (.return_, 1) := by decide +kernel
theorem dX3_readInto_0 : decode cX3_readInto 0 = .ok (.aload_n 0, 1) := by decide +kernel
theorem dX3_readInto_1 : decode cX3_readInto 1 = .ok (.iconst 0, 1) := by decide +kernel
theorem dX3_readInto_2 : decode cX3_readInto 2 = .ok (.putfield 19, 3) := by decide +kernel
theorem dX3_readInto_5 : decode cX3_readInto 5 = .ok (.aload_n 0, 1) := by decide +kernel
theorem dX3_readInto_6 : decode cX3_readInto 6 = .ok (.iconst (-1), 1) := by decide +kernel
theorem dX3_readInto_7 : decode cX3_readInto 7 = .ok (.putfield 22, 3) := by decide +kernel
theorem dX3_readInto_10 : decode cX3_readInto 10 = .ok (.aload_n 0, 1) := by decide +kernel
theorem dX3_readInto_11 : decode cX3_readInto 11 = .ok (.iconst 0, 1) := by decide +kernel
theorem dX3_readInto_12 : decode cX3_readInto 12 = .ok (.putfield 31, 3) := by decide +kernel
theorem dX3_readInto_15 : decode cX3_readInto 15 = .ok (.aload_n 1, 1) := by decide +kernel
theorem dX3_readInto_16 : decode cX3_readInto 16 = .ok (.invokevirtual 44, 3) := by decide +kernel
theorem dX3_readInto_19 : decode cX3_readInto 19 = .ok (.aload_n 0, 1) := by decide +kernel
theorem dX3_readInto_20 : decode cX3_readInto 20 = .ok (.invokevirtual 49, 3) := by decide +kernel
theorem dX3_readInto_23 : decode cX3_readInto 23 = .ok (.aload_n 0, 1) := by decide +kernel
theorem dX3_readInto_24 : decode cX3_readInto 24 = .ok (.aload_n 1, 1) := by decide +kernel
theorem dX3_readInto_25 : decode cX3_readInto 25 = .ok (.invokevirtual 52, 3) := by decide +kernel
theorem dX3_readInto_28 : decode cX3_readInto 28 = .ok (.iconst 0, 1) := by decide +kernel
theorem dX3_readInto_29 : decode cX3_readInto 29 = .ok (.istore_n 2, 1) := by decide +kernel
theorem dX3_readInto_30 : decode cX3_readInto 30 = .ok (.iload_n 2, 1) := by decide +kernel
theorem dX3_readInto_31 : decode cX3_readInto 31 = .ok (.bipush 12, 2) := by decide +kernel
theorem dX3_readInto_33 : decode cX3_readInto 33 = .ok (.if_icmp .ge 23, 3) := by decide +kernel
theorem dX3_readInto_36 : decode cX3_readInto 36 = .ok (.aload_n 0, 1) := by decide +kernel
theorem dX3_readInto_37 : decode cX3_readInto 37 = .ok (.ldc 56, 2) := by decide +kernel
theorem dX3_readInto_39 : decode cX3_readInto 39 = .ok (.invokevirtual 58, 3) := by decide +kernel
theorem dX3_readInto_42 : decode cX3_readInto 42 = .ok (.ifCond .eq 14, 3) := by decide +kernel
theorem dX3_readInto_45 : decode cX3_readInto 45 = .ok (.aload_n 0, 1) := by decide +kernel
theorem dX3_readInto_46 : decode cX3_readInto 46 = .ok (.aload_n 1, 1) := by decide +kernel
theorem dX3_readInto_47 : decode cX3_readInto 47 = .ok (.invokevirtual 62, 3) := by decide +kernel
theorem dX3_readInto_50 : decode cX3_readInto 50 = .ok (.iinc 2 1, 3) := by decide +kernel
theorem dX3_readInto_53 : decode cX3_readInto 53 = .ok (.goto (-23), 3) := by decide +kernel
theorem dX3_readInto_56 : decode cX3_readInto 56 = .ok (.aload_n 0, 1) := by decide +kernel
theorem dX3_readInto_57 : decode cX3_readInto 57 = .ok (.ldc 56, 2) := by decide +kernel
theorem dX3_readInto_59 : decode cX3_readInto 59 = .ok (.invokevirtual 65, 3) := by decide +kernel
theorem dX3_readInto_62 : decode cX3_readInto 62 = .ok (.iconst 0, 1) := by decide +kernel
theorem dX3_readInto_63 : decode cX3_readInto 63 = .ok (.istore_n 2, 1) := by decide +kernel
theorem dX3_readInto_64 : decode cX3_readInto 64 = .ok (.iload_n 2, 1) := by decide +kernel
theorem dX3_readInto_65 : decode cX3_readInto 65 = .ok (.bipush 6, 2) := by decide +kernel
theorem dX3_readInto_67 : decode cX3_readInto 67 = .ok (.if_icmp .ge 23, 3) := by decide +kernel
theorem dX3_readInto_70 : decode cX3_readInto 70 = .ok (.aload_n 0, 1) := by decide +kernel
theorem dX3_readInto_71 : decode cX3_readInto 71 = .ok (.ldc 69, 2) := by decide +kernel
theorem dX3_readInto_73 : decode cX3_readInto 73 = .ok (.invokevirtual 58, 3) := by decide +kernel
theorem dX3_readInto_76 : decode cX3_readInto 76 = .ok (.ifCond .eq 14, 3) := by decide +kernel
theorem dX3_readInto_79 : decode cX3_readInto 79 = .ok (.aload_n 0, 1) := by decide +kernel
theorem dX3_readInto_80 : decode cX3_readInto 80 = .ok (.aload_n 1, 1) := by decide +kernel
theorem dX3_readInto_81 : decode cX3_readInto 81 = .ok (.invokevirtual 71, 3) := by decide +kernel
theorem dX3_readInto_84 : decode cX3_readInto 84 = .ok (.iinc 2 1, 3) := by decide +kernel
theorem dX3_readInto_87 : decode cX3_readInto 87 = .ok (.goto (-23), 3) := by decide +kernel
theorem dX3_readInto_90 : decode cX3_readInto 90 = .ok (.aload_n 0, 1) := by decide +kernel
theorem dX3_readInto_91 : decode cX3_readInto 91 = .ok (.ldc 69, 2) := by decide +kernel
theorem dX3_readInto_93 : decode cX3_readInto 93 = .ok (.invokevirtual 65, 3) := by decide +kernel
theorem dX3_readInto_96 : decode cX3_readInto 96 = .ok (.iconst 0, 1) := by decide +kernel
theorem dX3_readInto_97 : decode cX3_readInto 97 = .ok (.istore_n 2, 1) := by decide +kernel
theorem dX3_readInto_98 : decode cX3_readInto 98 = .ok (.iload_n 2, 1) := by decide +kernel
theorem dX3_readInto_99 : decode cX3_readInto 99 = .ok (.iconst 4, 1) := by decide +kernel
theorem dX3_readInto_100 : decode cX3_readInto 100 = .ok (.if_icmp .ge 24, 3) := by decide +kernel
theorem dX3_readInto_103 : decode cX3_readInto 103 = .ok (.aload_n 0, 1) := by decide +kernel
theorem dX3_readInto_104 : decode cX3_readInto 104 = .ok (.ldc 74, 2) := by decide +kernel
theorem dX3_readInto_106 : decode cX3_readInto 106 = .ok (.invokevirtual 58, 3) := by decide +kernel
theorem dX3_readInto_109 : decode cX3_readInto 109 = .ok (.ifCond .eq 15, 3) := by decide +kernel
theorem dX3_readInto_112 : decode cX3_readInto 112 = .ok (.aload_n 0, 1) := by decide +kernel
theorem dX3_readInto_113 : decode cX3_readInto 113 = .ok (.aload_n 1, 1) := by decide +kernel
theorem dX3_readInto_114 : decode cX3_readInto 114 = .ok (.iload_n 2, 1) := by decide +kernel
theorem dX3_readInto_115 : decode cX3_readInto 115 = .ok (.invokevirtual 76, 3) := by decide +kernel
theorem dX3_readInto_118 : decode cX3_readInto 118 = .ok (.iinc 2 1, 3) := by decide +kernel
theorem dX3_readInto_121 : decode cX3_readInto 121 = .ok (.goto (-23), 3) := by decide +kernel
theorem dX3_readInto_124 : decode cX3_readInto 124 = .ok (.aload_n 0, 1) := by decide +kernel
theorem dX3_readInto_125 : decode cX3_readInto 125 = .ok (.ldc 74, 2) := by decide +kernel
theorem dX3_readInto_127 : decode cX3_readInto 127 = .ok (.invokevirtual 65, 3) := by decide +kernel
theorem dX3_readInto_130 : decode cX3_readInto 130 = .ok (.iconst 0, 1) := by decide +kernel
theorem dX3_readInto_131 : decode cX3_readInto 131 = .ok (.istore_n 2, 1) := by decide +kernel
theorem dX3_readInto_132 : decode cX3_readInto 132 = .ok (.iload_n 2, 1) := by decide +kernel
theorem dX3_readInto_133 : decode cX3_readInto 133 = .ok (.bipush 6, 2) := by decide +kernel
theorem dX3_readInto_135 : decode cX3_readInto 135 = .ok (.if_icmp .ge 24, 3) := by decide +kernel
theorem dX3_readInto_138 : decode cX3_readInto 138 = .ok (.aload_n 0, 1) := by decide +kernel
theorem dX3_readInto_139 : decode cX3_readInto 139 = .ok (.ldc 80, 2) := by decide +kernel
theorem dX3_readInto_141 : decode cX3_readInto 141 = .ok (.invokevirtual 58, 3) := by decide +kernel
theorem dX3_readInto_144 : decode cX3_readInto 144 = .ok (.ifCond .eq 15, 3) := by decide +kernel
theorem dX3_readInto_147 : decode cX3_readInto 147 = .ok (.aload_n 0, 1) := by decide +kernel
theorem dX3_readInto_148 : decode cX3_readInto 148 = .ok (.aload_n 1, 1) := by decide +kernel
theorem dX3_readInto_149 : decode cX3_readInto 149 = .ok (.iload_n 2, 1) := by decide +kernel
theorem dX3_readInto_150 : decode cX3_readInto 150 = .ok (.invokevirtual 82, 3) := by decide +kernel
theorem dX3_readInto_153 : decode cX3_readInto 153 = .ok (.iinc 2 1, 3) := by decide +kernel
theorem dX3_readInto_156 : decode cX3_readInto 156 = .ok (.goto (-24), 3) := by decide +kernel
theorem dX3_readInto_159 : decode cX3_readInto 159 = .ok (.aload_n 0, 1) := by decide +kernel
theorem dX3_readInto_160 : decode cX3_readInto 160 = .ok (.ldc 80, 2) := by decide +kernel
theorem dX3_readInto_162 : decode cX3_readInto 162 = .ok (.invokevirtual 65, 3) := by decide +kernel
theorem dX3_readInto_165 : decode cX3_readInto 165 = .ok (.iconst 0, 1) := by decide +kernel
theorem dX3_readInto_166 : decode cX3_readInto 166 = .ok (.istore_n 2, 1) := by decide +kernel
theorem dX3_readInto_167 : decode cX3_readInto 167 = .ok (.iload_n 2, 1) := by decide +kernel
theorem dX3_readInto_168 : decode cX3_readInto 168 = .ok (.bipush 30, 2) := by decide +kernel
theorem dX3_readInto_170 : decode cX3_readInto 170 = .ok (.if_icmp .gt 23, 3) := by decide +kernel
theorem dX3_readInto_173 : decode cX3_readInto 173 = .ok (.aload_n 0, 1) := by decide +kernel
theorem dX3_readInto_174 : decode cX3_readInto 174 = .ok (.ldc 85, 2) := by decide +kernel
theorem dX3_readInto_176 : decode cX3_readInto 176 = .ok (.invokevirtual 58, 3) := by decide +kernel
theorem dX3_readInto_179 : decode cX3_readInto 179 = .ok (.ifCond .eq 14, 3) := by decide +kernel
theorem dX3_readInto_182 : decode cX3_readInto 182 = .ok (.aload_n 0, 1) := by decide +kernel
theorem dX3_readInto_183 : decode cX3_readInto 183 = .ok (.aload_n 1, 1) := by decide +kernel
theorem dX3_readInto_184 : decode cX3_readInto 184 = .ok (.invokevirtual 87, 3) := by decide +kernel
theorem dX3_readInto_187 : decode cX3_readInto 187 = .ok (.iinc 2 1, 3) := by decide +kernel
theorem dX3_readInto_190 : decode cX3_readInto 190 = .ok (.goto (-23), 3) := by decide +kernel
theorem dX3_readInto_193 : decode cX3_readInto 193 = .ok (.aload_n 0, 1) := by decide +kernel
theorem dX3_readInto_194 : decode cX3_readInto 194 = .ok (.getfield 25, 3) := by decide +kernel
theorem dX3_readInto_197 : decode cX3_readInto 197 = .ok (.ifCond .eq 8, 3) := by decide +kernel
theorem dX3_readInto_200 : decode cX3_readInto 200 = .ok (.aload_n 0, 1) := by decide +kernel
theorem dX3_readInto_201 : decode cX3_readInto 201 = .ok (.iconst 1, 1) := by decide +kernel
theorem dX3_readInto_202 : decode cX3_readInto 202 = .ok (.invokevirtual 90, 3) := by decide +kernel
theorem dX3_readInto_205 : decode cX3_readInto 205 = .ok (.aload_n 0, 1) := by decide +kernel
theorem dX3_readInto_206 : decode cX3_readInto 206 = .ok (.iconst 0, 1) := by decide +kernel
theorem dX3_readInto_207 : decode cX3_readInto 207 = .ok (.putfield 15, 3) := by decide +kernel
theorem dX3_readInto_210 : decode cX3_readInto 210 = .ok (.return_, 1) := by decide +kernel
theorem dX3_readMuseum_0 : decode cX3_readMuseum 0 = .ok (.aload_n 0, 1) := by decide +kernel
theorem dX3_readMuseum_1 : decode cX3_readMuseum 1 = .ok (.ldc 94, 2) := by decide +kernel
theorem dX3_readMuseum_3 : decode cX3_readMuseum 3 = .ok (.invokevirtual 96, 3) := by decide +kernel
theorem dX3_readMuseum_6 : decode cX3_readMuseum 6 = .ok (.aload_n 1, 1) := by decide +kernel
theorem dX3_readMuseum_7 : decode cX3_readMuseum 7 = .ok (.aload_n 0, 1) := by decide +kernel
theorem dX3_readMuseum_8 : decode cX3_readMuseum 8 = .ok (.iconst 0, 1) := by decide +kernel
theorem dX3_readMuseum_9 : decode cX3_readMuseum 9 = .ok (.sipush 999, 3) := by decide +kernel
theorem dX3_readMuseum_12 : decode cX3_readMuseum 12 = .ok (.invokevirtual 99, 3) := by decide +kernel
theorem dX3_readMuseum_15 : decode cX3_readMuseum 15 = .ok (.putfield 103, 3) := by decide +kernel
theorem dX3_readMuseum_18 : decode cX3_readMuseum 18 = .ok (.aload_n 1, 1) := by decide +kernel
theorem dX3_readMuseum_19 : decode cX3_readMuseum 19 = .ok (.aload_n 0, 1) := by decide +kernel
theorem dX3_readMuseum_20 : decode cX3_readMuseum 20 = .ok (.iconst 0, 1) := by decide +kernel
theorem dX3_readMuseum_21 : decode cX3_readMuseum 21 = .ok (.bipush 99, 2) := by decide +kernel
theorem dX3_readMuseum_23 : decode cX3_readMuseum 23 = .ok (.invokevirtual 99, 3) := by decide +kernel
theorem dX3_readMuseum_26 : decode cX3_readMuseum 26 = .ok (.putfield 106, 3) := by decide +kernel
theorem dX3_readMuseum_29 : decode cX3_readMuseum 29 = .ok (.aload_n 0, 1) := by decide +kernel
theorem dX3_readMuseum_30 : decode cX3_readMuseum 30 = .ok (.invokevirtual 109, 3) := by decide +kernel
theorem dX3_readMuseum_33 : decode cX3_readMuseum 33 = .ok (.return_, 1) := by decide +kernel
theorem dX3_readSeason_0 : decode cX3_readSeason 0 = .ok (.aload_n 0, 1) := by decide +kernel
theorem dX3_readSeason_1 : decode cX3_readSeason 1 = .ok (.invokevirtual 49, 3) := by decide +kernel
theorem dX3_readSeason_4 : decode cX3_readSeason 4 = .ok (.aload_n 0, 1) := by decide +kernel
theorem dX3_readSeason_5 : decode cX3_readSeason 5 = .ok (.aload_n 1, 1) := by decide +kernel
theorem dX3_readSeason_6 : decode cX3_readSeason 6 = .ok (.invokevirtual 112, 3) := by decide +kernel
theorem dX3_readSeason_9 : decode cX3_readSeason 9 = .ok (.sipush 364, 3) := by decide +kernel
theorem dX3_readSeason_12 : decode cX3_readSeason 12 = .ok (.invokevirtual 99, 3) := by decide +kernel
theorem dX3_readSeason_15 : decode cX3_readSeason 15 = .ok (.istore_n 2, 1) := by decide +kernel
theorem dX3_readSeason_16 : decode cX3_readSeason 16 = .ok (.aload_n 0, 1) := by decide +kernel
theorem dX3_readSeason_17 : decode cX3_readSeason 17 = .ok (.iconst 0, 1) := by decide +kernel
theorem dX3_readSeason_18 : decode cX3_readSeason 18 = .ok (.sipush 1000, 3) := by decide +kernel
theorem dX3_readSeason_21 : decode cX3_readSeason 21 = .ok (.invokevirtual 99, 3) := by decide +kernel
theorem dX3_readSeason_24 : decode cX3_readSeason 24 = .ok (.istore_n 3, 1) := by decide +kernel
theorem dX3_readSeason_25 : decode cX3_readSeason 25 = .ok (.aload_n 0, 1) := by decide +kernel
theorem dX3_readSeason_26 : decode cX3_readSeason 26 = .ok (.invokevirtual 109, 3) := by decide +kernel
theorem dX3_readSeason_29 : decode cX3_readSeason 29 = .ok (.aload_n 1, 1) := by decide +kernel
theorem dX3_readSeason_30 : decode cX3_readSeason 30 = .ok (.iload_n 2, 1) := by decide +kernel
theorem dX3_readSeason_31 : decode cX3_readSeason 31 = .ok (.iload_n 3, 1) := by decide +kernel
theorem dX3_readSeason_32 : decode cX3_readSeason 32 = .ok (.invokevirtual 116, 3) := by decide +kernel
theorem dX3_readSeason_35 : decode cX3_readSeason 35 = .ok (.return_, 1) := by decide +kernel
theorem dX3_readVisitors_0 : decode cX3_readVisitors 0 = .ok (.aload_n 0, 1) := by decide +kernel
theorem dX3_readVisitors_1 : decode cX3_readVisitors 1 = .ok (.invokevirtual 49, 3) := by decide +kernel
theorem dX3_readVisitors_4 : decode cX3_readVisitors 4 = .ok (.aload_n 0, 1) := by decide +kernel
theorem dX3_readVisitors_5 : decode cX3_readVisitors 5 = .ok (.iconst 0, 1) := by decide +kernel
theorem dX3_readVisitors_6 : decode cX3_readVisitors 6 = .ok (.bipush 23, 2) := by decide +kernel
theorem dX3_readVisitors_8 : decode cX3_readVisitors 8 = .ok (.invokevirtual 99, 3) := by decide +kernel
theorem dX3_readVisitors_11 : decode cX3_readVisitors 11 = .ok (.istore_n 2, 1) := by decide +kernel
theorem dX3_readVisitors_12 : decode cX3_readVisitors 12 = .ok (.aload_n 0, 1) := by decide +kernel
theorem dX3_readVisitors_13 : decode cX3_readVisitors 13 = .ok (.iload_n 2, 1) := by decide +kernel
theorem dX3_readVisitors_14 : decode cX3_readVisitors 14 = .ok (.bipush 23, 2) := by decide +kernel
theorem dX3_readVisitors_16 : decode cX3_readVisitors 16 = .ok (.invokevirtual 99, 3) := by decide +kernel
theorem dX3_readVisitors_19 : decode cX3_readVisitors 19 = .ok (.istore_n 3, 1) := by decide +kernel
theorem dX3_readVisitors_20 : decode cX3_readVisitors 20 = .ok (.aload_n 0, 1) := by decide +kernel
theorem dX3_readVisitors_21 : decode cX3_readVisitors 21 = .ok (.iconst 0, 1) := by decide +kernel
theorem dX3_readVisitors_22 : decode cX3_readVisitors 22 = .ok (.sipush 999, 3) := by decide +kernel
theorem dX3_readVisitors_25 : decode cX3_readVisitors 25 = .ok (.invokevirtual 99, 3) := by decide +kernel
theorem dX3_readVisitors_28 : decode cX3_readVisitors 28 = .ok (.istore 4, 2) := by decide +kernel
theorem dX3_readVisitors_30 : decode cX3_readVisitors 30 = .ok (.aload_n 0, 1) := by decide +kernel
theorem dX3_readVisitors_31 : decode cX3_readVisitors 31 = .ok (.invokevirtual 109, 3) := by decide +kernel
theorem dX3_readVisitors_34 : decode cX3_readVisitors 34 = .ok (.aload_n 1, 1) := by decide +kernel
theorem dX3_readVisitors_35 : decode cX3_readVisitors 35 = .ok (.iload_n 2, 1) := by decide +kernel
theorem dX3_readVisitors_36 : decode cX3_readVisitors 36 = .ok (.iload_n 3, 1) := by decide +kernel
theorem dX3_readVisitors_37 : decode cX3_readVisitors 37 = .ok (.iload 4, 2) := by decide +kernel
theorem dX3_readVisitors_39 : decode cX3_readVisitors 39 = .ok (.invokevirtual 120, 3) := by decide +kernel
theorem dX3_readVisitors_42 : decode cX3_readVisitors 42 = .ok (.return_, 1) := by decide +kernel
theorem dX3_readKind_0 : decode cX3_readKind 0 = .ok (.aload_n 0, 1) := by decide +kernel
theorem dX3_readKind_1 : decode cX3_readKind 1 = .ok (.invokevirtual 49, 3) := by decide +kernel
theorem dX3_readKind_4 : decode cX3_readKind 4 = .ok (.aload_n 0, 1) := by decide +kernel
theorem dX3_readKind_5 : decode cX3_readKind 5 = .ok (.getfield 37, 3) := by decide +kernel
theorem dX3_readKind_8 : decode cX3_readKind 8 = .ok (.iload_n 2, 1) := by decide +kernel
theorem dX3_readKind_9 : decode cX3_readKind 9 = .ok (.aload_n 0, 1) := by decide +kernel
theorem dX3_readKind_10 : decode cX3_readKind 10 = .ok (.aload_n 0, 1) := by decide +kernel
theorem dX3_readKind_11 : decode cX3_readKind 11 = .ok (.getfield 37, 3) := by decide +kernel
theorem dX3_readKind_14 : decode cX3_readKind 14 = .ok (.iload_n 2, 1) := by decide +kernel
theorem dX3_readKind_15 : decode cX3_readKind 15 = .ok (.invokevirtual 124, 3) := by decide +kernel
theorem dX3_readKind_18 : decode cX3_readKind 18 = .ok (.lastore, 1) := by decide +kernel
theorem dX3_readKind_19 : decode cX3_readKind 19 = .ok (.aload_n 1, 1) := by decide +kernel
theorem dX3_readKind_20 : decode cX3_readKind 20 = .ok (.getfield 128, 3) := by decide +kernel
theorem dX3_readKind_23 : decode cX3_readKind 23 = .ok (.iload_n 2, 1) := by decide +kernel
theorem dX3_readKind_24 : decode cX3_readKind 24 = .ok (.aaload, 1) := by decide +kernel
theorem dX3_readKind_25 : decode cX3_readKind 25 = .ok (.astore_n 3, 1) := by decide +kernel
theorem dX3_readKind_26 : decode cX3_readKind 26 = .ok (.aload_n 3, 1) := by decide +kernel
theorem dX3_readKind_27 : decode cX3_readKind 27 = .ok (.iload_n 2, 1) := by decide +kernel
theorem dX3_readKind_28 : decode cX3_readKind 28 = .ok (.aload_n 0, 1) := by decide +kernel
theorem dX3_readKind_29 : decode cX3_readKind 29 = .ok (.iconst 0, 1) := by decide +kernel
theorem dX3_readKind_30 : decode cX3_readKind 30 = .ok (.sipush 1000, 3) := by decide +kernel
theorem dX3_readKind_33 : decode cX3_readKind 33 = .ok (.invokevirtual 99, 3) := by decide +kernel
theorem dX3_readKind_36 : decode cX3_readKind 36 = .ok (.invokevirtual 132, 3) := by decide +kernel
theorem dX3_readKind_39 : decode cX3_readKind 39 = .ok (.iconst 0, 1) := by decide +kernel
theorem dX3_readKind_40 : decode cX3_readKind 40 = .ok (.istore 4, 2) := by decide +kernel
theorem dX3_readKind_42 : decode cX3_readKind 42 = .ok (.iload 4, 2) := by decide +kernel
theorem dX3_readKind_44 : decode cX3_readKind 44 = .ok (.bipush 6, 2) := by decide +kernel
theorem dX3_readKind_46 : decode cX3_readKind 46 = .ok (.if_icmp .ge 29, 3) := by decide +kernel
theorem dX3_readKind_49 : decode cX3_readKind 49 = .ok (.iload 4, 2) := by decide +kernel
theorem dX3_readKind_51 : decode cX3_readKind 51 = .ok (.iconst 2, 1) := by decide +kernel
theorem dX3_readKind_52 : decode cX3_readKind 52 = .ok (.if_icmp .lt 12, 3) := by decide +kernel
theorem dX3_readKind_55 : decode cX3_readKind 55 = .ok (.aload_n 0, 1) := by decide +kernel
theorem dX3_readKind_56 : decode cX3_readKind 56 = .ok (.ldc 137, 2) := by decide +kernel
theorem dX3_readKind_58 : decode cX3_readKind 58 = .ok (.invokevirtual 58, 3) := by decide +kernel
theorem dX3_readKind_61 : decode cX3_readKind 61 = .ok (.ifCond .eq 14, 3) := by decide +kernel
theorem dX3_readKind_64 : decode cX3_readKind 64 = .ok (.aload_n 0, 1) := by decide +kernel
theorem dX3_readKind_65 : decode cX3_readKind 65 = .ok (.aload_n 3, 1) := by decide +kernel
theorem dX3_readKind_66 : decode cX3_readKind 66 = .ok (.invokevirtual 139, 3) := by decide +kernel
theorem dX3_readKind_69 : decode cX3_readKind 69 = .ok (.iinc 4 1, 3) := by decide +kernel
theorem dX3_readKind_72 : decode cX3_readKind 72 = .ok (.goto (-30), 3) := by decide +kernel
theorem dX3_readKind_75 : decode cX3_readKind 75 = .ok (.aload_n 0, 1) := by decide +kernel
theorem dX3_readKind_76 : decode cX3_readKind 76 = .ok (.ldc 137, 2) := by decide +kernel
theorem dX3_readKind_78 : decode cX3_readKind 78 = .ok (.invokevirtual 65, 3) := by decide +kernel
theorem dX3_readKind_81 : decode cX3_readKind 81 = .ok (.aload_n 0, 1) := by decide +kernel
theorem dX3_readKind_82 : decode cX3_readKind 82 = .ok (.invokevirtual 109, 3) := by decide +kernel
theorem dX3_readKind_85 : decode cX3_readKind 85 = .ok (.aload_n 1, 1) := by decide +kernel
theorem dX3_readKind_86 : decode cX3_readKind 86 = .ok (.iload_n 2, 1) := by decide +kernel
theorem dX3_readKind_87 : decode cX3_readKind 87 = .ok (.iconst 1, 1) := by decide +kernel
theorem dX3_readKind_88 : decode cX3_readKind 88 = .ok (.iadd, 1) := by decide +kernel
theorem dX3_readKind_89 : decode cX3_readKind 89 = .ok (.putfield 143, 3) := by decide +kernel
theorem dX3_readKind_92 : decode cX3_readKind 92 = .ok (.return_, 1) := by decide +kernel
theorem dX3_readPoint_0 : decode cX3_readPoint 0 = .ok (.aload_n 0, 1) := by decide +kernel
theorem dX3_readPoint_1 : decode cX3_readPoint 1 = .ok (.ldc 137, 2) := by decide +kernel
theorem dX3_readPoint_3 : decode cX3_readPoint 3 = .ok (.invokevirtual 96, 3) := by decide +kernel
theorem dX3_readPoint_6 : decode cX3_readPoint 6 = .ok (.aload_n 0, 1) := by decide +kernel
theorem dX3_readPoint_7 : decode cX3_readPoint 7 = .ok (.aload_n 1, 1) := by decide +kernel
theorem dX3_readPoint_8 : decode cX3_readPoint 8 = .ok (.invokevirtual 146, 3) := by decide +kernel
theorem dX3_readPoint_11 : decode cX3_readPoint 11 = .ok (.sipush 1000, 3) := by decide +kernel
theorem dX3_readPoint_14 : decode cX3_readPoint 14 = .ok (.invokevirtual 99, 3) := by decide +kernel
theorem dX3_readPoint_17 : decode cX3_readPoint 17 = .ok (.istore_n 2, 1) := by decide +kernel
theorem dX3_readPoint_18 : decode cX3_readPoint 18 = .ok (.aload_n 0, 1) := by decide +kernel
theorem dX3_readPoint_19 : decode cX3_readPoint 19 = .ok (.aload_n 1, 1) := by decide +kernel
theorem dX3_readPoint_20 : decode cX3_readPoint 20 = .ok (.invokevirtual 149, 3) := by decide +kernel
theorem dX3_readPoint_23 : decode cX3_readPoint 23 = .ok (.sipush 9999, 3) := by decide +kernel
theorem dX3_readPoint_26 : decode cX3_readPoint 26 = .ok (.invokevirtual 99, 3) := by decide +kernel
theorem dX3_readPoint_29 : decode cX3_readPoint 29 = .ok (.istore_n 3, 1) := by decide +kernel
theorem dX3_readPoint_30 : decode cX3_readPoint 30 = .ok (.aload_n 1, 1) := by decide +kernel
theorem dX3_readPoint_31 : decode cX3_readPoint 31 = .ok (.iload_n 2, 1) := by decide +kernel
theorem dX3_readPoint_32 : decode cX3_readPoint 32 = .ok (.iload_n 3, 1) := by decide +kernel
theorem dX3_readPoint_33 : decode cX3_readPoint 33 = .ok (.invokevirtual 152, 3) := by decide +kernel
theorem dX3_readPoint_36 : decode cX3_readPoint 36 = .ok (.return_, 1) := by decide +kernel
theorem dX3_readCase_0 : decode cX3_readCase 0 = .ok (.aload_n 0, 1) := by decide +kernel
theorem dX3_readCase_1 : decode cX3_readCase 1 = .ok (.invokevirtual 49, 3) := by decide +kernel
theorem dX3_readCase_4 : decode cX3_readCase 4 = .ok (.aload_n 0, 1) := by decide +kernel
theorem dX3_readCase_5 : decode cX3_readCase 5 = .ok (.getfield 41, 3) := by decide +kernel
theorem dX3_readCase_8 : decode cX3_readCase 8 = .ok (.iload_n 2, 1) := by decide +kernel
theorem dX3_readCase_9 : decode cX3_readCase 9 = .ok (.aload_n 0, 1) := by decide +kernel
theorem dX3_readCase_10 : decode cX3_readCase 10 = .ok (.aload_n 0, 1) := by decide +kernel
theorem dX3_readCase_11 : decode cX3_readCase 11 = .ok (.getfield 41, 3) := by decide +kernel
theorem dX3_readCase_14 : decode cX3_readCase 14 = .ok (.iload_n 2, 1) := by decide +kernel
theorem dX3_readCase_15 : decode cX3_readCase 15 = .ok (.invokevirtual 124, 3) := by decide +kernel
theorem dX3_readCase_18 : decode cX3_readCase 18 = .ok (.lastore, 1) := by decide +kernel
theorem dX3_readCase_19 : decode cX3_readCase 19 = .ok (.aload_n 1, 1) := by decide +kernel
theorem dX3_readCase_20 : decode cX3_readCase 20 = .ok (.getfield 155, 3) := by decide +kernel
theorem dX3_readCase_23 : decode cX3_readCase 23 = .ok (.iload_n 2, 1) := by decide +kernel
theorem dX3_readCase_24 : decode cX3_readCase 24 = .ok (.aaload, 1) := by decide +kernel
theorem dX3_readCase_25 : decode cX3_readCase 25 = .ok (.astore_n 3, 1) := by decide +kernel
theorem dX3_readCase_26 : decode cX3_readCase 26 = .ok (.aload_n 0, 1) := by decide +kernel
theorem dX3_readCase_27 : decode cX3_readCase 27 = .ok (.bipush 100, 2) := by decide +kernel
theorem dX3_readCase_29 : decode cX3_readCase 29 = .ok (.sipush 9999, 3) := by decide +kernel
theorem dX3_readCase_32 : decode cX3_readCase 32 = .ok (.invokevirtual 99, 3) := by decide +kernel
theorem dX3_readCase_35 : decode cX3_readCase 35 = .ok (.istore 4, 2) := by decide +kernel
theorem dX3_readCase_37 : decode cX3_readCase 37 = .ok (.aload_n 0, 1) := by decide +kernel
theorem dX3_readCase_38 : decode cX3_readCase 38 = .ok (.iconst 0, 1) := by decide +kernel
theorem dX3_readCase_39 : decode cX3_readCase 39 = .ok (.sipush 1000, 3) := by decide +kernel
theorem dX3_readCase_42 : decode cX3_readCase 42 = .ok (.invokevirtual 99, 3) := by decide +kernel
theorem dX3_readCase_45 : decode cX3_readCase 45 = .ok (.istore 5, 2) := by decide +kernel
theorem dX3_readCase_47 : decode cX3_readCase 47 = .ok (.aload_n 0, 1) := by decide +kernel
theorem dX3_readCase_48 : decode cX3_readCase 48 = .ok (.iconst 0, 1) := by decide +kernel
theorem dX3_readCase_49 : decode cX3_readCase 49 = .ok (.sipush 1000, 3) := by decide +kernel
theorem dX3_readCase_52 : decode cX3_readCase 52 = .ok (.invokevirtual 99, 3) := by decide +kernel
theorem dX3_readCase_55 : decode cX3_readCase 55 = .ok (.istore 6, 2) := by decide +kernel
theorem dX3_readCase_57 : decode cX3_readCase 57 = .ok (.aload_n 3, 1) := by decide +kernel
theorem dX3_readCase_58 : decode cX3_readCase 58 = .ok (.iload 4, 2) := by decide +kernel
theorem dX3_readCase_60 : decode cX3_readCase 60 = .ok (.iload 5, 2) := by decide +kernel
theorem dX3_readCase_62 : decode cX3_readCase 62 = .ok (.iload 6, 2) := by decide +kernel
theorem dX3_readCase_64 : decode cX3_readCase 64 = .ok (.invokevirtual 159, 3) := by decide +kernel
theorem dX3_readCase_67 : decode cX3_readCase 67 = .ok (.aload_n 0, 1) := by decide +kernel
theorem dX3_readCase_68 : decode cX3_readCase 68 = .ok (.ldc 163, 2) := by decide +kernel
theorem dX3_readCase_70 : decode cX3_readCase 70 = .ok (.invokevirtual 58, 3) := by decide +kernel
theorem dX3_readCase_73 : decode cX3_readCase 73 = .ok (.ifCond .eq 34, 3) := by decide +kernel
theorem dX3_readCase_76 : decode cX3_readCase 76 = .ok (.aload_n 0, 1) := by decide +kernel
theorem dX3_readCase_77 : decode cX3_readCase 77 = .ok (.invokevirtual 49, 3) := by decide +kernel
theorem dX3_readCase_80 : decode cX3_readCase 80 = .ok (.aload_n 3, 1) := by decide +kernel
theorem dX3_readCase_81 : decode cX3_readCase 81 = .ok (.aload_n 0, 1) := by decide +kernel
theorem dX3_readCase_82 : decode cX3_readCase 82 = .ok (.iconst 0, 1) := by decide +kernel
theorem dX3_readCase_83 : decode cX3_readCase 83 = .ok (.sipush 1000, 3) := by decide +kernel
theorem dX3_readCase_86 : decode cX3_readCase 86 = .ok (.invokevirtual 99, 3) := by decide +kernel
theorem dX3_readCase_89 : decode cX3_readCase 89 = .ok (.putfield 165, 3) := by decide +kernel
theorem dX3_readCase_92 : decode cX3_readCase 92 = .ok (.aload_n 3, 1) := by decide +kernel
theorem dX3_readCase_93 : decode cX3_readCase 93 = .ok (.aload_n 0, 1) := by decide +kernel
theorem dX3_readCase_94 : decode cX3_readCase 94 = .ok (.aload_n 3, 1) := by decide +kernel
theorem dX3_readCase_95 : decode cX3_readCase 95 = .ok (.getfield 165, 3) := by decide +kernel
theorem dX3_readCase_98 : decode cX3_readCase 98 = .ok (.sipush 1000, 3) := by decide +kernel
theorem dX3_readCase_101 : decode cX3_readCase 101 = .ok (.invokevirtual 99, 3) := by decide +kernel
theorem dX3_readCase_104 : decode cX3_readCase 104 = .ok (.putfield 168, 3) := by decide +kernel
theorem dX3_readCase_107 : decode cX3_readCase 107 = .ok (.aload_n 0, 1) := by decide +kernel
theorem dX3_readCase_108 : decode cX3_readCase 108 = .ok (.invokevirtual 109, 3) := by decide +kernel
theorem dX3_readCase_111 : decode cX3_readCase 111 = .ok (.aload_n 1, 1) := by decide +kernel
theorem dX3_readCase_112 : decode cX3_readCase 112 = .ok (.iload_n 2, 1) := by decide +kernel
theorem dX3_readCase_113 : decode cX3_readCase 113 = .ok (.iconst 1, 1) := by decide +kernel
theorem dX3_readCase_114 : decode cX3_readCase 114 = .ok (.iadd, 1) := by decide +kernel
theorem dX3_readCase_115 : decode cX3_readCase 115 = .ok (.putfield 171, 3) := by decide +kernel
theorem dX3_readCase_118 : decode cX3_readCase 118 = .ok (.return_, 1) := by decide +kernel
theorem dX3_readCassette_0 : decode cX3_readCassette 0 = .ok (.aload_n 0, 1) := by decide +kernel
theorem dX3_readCassette_1 : decode cX3_readCassette 1 = .ok (.invokevirtual 49, 3) := by decide +kernel
theorem dX3_readCassette_4 : decode cX3_readCassette 4 = .ok (.aload_n 1, 1) := by decide +kernel
theorem dX3_readCassette_5 : decode cX3_readCassette 5 = .ok (.getfield 155, 3) := by decide +kernel
theorem dX3_readCassette_8 : decode cX3_readCassette 8 = .ok (.aload_n 0, 1) := by decide +kernel
theorem dX3_readCassette_9 : decode cX3_readCassette 9 = .ok (.aload_n 0, 1) := by decide +kernel
theorem dX3_readCassette_10 : decode cX3_readCassette 10 = .ok (.getfield 41, 3) := by decide +kernel
theorem dX3_readCassette_13 : decode cX3_readCassette 13 = .ok (.aload_n 1, 1) := by decide +kernel
theorem dX3_readCassette_14 : decode cX3_readCassette 14 = .ok (.getfield 171, 3) := by decide +kernel
theorem dX3_readCassette_17 : decode cX3_readCassette 17 = .ok (.invokevirtual 174, 3) := by decide +kernel
theorem dX3_readCassette_20 : decode cX3_readCassette 20 = .ok (.aaload, 1) := by decide +kernel
theorem dX3_readCassette_21 : decode cX3_readCassette 21 = .ok (.astore_n 2, 1) := by decide +kernel
theorem dX3_readCassette_22 : decode cX3_readCassette 22 = .ok (.aload_n 2, 1) := by decide +kernel
theorem dX3_readCassette_23 : decode cX3_readCassette 23 = .ok (.invokevirtual 178, 3) := by decide +kernel
theorem dX3_readCassette_26 : decode cX3_readCassette 26 = .ok (.ifCond .eq 8, 3) := by decide +kernel
theorem dX3_readCassette_29 : decode cX3_readCassette 29 = .ok (.aload_n 0, 1) := by decide +kernel
theorem dX3_readCassette_30 : decode cX3_readCassette 30 = .ok (.iconst 4, 1) := by decide +kernel
theorem dX3_readCassette_31 : decode cX3_readCassette 31 = .ok (.invokevirtual 90, 3) := by decide +kernel
theorem dX3_readCassette_34 : decode cX3_readCassette 34 = .ok (.aload_n 0, 1) := by decide +kernel
theorem dX3_readCassette_35 : decode cX3_readCassette 35 = .ok (.invokevirtual 49, 3) := by decide +kernel
theorem dX3_readCassette_38 : decode cX3_readCassette 38 = .ok (.aload_n 1, 1) := by decide +kernel
theorem dX3_readCassette_39 : decode cX3_readCassette 39 = .ok (.getfield 128, 3) := by decide +kernel
theorem dX3_readCassette_42 : decode cX3_readCassette 42 = .ok (.aload_n 0, 1) := by decide +kernel
theorem dX3_readCassette_43 : decode cX3_readCassette 43 = .ok (.aload_n 0, 1) := by decide +kernel
theorem dX3_readCassette_44 : decode cX3_readCassette 44 = .ok (.getfield 37, 3) := by decide +kernel
theorem dX3_readCassette_47 : decode cX3_readCassette 47 = .ok (.aload_n 1, 1) := by decide +kernel
theorem dX3_readCassette_48 : decode cX3_readCassette 48 = .ok (.getfield 143, 3) := by decide +kernel
theorem dX3_readCassette_51 : decode cX3_readCassette 51 = .ok (.invokevirtual 174, 3) := by decide +kernel
theorem dX3_readCassette_54 : decode cX3_readCassette 54 = .ok (.aaload, 1) := by decide +kernel
theorem dX3_readCassette_55 : decode cX3_readCassette 55 = .ok (.astore_n 3, 1) := by decide +kernel
theorem dX3_readCassette_56 : decode cX3_readCassette 56 = .ok (.aload_n 0, 1) := by decide +kernel
theorem dX3_readCassette_57 : decode cX3_readCassette 57 = .ok (.invokevirtual 49, 3) := by decide +kernel
theorem dX3_readCassette_60 : decode cX3_readCassette 60 = .ok (.aload_n 0, 1) := by decide +kernel
theorem dX3_readCassette_61 : decode cX3_readCassette 61 = .ok (.iconst 1, 1) := by decide +kernel
theorem dX3_readCassette_62 : decode cX3_readCassette 62 = .ok (.sipush 999, 3) := by decide +kernel
theorem dX3_readCassette_65 : decode cX3_readCassette 65 = .ok (.invokevirtual 99, 3) := by decide +kernel
theorem dX3_readCassette_68 : decode cX3_readCassette 68 = .ok (.istore 4, 2) := by decide +kernel
theorem dX3_readCassette_70 : decode cX3_readCassette 70 = .ok (.aload_n 0, 1) := by decide +kernel
theorem dX3_readCassette_71 : decode cX3_readCassette 71 = .ok (.iconst 0, 1) := by decide +kernel
theorem dX3_readCassette_72 : decode cX3_readCassette 72 = .ok (.sipush 1000, 3) := by decide +kernel
theorem dX3_readCassette_75 : decode cX3_readCassette 75 = .ok (.invokevirtual 99, 3) := by decide +kernel
theorem dX3_readCassette_78 : decode cX3_readCassette 78 = .ok (.istore 5, 2) := by decide +kernel
theorem dX3_readCassette_80 : decode cX3_readCassette 80 = .ok (.aload_n 0, 1) := by decide +kernel
theorem dX3_readCassette_81 : decode cX3_readCassette 81 = .ok (.invokevirtual 109, 3) := by decide +kernel
theorem dX3_readCassette_84 : decode cX3_readCassette 84 = .ok (.aload_n 2, 1) := by decide +kernel
theorem dX3_readCassette_85 : decode cX3_readCassette 85 = .ok (.aload_n 1, 1) := by decide +kernel
theorem dX3_readCassette_86 : decode cX3_readCassette 86 = .ok (.getfield 182, 3) := by decide +kernel
theorem dX3_readCassette_89 : decode cX3_readCassette 89 = .ok (.aload_n 3, 1) := by decide +kernel
theorem dX3_readCassette_90 : decode cX3_readCassette 90 = .ok (.iload 4, 2) := by decide +kernel
theorem dX3_readCassette_92 : decode cX3_readCassette 92 = .ok (.aload_n 3, 1) := by decide +kernel
theorem dX3_readCassette_93 : decode cX3_readCassette 93 = .ok (.iload 5, 2) := by decide +kernel
theorem dX3_readCassette_95 : decode cX3_readCassette 95 = .ok (.iload 4, 2) := by decide +kernel
theorem dX3_readCassette_97 : decode cX3_readCassette 97 = .ok (.invokevirtual 185, 3) := by decide +kernel
theorem dX3_readCassette_100 : decode cX3_readCassette 100 = .ok (.invokevirtual 188, 3) := by decide +kernel
theorem dX3_readCassette_103 : decode cX3_readCassette 103 = .ok (.aload_n 1, 1) := by decide +kernel
theorem dX3_readCassette_104 : decode cX3_readCassette 104 = .ok (.dup, 1) := by decide +kernel
theorem dX3_readCassette_105 : decode cX3_readCassette 105 = .ok (.getfield 182, 3) := by decide +kernel
theorem dX3_readCassette_108 : decode cX3_readCassette 108 = .ok (.iconst 1, 1) := by decide +kernel
theorem dX3_readCassette_109 : decode cX3_readCassette 109 = .ok (.iadd, 1) := by decide +kernel
theorem dX3_readCassette_110 : decode cX3_readCassette 110 = .ok (.putfield 182, 3) := by decide +kernel
theorem dX3_readCassette_113 : decode cX3_readCassette 113 = .ok (.return_, 1) := by decide +kernel
theorem dX3_takeWord_0 : decode cX3_takeWord 0 = .ok (.aload_n 0, 1) := by decide +kernel
theorem dX3_takeWord_1 : decode cX3_takeWord 1 = .ok (.aload_n 1, 1) := by decide +kernel
theorem dX3_takeWord_2 : decode cX3_takeWord 2 = .ok (.invokevirtual 58, 3) := by decide +kernel
theorem dX3_takeWord_5 : decode cX3_takeWord 5 = .ok (.ifCond .ne 8, 3) := by decide +kernel
theorem dX3_takeWord_8 : decode cX3_takeWord 8 = .ok (.aload_n 0, 1) := by decide +kernel
theorem dX3_takeWord_9 : decode cX3_takeWord 9 = .ok (.iconst 1, 1) := by decide +kernel
theorem dX3_takeWord_10 : decode cX3_takeWord 10 = .ok (.invokevirtual 90, 3) := by decide +kernel
theorem dX3_takeWord_13 : decode cX3_takeWord 13 = .ok (.aload_n 0, 1) := by decide +kernel
theorem dX3_takeWord_14 : decode cX3_takeWord 14 = .ok (.invokevirtual 49, 3) := by decide +kernel
theorem dX3_takeWord_17 : decode cX3_takeWord 17 = .ok (.return_, 1) := by decide +kernel
theorem dX3_takeSemicolon_0 : decode cX3_takeSemicolon 0 = .ok (.aload_n 0, 1) := by decide +kernel
theorem dX3_takeSemicolon_1 : decode cX3_takeSemicolon 1 = .ok (.getfield 25, 3) := by decide +kernel
theorem dX3_takeSemicolon_4 : decode cX3_takeSemicolon 4 = .ok (.iconst 3, 1) := by decide +kernel
theorem dX3_takeSemicolon_5 : decode cX3_takeSemicolon 5 = .ok (.if_icmp .eq 8, 3) := by decide +kernel
theorem dX3_takeSemicolon_8 : decode cX3_takeSemicolon 8 = .ok (.aload_n 0, 1) := by decide +kernel
theorem dX3_takeSemicolon_9 : decode cX3_takeSemicolon 9 = .ok (.iconst 1, 1) := by decide +kernel
theorem dX3_takeSemicolon_10 : decode cX3_takeSemicolon 10 = .ok (.invokevirtual 90, 3) := by decide +kernel
theorem dX3_takeSemicolon_13 : decode cX3_takeSemicolon 13 = .ok (.aload_n 0, 1) := by decide +kernel
theorem dX3_takeSemicolon_14 : decode cX3_takeSemicolon 14 = .ok (.invokevirtual 49, 3) := by decide +kernel
theorem dX3_takeSemicolon_17 : decode cX3_takeSemicolon 17 = .ok (.return_, 1) := by decide +kernel
theorem dX3_takeNumber_0 : decode cX3_takeNumber 0 = .ok (.aload_n 0, 1) := by decide +kernel
theorem dX3_takeNumber_1 : decode cX3_takeNumber 1 = .ok (.getfield 25, 3) := by decide +kernel
theorem dX3_takeNumber_4 : decode cX3_takeNumber 4 = .ok (.iconst 2, 1) := by decide +kernel
theorem dX3_takeNumber_5 : decode cX3_takeNumber 5 = .ok (.if_icmp .eq 8, 3) := by decide +kernel
theorem dX3_takeNumber_8 : decode cX3_takeNumber 8 = .ok (.aload_n 0, 1) := by decide +kernel
theorem dX3_takeNumber_9 : decode cX3_takeNumber 9 = .ok (.iconst 1, 1) := by decide +kernel
theorem dX3_takeNumber_10 : decode cX3_takeNumber 10 = .ok (.invokevirtual 90, 3) := by decide +kernel
theorem dX3_takeNumber_13 : decode cX3_takeNumber 13 = .ok (.aload_n 0, 1) := by decide +kernel
theorem dX3_takeNumber_14 : decode cX3_takeNumber 14 = .ok (.getfield 34, 3) := by decide +kernel
theorem dX3_takeNumber_17 : decode cX3_takeNumber 17 = .ok (.iload_n 1, 1) := by decide +kernel
theorem dX3_takeNumber_18 : decode cX3_takeNumber 18 = .ok (.if_icmp .lt 11, 3) := by decide +kernel
theorem dX3_takeNumber_21 : decode cX3_takeNumber 21 = .ok (.aload_n 0, 1) := by decide +kernel
theorem dX3_takeNumber_22 : decode cX3_takeNumber 22 = .ok (.getfield 34, 3) := by decide +kernel
theorem dX3_takeNumber_25 : decode cX3_takeNumber 25 = .ok (.iload_n 2, 1) := by decide +kernel
theorem dX3_takeNumber_26 : decode cX3_takeNumber 26 = .ok (.if_icmp .le 8, 3) := by decide +kernel
theorem dX3_takeNumber_29 : decode cX3_takeNumber 29 = .ok (.aload_n 0, 1) := by decide +kernel
theorem dX3_takeNumber_30 : decode cX3_takeNumber 30 = .ok (.iconst 2, 1) := by decide +kernel
theorem dX3_takeNumber_31 : decode cX3_takeNumber 31 = .ok (.invokevirtual 90, 3) := by decide +kernel
theorem dX3_takeNumber_34 : decode cX3_takeNumber 34 = .ok (.aload_n 0, 1) := by decide +kernel
theorem dX3_takeNumber_35 : decode cX3_takeNumber 35 = .ok (.getfield 34, 3) := by decide +kernel
theorem dX3_takeNumber_38 : decode cX3_takeNumber 38 = .ok (.istore_n 3, 1) := by decide +kernel
theorem dX3_takeNumber_39 : decode cX3_takeNumber 39 = .ok (.aload_n 0, 1) := by decide +kernel
theorem dX3_takeNumber_40 : decode cX3_takeNumber 40 = .ok (.invokevirtual 49, 3) := by decide +kernel
theorem dX3_takeNumber_43 : decode cX3_takeNumber 43 = .ok (.iload_n 3, 1) := by decide +kernel
theorem dX3_takeNumber_44 : decode cX3_takeNumber 44 = .ok (.ireturn, 1) := by decide +kernel
theorem dX3_takeNewName_0 : decode cX3_takeNewName 0 = .ok (.aload_n 0, 1) := by decide +kernel
theorem dX3_takeNewName_1 : decode cX3_takeNewName 1 = .ok (.invokevirtual 192, 3) := by decide +kernel
theorem dX3_takeNewName_4 : decode cX3_takeNewName 4 = .ok (.lstore_n 3, 1) := by decide +kernel
theorem dX3_takeNewName_5 : decode cX3_takeNewName 5 = .ok (.aload_n 1, 1) := by decide +kernel
theorem dX3_takeNewName_6 : decode cX3_takeNewName 6 = .ok (.iload_n 2, 1) := by decide +kernel
theorem dX3_takeNewName_7 : decode cX3_takeNewName 7 = .ok (.lload_n 3, 1) := by decide +kernel
theorem dX3_takeNewName_8 : decode cX3_takeNewName 8 = .ok (.invokestatic 196, 3) := by decide +kernel
theorem dX3_takeNewName_11 : decode cX3_takeNewName 11 = .ok (.iconst (-1), 1) := by decide +kernel
theorem dX3_takeNewName_12 : decode cX3_takeNewName 12 = .ok (.if_icmp .eq 8, 3) := by decide +kernel
theorem dX3_takeNewName_15 : decode cX3_takeNewName 15 = .ok (.aload_n 0, 1) := by decide +kernel
theorem dX3_takeNewName_16 : decode cX3_takeNewName 16 = .ok (.iconst 3, 1) := by decide +kernel
theorem dX3_takeNewName_17 : decode cX3_takeNewName 17 = .ok (.invokevirtual 90, 3) := by decide +kernel
theorem dX3_takeNewName_20 : decode cX3_takeNewName 20 = .ok (.aload_n 0, 1) := by decide +kernel
theorem dX3_takeNewName_21 : decode cX3_takeNewName 21 = .ok (.invokevirtual 49, 3) := by decide +kernel
theorem dX3_takeNewName_24 : decode cX3_takeNewName 24 = .ok (.lload_n 3, 1) := by decide +kernel
theorem dX3_takeNewName_25 : decode cX3_takeNewName 25 = .ok (.lreturn, 1) := by decide +kernel
theorem dX3_knownName_0 : decode cX3_knownName 0 = .ok (.aload_n 1, 1) := by decide +kernel
theorem dX3_knownName_1 : decode cX3_knownName 1 = .ok (.iload_n 2, 1) := by decide +kernel
theorem dX3_knownName_2 : decode cX3_knownName 2 = .ok (.aload_n 0, 1) := by decide +kernel
theorem dX3_knownName_3 : decode cX3_knownName 3 = .ok (.invokevirtual 192, 3) := by decide +kernel
theorem dX3_knownName_6 : decode cX3_knownName 6 = .ok (.invokestatic 196, 3) := by decide +kernel
theorem dX3_knownName_9 : decode cX3_knownName 9 = .ok (.istore_n 3, 1) := by decide +kernel
theorem dX3_knownName_10 : decode cX3_knownName 10 = .ok (.iload_n 3, 1) := by decide +kernel
theorem dX3_knownName_11 : decode cX3_knownName 11 = .ok (.iconst (-1), 1) := by decide +kernel
theorem dX3_knownName_12 : decode cX3_knownName 12 = .ok (.if_icmp .ne 8, 3) := by decide +kernel
theorem dX3_knownName_15 : decode cX3_knownName 15 = .ok (.aload_n 0, 1) := by decide +kernel
theorem dX3_knownName_16 : decode cX3_knownName 16 = .ok (.iconst 3, 1) := by decide +kernel
theorem dX3_knownName_17 : decode cX3_knownName 17 = .ok (.invokevirtual 90, 3) := by decide +kernel
theorem dX3_knownName_20 : decode cX3_knownName 20 = .ok (.iload_n 3, 1) := by decide +kernel
theorem dX3_knownName_21 : decode cX3_knownName 21 = .ok (.ireturn, 1) := by decide +kernel
theorem dX3_nameHere_0 : decode cX3_nameHere 0 = .ok (.aload_n 0, 1) := by decide +kernel
theorem dX3_nameHere_1 : decode cX3_nameHere 1 = .ok (.getfield 25, 3) := by decide +kernel
theorem dX3_nameHere_4 : decode cX3_nameHere 4 = .ok (.iconst 1, 1) := by decide +kernel
theorem dX3_nameHere_5 : decode cX3_nameHere 5 = .ok (.if_icmp .ne 17, 3) := by decide +kernel
theorem dX3_nameHere_8 : decode cX3_nameHere 8 = .ok (.aload_n 0, 1) := by decide +kernel
theorem dX3_nameHere_9 : decode cX3_nameHere 9 = .ok (.getfield 31, 3) := by decide +kernel
theorem dX3_nameHere_12 : decode cX3_nameHere 12 = .ok (.aload_n 0, 1) := by decide +kernel
theorem dX3_nameHere_13 : decode cX3_nameHere 13 = .ok (.getfield 28, 3) := by decide +kernel
theorem dX3_nameHere_16 : decode cX3_nameHere 16 = .ok (.isub, 1) := by decide +kernel
theorem dX3_nameHere_17 : decode cX3_nameHere 17 = .ok (.bipush 8, 2) := by decide +kernel
theorem dX3_nameHere_19 : decode cX3_nameHere 19 = .ok (.if_icmp .le 8, 3) := by decide +kernel
theorem dX3_nameHere_22 : decode cX3_nameHere 22 = .ok (.aload_n 0, 1) := by decide +kernel
theorem dX3_nameHere_23 : decode cX3_nameHere 23 = .ok (.iconst 1, 1) := by decide +kernel
theorem dX3_nameHere_24 : decode cX3_nameHere 24 = .ok (.invokevirtual 90, 3) := by decide +kernel
theorem dX3_nameHere_27 : decode cX3_nameHere 27 = .ok (.lconst 0, 1) := by decide +kernel
theorem dX3_nameHere_28 : decode cX3_nameHere 28 = .ok (.lstore_n 1, 1) := by decide +kernel
theorem dX3_nameHere_29 : decode cX3_nameHere 29 = .ok (.aload_n 0, 1) := by decide +kernel
theorem dX3_nameHere_30 : decode cX3_nameHere 30 = .ok (.getfield 28, 3) := by decide +kernel
theorem dX3_nameHere_33 : decode cX3_nameHere 33 = .ok (.istore_n 3, 1) := by decide +kernel
theorem dX3_nameHere_34 : decode cX3_nameHere 34 = .ok (.iload_n 3, 1) := by decide +kernel
theorem dX3_nameHere_35 : decode cX3_nameHere 35 = .ok (.aload_n 0, 1) := by decide +kernel
theorem dX3_nameHere_36 : decode cX3_nameHere 36 = .ok (.getfield 31, 3) := by decide +kernel
theorem dX3_nameHere_39 : decode cX3_nameHere 39 = .ok (.if_icmp .ge 28, 3) := by decide +kernel
theorem dX3_nameHere_42 : decode cX3_nameHere 42 = .ok (.lload_n 1, 1) := by decide +kernel
theorem dX3_nameHere_43 : decode cX3_nameHere 43 = .ok (.ldc2_w 200, 3) := by decide +kernel
theorem dX3_nameHere_46 : decode cX3_nameHere 46 = .ok (.lmul, 1) := by decide +kernel
theorem dX3_nameHere_47 : decode cX3_nameHere 47 = .ok (.aload_n 0, 1) := by decide +kernel
theorem dX3_nameHere_48 : decode cX3_nameHere 48 = .ok (.getfield 9, 3) := by decide +kernel
theorem dX3_nameHere_51 : decode cX3_nameHere 51 = .ok (.iload_n 3, 1) := by decide +kernel
theorem dX3_nameHere_52 : decode cX3_nameHere 52 = .ok (.baload, 1) := by decide +kernel
theorem dX3_nameHere_53 : decode cX3_nameHere 53 = .ok (.bipush 97, 2) := by decide +kernel
theorem dX3_nameHere_55 : decode cX3_nameHere 55 = .ok (.isub, 1) := by decide +kernel
theorem dX3_nameHere_56 : decode cX3_nameHere 56 = .ok (.iconst 1, 1) := by decide +kernel
theorem dX3_nameHere_57 : decode cX3_nameHere 57 = .ok (.iadd, 1) := by decide +kernel
theorem dX3_nameHere_58 : decode cX3_nameHere 58 = .ok (.i2l, 1) := by decide +kernel
theorem dX3_nameHere_59 : decode cX3_nameHere 59 = .ok (.ladd, 1) := by decide +kernel
theorem dX3_nameHere_60 : decode cX3_nameHere 60 = .ok (.lstore_n 1, 1) := by decide +kernel
theorem dX3_nameHere_61 : decode cX3_nameHere 61 = .ok (.iinc 3 1, 3) := by decide +kernel
theorem dX3_nameHere_64 : decode cX3_nameHere 64 = .ok (.goto (-30), 3) := by decide +kernel
theorem dX3_nameHere_67 : decode cX3_nameHere 67 = .ok (.lload_n 1, 1) := by decide +kernel
theorem dX3_nameHere_68 : decode cX3_nameHere 68 = .ok (.lreturn, 1) := by decide +kernel
theorem dX3_indexOf_0 : decode cX3_indexOf 0 = .ok (.iconst 0, 1) := by decide +kernel
theorem dX3_indexOf_1 : decode cX3_indexOf 1 = .ok (.istore 4, 2) := by decide +kernel
theorem dX3_indexOf_3 : decode cX3_indexOf 3 = .ok (.iload 4, 2) := by decide +kernel
theorem dX3_indexOf_5 : decode cX3_indexOf 5 = .ok (.iload_n 1, 1) := by decide +kernel
theorem dX3_indexOf_6 : decode cX3_indexOf 6 = .ok (.if_icmp .ge 28, 3) := by decide +kernel
theorem dX3_indexOf_9 : decode cX3_indexOf 9 = .ok (.iload 4, 2) := by decide +kernel
theorem dX3_indexOf_11 : decode cX3_indexOf 11 = .ok (.aload_n 0, 1) := by decide +kernel
theorem dX3_indexOf_12 : decode cX3_indexOf 12 = .ok (.arraylength, 1) := by decide +kernel
theorem dX3_indexOf_13 : decode cX3_indexOf 13 = .ok (.if_icmp .ge 21, 3) := by decide +kernel
theorem dX3_indexOf_16 : decode cX3_indexOf 16 = .ok (.aload_n 0, 1) := by decide +kernel
theorem dX3_indexOf_17 : decode cX3_indexOf 17 = .ok (.iload 4, 2) := by decide +kernel
theorem dX3_indexOf_19 : decode cX3_indexOf 19 = .ok (.laload, 1) := by decide +kernel
theorem dX3_indexOf_20 : decode cX3_indexOf 20 = .ok (.lload_n 2, 1) := by decide +kernel
theorem dX3_indexOf_21 : decode cX3_indexOf 21 = .ok (.lcmp, 1) := by decide +kernel
theorem dX3_indexOf_22 : decode cX3_indexOf 22 = .ok (.ifCond .ne 6, 3) := by decide +kernel
theorem dX3_indexOf_25 : decode cX3_indexOf 25 = .ok (.iload 4, 2) := by decide +kernel
theorem dX3_indexOf_27 : decode cX3_indexOf 27 = .ok (.ireturn, 1) := by decide +kernel
theorem dX3_indexOf_28 : decode cX3_indexOf 28 = .ok (.iinc 4 1, 3) := by decide +kernel
theorem dX3_indexOf_31 : decode cX3_indexOf 31 = .ok (.goto (-28), 3) := by decide +kernel
theorem dX3_indexOf_34 : decode cX3_indexOf 34 = .ok (.iconst (-1), 1) := by decide +kernel
theorem dX3_indexOf_35 : decode cX3_indexOf 35 = .ok (.ireturn, 1) := by decide +kernel
theorem dX3_refuse_0 : decode cX3_refuse 0 = .ok (.aload_n 0, 1) := by decide +kernel
theorem dX3_refuse_1 : decode cX3_refuse 1 = .ok (.aload_n 1, 1) := by decide +kernel
theorem dX3_refuse_2 : decode cX3_refuse 2 = .ok (.invokevirtual 58, 3) := by decide +kernel
theorem dX3_refuse_5 : decode cX3_refuse 5 = .ok (.ifCond .eq 8, 3) := by decide +kernel
theorem dX3_refuse_8 : decode cX3_refuse 8 = .ok (.aload_n 0, 1) := by decide +kernel
theorem dX3_refuse_9 : decode cX3_refuse 9 = .ok (.iconst 4, 1) := by decide +kernel
theorem dX3_refuse_10 : decode cX3_refuse 10 = .ok (.invokevirtual 90, 3) := by decide +kernel
theorem dX3_refuse_13 : decode cX3_refuse 13 = .ok (.return_, 1) := by decide +kernel
theorem dX3_at_0 : decode cX3_at 0 = .ok (.aload_n 0, 1) := by decide +kernel
theorem dX3_at_1 : decode cX3_at 1 = .ok (.getfield 25, 3) := by decide +kernel
theorem dX3_at_4 : decode cX3_at 4 = .ok (.iconst 1, 1) := by decide +kernel
theorem dX3_at_5 : decode cX3_at 5 = .ok (.if_icmp .ne 19, 3) := by decide +kernel
theorem dX3_at_8 : decode cX3_at 8 = .ok (.aload_n 0, 1) := by decide +kernel
theorem dX3_at_9 : decode cX3_at 9 = .ok (.getfield 31, 3) := by decide +kernel
theorem dX3_at_12 : decode cX3_at 12 = .ok (.aload_n 0, 1) := by decide +kernel
theorem dX3_at_13 : decode cX3_at 13 = .ok (.getfield 28, 3) := by decide +kernel
theorem dX3_at_16 : decode cX3_at 16 = .ok (.isub, 1) := by decide +kernel
theorem dX3_at_17 : decode cX3_at 17 = .ok (.aload_n 1, 1) := by decide +kernel
theorem dX3_at_18 : decode cX3_at 18 = .ok (.invokevirtual 202, 3) := by decide +kernel
theorem dX3_at_21 : decode cX3_at 21 = .ok (.if_icmp .eq 5, 3) := by decide +kernel
theorem dX3_at_24 : decode cX3_at 24 = .ok (.iconst 0, 1) := by decide +kernel
theorem dX3_at_25 : decode cX3_at 25 = .ok (.ireturn, 1) := by decide +kernel
theorem dX3_at_26 : decode cX3_at 26 = .ok (.aload_n 0, 1) := by decide +kernel
theorem dX3_at_27 : decode cX3_at 27 = .ok (.getfield 28, 3) := by decide +kernel
theorem dX3_at_30 : decode cX3_at 30 = .ok (.istore_n 2, 1) := by decide +kernel
theorem dX3_at_31 : decode cX3_at 31 = .ok (.iload_n 2, 1) := by decide +kernel
theorem dX3_at_32 : decode cX3_at 32 = .ok (.aload_n 0, 1) := by decide +kernel
theorem dX3_at_33 : decode cX3_at 33 = .ok (.getfield 31, 3) := by decide +kernel
theorem dX3_at_36 : decode cX3_at 36 = .ok (.if_icmp .ge 30, 3) := by decide +kernel
theorem dX3_at_39 : decode cX3_at 39 = .ok (.aload_n 0, 1) := by decide +kernel
theorem dX3_at_40 : decode cX3_at 40 = .ok (.getfield 9, 3) := by decide +kernel
theorem dX3_at_43 : decode cX3_at 43 = .ok (.iload_n 2, 1) := by decide +kernel
theorem dX3_at_44 : decode cX3_at 44 = .ok (.baload, 1) := by decide +kernel
theorem dX3_at_45 : decode cX3_at 45 = .ok (.aload_n 1, 1) := by decide +kernel
theorem dX3_at_46 : decode cX3_at 46 = .ok (.iload_n 2, 1) := by decide +kernel
theorem dX3_at_47 : decode cX3_at 47 = .ok (.aload_n 0, 1) := by decide +kernel
theorem dX3_at_48 : decode cX3_at 48 = .ok (.getfield 28, 3) := by decide +kernel
theorem dX3_at_51 : decode cX3_at 51 = .ok (.isub, 1) := by decide +kernel
theorem dX3_at_52 : decode cX3_at 52 = .ok (.invokevirtual 206, 3) := by decide +kernel
theorem dX3_at_55 : decode cX3_at 55 = .ok (.if_icmp .eq 5, 3) := by decide +kernel
theorem dX3_at_58 : decode cX3_at 58 = .ok (.iconst 0, 1) := by decide +kernel
theorem dX3_at_59 : decode cX3_at 59 = .ok (.ireturn, 1) := by decide +kernel
theorem dX3_at_60 : decode cX3_at 60 = .ok (.iinc 2 1, 3) := by decide +kernel
theorem dX3_at_63 : decode cX3_at 63 = .ok (.goto (-32), 3) := by decide +kernel
theorem dX3_at_66 : decode cX3_at 66 = .ok (.iconst 1, 1) := by decide +kernel
theorem dX3_at_67 : decode cX3_at 67 = .ok (.ireturn, 1) := by decide +kernel
theorem dX3_readToken_0 : decode cX3_readToken 0 = .ok (.aload_n 0, 1) := by decide +kernel
theorem dX3_readToken_1 : decode cX3_readToken 1 = .ok (.getfield 31, 3) := by decide +kernel
theorem dX3_readToken_4 : decode cX3_readToken 4 = .ok (.aload_n 0, 1) := by decide +kernel
theorem dX3_readToken_5 : decode cX3_readToken 5 = .ok (.getfield 15, 3) := by decide +kernel
theorem dX3_readToken_8 : decode cX3_readToken 8 = .ok (.if_icmp .ge 31, 3) := by decide +kernel
theorem dX3_readToken_11 : decode cX3_readToken 11 = .ok (.aload_n 0, 1) := by decide +kernel
theorem dX3_readToken_12 : decode cX3_readToken 12 = .ok (.getfield 9, 3) := by decide +kernel
theorem dX3_readToken_15 : decode cX3_readToken 15 = .ok (.aload_n 0, 1) := by decide +kernel
theorem dX3_readToken_16 : decode cX3_readToken 16 = .ok (.getfield 31, 3) := by decide +kernel
theorem dX3_readToken_19 : decode cX3_readToken 19 = .ok (.baload, 1) := by decide +kernel
theorem dX3_readToken_20 : decode cX3_readToken 20 = .ok (.invokestatic 210, 3) := by decide +kernel
theorem dX3_readToken_23 : decode cX3_readToken 23 = .ok (.ifCond .eq 16, 3) := by decide +kernel
theorem dX3_readToken_26 : decode cX3_readToken 26 = .ok (.aload_n 0, 1) := by decide +kernel
theorem dX3_readToken_27 : decode cX3_readToken 27 = .ok (.dup, 1) := by decide +kernel
theorem dX3_readToken_28 : decode cX3_readToken 28 = .ok (.getfield 31, 3) := by decide +kernel
theorem dX3_readToken_31 : decode cX3_readToken 31 = .ok (.iconst 1, 1) := by decide +kernel
theorem dX3_readToken_32 : decode cX3_readToken 32 = .ok (.iadd, 1) := by decide +kernel
theorem dX3_readToken_33 : decode cX3_readToken 33 = .ok (.putfield 31, 3) := by decide +kernel
theorem dX3_readToken_36 : decode cX3_readToken 36 = .ok (.goto (-36), 3) := by decide +kernel
theorem dX3_readToken_39 : decode cX3_readToken 39 = .ok (.aload_n 0, 1) := by decide +kernel
theorem dX3_readToken_40 : decode cX3_readToken 40 = .ok (.aload_n 0, 1) := by decide +kernel
theorem dX3_readToken_41 : decode cX3_readToken 41 = .ok (.getfield 31, 3) := by decide +kernel
theorem dX3_readToken_44 : decode cX3_readToken 44 = .ok (.putfield 28, 3) := by decide +kernel
theorem dX3_readToken_47 : decode cX3_readToken 47 = .ok (.aload_n 0, 1) := by decide +kernel
theorem dX3_readToken_48 : decode cX3_readToken 48 = .ok (.iconst 0, 1) := by decide +kernel
theorem dX3_readToken_49 : decode cX3_readToken 49 = .ok (.putfield 34, 3) := by decide +kernel
theorem dX3_readToken_52 : decode cX3_readToken 52 = .ok (.aload_n 0, 1) := by decide +kernel
theorem dX3_readToken_53 : decode cX3_readToken 53 = .ok (.getfield 28, 3) := by decide +kernel
theorem dX3_readToken_56 : decode cX3_readToken 56 = .ok (.aload_n 0, 1) := by decide +kernel
theorem dX3_readToken_57 : decode cX3_readToken 57 = .ok (.getfield 15, 3) := by decide +kernel
theorem dX3_readToken_60 : decode cX3_readToken 60 = .ok (.if_icmp .lt 9, 3) := by decide +kernel
theorem dX3_readToken_63 : decode cX3_readToken 63 = .ok (.aload_n 0, 1) := by decide +kernel
theorem dX3_readToken_64 : decode cX3_readToken 64 = .ok (.iconst 0, 1) := by decide +kernel
theorem dX3_readToken_65 : decode cX3_readToken 65 = .ok (.putfield 25, 3) := by decide +kernel
theorem dX3_readToken_68 : decode cX3_readToken 68 = .ok (.return_, 1) := by decide +kernel
theorem dX3_readToken_69 : decode cX3_readToken 69 = .ok (.aload_n 0, 1) := by decide +kernel
theorem dX3_readToken_70 : decode cX3_readToken 70 = .ok (.aload_n 0, 1) := by decide +kernel
theorem dX3_readToken_71 : decode cX3_readToken 71 = .ok (.getfield 9, 3) := by decide +kernel
theorem dX3_readToken_74 : decode cX3_readToken 74 = .ok (.aload_n 0, 1) := by decide +kernel
theorem dX3_readToken_75 : decode cX3_readToken 75 = .ok (.getfield 28, 3) := by decide +kernel
theorem dX3_readToken_78 : decode cX3_readToken 78 = .ok (.baload, 1) := by decide +kernel
theorem dX3_readToken_79 : decode cX3_readToken 79 = .ok (.invokestatic 214, 3) := by decide +kernel
theorem dX3_readToken_82 : decode cX3_readToken 82 = .ok (.putfield 25, 3) := by decide +kernel
theorem dX3_readToken_85 : decode cX3_readToken 85 = .ok (.aload_n 0, 1) := by decide +kernel
theorem dX3_readToken_86 : decode cX3_readToken 86 = .ok (.aload_n 0, 1) := by decide +kernel
theorem dX3_readToken_87 : decode cX3_readToken 87 = .ok (.getfield 28, 3) := by decide +kernel
theorem dX3_readToken_90 : decode cX3_readToken 90 = .ok (.iconst 1, 1) := by decide +kernel
theorem dX3_readToken_91 : decode cX3_readToken 91 = .ok (.iadd, 1) := by decide +kernel
theorem dX3_readToken_92 : decode cX3_readToken 92 = .ok (.putfield 31, 3) := by decide +kernel
theorem dX3_readToken_95 : decode cX3_readToken 95 = .ok (.aload_n 0, 1) := by decide +kernel
theorem dX3_readToken_96 : decode cX3_readToken 96 = .ok (.getfield 25, 3) := by decide +kernel
theorem dX3_readToken_99 : decode cX3_readToken 99 = .ok (.iconst 1, 1) := by decide +kernel
theorem dX3_readToken_100 : decode cX3_readToken 100 = .ok (.if_icmp .eq 11, 3) := by decide +kernel
theorem dX3_readToken_103 : decode cX3_readToken 103 = .ok (.aload_n 0, 1) := by decide +kernel
theorem dX3_readToken_104 : decode cX3_readToken 104 = .ok (.getfield 25, 3) := by decide +kernel
theorem dX3_readToken_107 : decode cX3_readToken 107 = .ok (.iconst 2, 1) := by decide +kernel
theorem dX3_readToken_108 : decode cX3_readToken 108 = .ok (.if_icmp .ne 46, 3) := by decide +kernel
theorem dX3_readToken_111 : decode cX3_readToken 111 = .ok (.aload_n 0, 1) := by decide +kernel
theorem dX3_readToken_112 : decode cX3_readToken 112 = .ok (.getfield 31, 3) := by decide +kernel
theorem dX3_readToken_115 : decode cX3_readToken 115 = .ok (.aload_n 0, 1) := by decide +kernel
theorem dX3_readToken_116 : decode cX3_readToken 116 = .ok (.getfield 15, 3) := by decide +kernel
theorem dX3_readToken_119 : decode cX3_readToken 119 = .ok (.if_icmp .ge 35, 3) := by decide +kernel
theorem dX3_readToken_122 : decode cX3_readToken 122 = .ok (.aload_n 0, 1) := by decide +kernel
theorem dX3_readToken_123 : decode cX3_readToken 123 = .ok (.getfield 9, 3) := by decide +kernel
theorem dX3_readToken_126 : decode cX3_readToken 126 = .ok (.aload_n 0, 1) := by decide +kernel
theorem dX3_readToken_127 : decode cX3_readToken 127 = .ok (.getfield 31, 3) := by decide +kernel
theorem dX3_readToken_130 : decode cX3_readToken 130 = .ok (.baload, 1) := by decide +kernel
theorem dX3_readToken_131 : decode cX3_readToken 131 = .ok (.invokestatic 214, 3) := by decide +kernel
theorem dX3_readToken_134 : decode cX3_readToken 134 = .ok (.aload_n 0, 1) := by decide +kernel
theorem dX3_readToken_135 : decode cX3_readToken 135 = .ok (.getfield 25, 3) := by decide +kernel
theorem dX3_readToken_138 : decode cX3_readToken 138 = .ok (.if_icmp .ne 16, 3) := by decide +kernel
theorem dX3_readToken_141 : decode cX3_readToken 141 = .ok (.aload_n 0, 1) := by decide +kernel
theorem dX3_readToken_142 : decode cX3_readToken 142 = .ok (.dup, 1) := by decide +kernel
theorem dX3_readToken_143 : decode cX3_readToken 143 = .ok (.getfield 31, 3) := by decide +kernel
theorem dX3_readToken_146 : decode cX3_readToken 146 = .ok (.iconst 1, 1) := by decide +kernel
theorem dX3_readToken_147 : decode cX3_readToken 147 = .ok (.iadd, 1) := by decide +kernel
theorem dX3_readToken_148 : decode cX3_readToken 148 = .ok (.putfield 31, 3) := by decide +kernel
theorem dX3_readToken_151 : decode cX3_readToken 151 = .ok (.goto (-40), 3) := by decide +kernel
theorem dX3_readToken_154 : decode cX3_readToken 154 = .ok (.aload_n 0, 1) := by decide +kernel
theorem dX3_readToken_155 : decode cX3_readToken 155 = .ok (.getfield 25, 3) := by decide +kernel
theorem dX3_readToken_158 : decode cX3_readToken 158 = .ok (.iconst 2, 1) := by decide +kernel
theorem dX3_readToken_159 : decode cX3_readToken 159 = .ok (.if_icmp .ne 7, 3) := by decide +kernel
theorem dX3_readToken_162 : decode cX3_readToken 162 = .ok (.aload_n 0, 1) := by decide +kernel
theorem dX3_readToken_163 : decode cX3_readToken 163 = .ok (.invokevirtual 218, 3) := by decide +kernel
theorem dX3_readToken_166 : decode cX3_readToken 166 = .ok (.return_, 1) := by decide +kernel
theorem dX3_readValue_0 : decode cX3_readValue 0 = .ok (.aload_n 0, 1) := by decide +kernel
theorem dX3_readValue_1 : decode cX3_readValue 1 = .ok (.getfield 31, 3) := by decide +kernel
theorem dX3_readValue_4 : decode cX3_readValue 4 = .ok (.aload_n 0, 1) := by decide +kernel
theorem dX3_readValue_5 : decode cX3_readValue 5 = .ok (.getfield 28, 3) := by decide +kernel
theorem dX3_readValue_8 : decode cX3_readValue 8 = .ok (.isub, 1) := by decide +kernel
theorem dX3_readValue_9 : decode cX3_readValue 9 = .ok (.iconst 4, 1) := by decide +kernel
theorem dX3_readValue_10 : decode cX3_readValue 10 = .ok (.if_icmp .le 9, 3) := by decide +kernel
theorem dX3_readValue_13 : decode cX3_readValue 13 = .ok (.aload_n 0, 1) := by decide +kernel
theorem dX3_readValue_14 : decode cX3_readValue 14 = .ok (.iconst 4, 1) := by decide +kernel
theorem dX3_readValue_15 : decode cX3_readValue 15 = .ok (.putfield 25, 3) := by decide +kernel
theorem dX3_readValue_18 : decode cX3_readValue 18 = .ok (.return_, 1) := by decide +kernel
theorem dX3_readValue_19 : decode cX3_readValue 19 = .ok (.aload_n 0, 1) := by decide +kernel
theorem dX3_readValue_20 : decode cX3_readValue 20 = .ok (.getfield 28, 3) := by decide +kernel
theorem dX3_readValue_23 : decode cX3_readValue 23 = .ok (.istore_n 1, 1) := by decide +kernel
theorem dX3_readValue_24 : decode cX3_readValue 24 = .ok (.iload_n 1, 1) := by decide +kernel
theorem dX3_readValue_25 : decode cX3_readValue 25 = .ok (.aload_n 0, 1) := by decide +kernel
theorem dX3_readValue_26 : decode cX3_readValue 26 = .ok (.getfield 31, 3) := by decide +kernel
theorem dX3_readValue_29 : decode cX3_readValue 29 = .ok (.if_icmp .ge 30, 3) := by decide +kernel
theorem dX3_readValue_32 : decode cX3_readValue 32 = .ok (.aload_n 0, 1) := by decide +kernel
theorem dX3_readValue_33 : decode cX3_readValue 33 = .ok (.aload_n 0, 1) := by decide +kernel
theorem dX3_readValue_34 : decode cX3_readValue 34 = .ok (.getfield 34, 3) := by decide +kernel
theorem dX3_readValue_37 : decode cX3_readValue 37 = .ok (.bipush 10, 2) := by decide +kernel
theorem dX3_readValue_39 : decode cX3_readValue 39 = .ok (.imul, 1) := by decide +kernel
theorem dX3_readValue_40 : decode cX3_readValue 40 = .ok (.aload_n 0, 1) := by decide +kernel
theorem dX3_readValue_41 : decode cX3_readValue 41 = .ok (.getfield 9, 3) := by decide +kernel
theorem dX3_readValue_44 : decode cX3_readValue 44 = .ok (.iload_n 1, 1) := by decide +kernel
theorem dX3_readValue_45 : decode cX3_readValue 45 = .ok (.baload, 1) := by decide +kernel
theorem dX3_readValue_46 : decode cX3_readValue 46 = .ok (.bipush 48, 2) := by decide +kernel
theorem dX3_readValue_48 : decode cX3_readValue 48 = .ok (.isub, 1) := by decide +kernel
theorem dX3_readValue_49 : decode cX3_readValue 49 = .ok (.iadd, 1) := by decide +kernel
theorem dX3_readValue_50 : decode cX3_readValue 50 = .ok (.putfield 34, 3) := by decide +kernel
theorem dX3_readValue_53 : decode cX3_readValue 53 = .ok (.iinc 1 1, 3) := by decide +kernel
theorem dX3_readValue_56 : decode cX3_readValue 56 = .ok (.goto (-32), 3) := by decide +kernel
theorem dX3_readValue_59 : decode cX3_readValue 59 = .ok (.return_, 1) := by decide +kernel
theorem dX3_isBlank_0 : decode cX3_isBlank 0 = .ok (.iload_n 0, 1) := by decide +kernel
theorem dX3_isBlank_1 : decode cX3_isBlank 1 = .ok (.bipush 10, 2) := by decide +kernel
theorem dX3_isBlank_3 : decode cX3_isBlank 3 = .ok (.if_icmp .eq 9, 3) := by decide +kernel
theorem dX3_isBlank_6 : decode cX3_isBlank 6 = .ok (.iload_n 0, 1) := by decide +kernel
theorem dX3_isBlank_7 : decode cX3_isBlank 7 = .ok (.bipush 32, 2) := by decide +kernel
theorem dX3_isBlank_9 : decode cX3_isBlank 9 = .ok (.if_icmp .ne 7, 3) := by decide +kernel
theorem dX3_isBlank_12 : decode cX3_isBlank 12 = .ok (.iconst 1, 1) := by decide +kernel
theorem dX3_isBlank_13 : decode cX3_isBlank 13 = .ok (.goto 4, 3) := by decide +kernel
theorem dX3_isBlank_16 : decode cX3_isBlank 16 = .ok (.iconst 0, 1) := by decide +kernel
theorem dX3_isBlank_17 : decode cX3_isBlank 17 = .ok (.ireturn, 1) := by decide +kernel
theorem dX3_tokenOf_0 : decode cX3_tokenOf 0 = .ok (.iload_n 0, 1) := by decide +kernel
theorem dX3_tokenOf_1 : decode cX3_tokenOf 1 = .ok (.bipush 97, 2) := by decide +kernel
theorem dX3_tokenOf_3 : decode cX3_tokenOf 3 = .ok (.if_icmp .lt 11, 3) := by decide +kernel
theorem dX3_tokenOf_6 : decode cX3_tokenOf 6 = .ok (.iload_n 0, 1) := by decide +kernel
theorem dX3_tokenOf_7 : decode cX3_tokenOf 7 = .ok (.bipush 122, 2) := by decide +kernel
theorem dX3_tokenOf_9 : decode cX3_tokenOf 9 = .ok (.if_icmp .gt 5, 3) := by decide +kernel
theorem dX3_tokenOf_12 : decode cX3_tokenOf 12 = .ok (.iconst 1, 1) := by decide +kernel
theorem dX3_tokenOf_13 : decode cX3_tokenOf 13 = .ok (.ireturn, 1) := by decide +kernel
theorem dX3_tokenOf_14 : decode cX3_tokenOf 14 = .ok (.iload_n 0, 1) := by decide +kernel
theorem dX3_tokenOf_15 : decode cX3_tokenOf 15 = .ok (.bipush 48, 2) := by decide +kernel
theorem dX3_tokenOf_17 : decode cX3_tokenOf 17 = .ok (.if_icmp .lt 11, 3) := by decide +kernel
theorem dX3_tokenOf_20 : decode cX3_tokenOf 20 = .ok (.iload_n 0, 1) := by decide +kernel
theorem dX3_tokenOf_21 : decode cX3_tokenOf 21 = .ok (.bipush 57, 2) := by decide +kernel
theorem dX3_tokenOf_23 : decode cX3_tokenOf 23 = .ok (.if_icmp .gt 5, 3) := by decide +kernel
theorem dX3_tokenOf_26 : decode cX3_tokenOf 26 = .ok (.iconst 2, 1) := by decide +kernel
theorem dX3_tokenOf_27 : decode cX3_tokenOf 27 = .ok (.ireturn, 1) := by decide +kernel
theorem dX3_tokenOf_28 : decode cX3_tokenOf 28 = .ok (.iload_n 0, 1) := by decide +kernel
theorem dX3_tokenOf_29 : decode cX3_tokenOf 29 = .ok (.bipush 59, 2) := by decide +kernel
theorem dX3_tokenOf_31 : decode cX3_tokenOf 31 = .ok (.if_icmp .ne 7, 3) := by decide +kernel
theorem dX3_tokenOf_34 : decode cX3_tokenOf 34 = .ok (.iconst 3, 1) := by decide +kernel
theorem dX3_tokenOf_35 : decode cX3_tokenOf 35 = .ok (.goto 4, 3) := by decide +kernel
theorem dX3_tokenOf_38 : decode cX3_tokenOf 38 = .ok (.iconst 4, 1) := by decide +kernel
theorem dX3_tokenOf_39 : decode cX3_tokenOf 39 = .ok (.ireturn, 1) := by decide +kernel
theorem dX3_fail_0 : decode cX3_fail 0 = .ok (.aload_n 0, 1) := by decide +kernel
theorem dX3_fail_1 : decode cX3_fail 1 = .ok (.iload_n 1, 1) := by decide +kernel
theorem dX3_fail_2 : decode cX3_fail 2 = .ok (.putfield 19, 3) := by decide +kernel
theorem dX3_fail_5 : decode cX3_fail 5 = .ok (.aload_n 0, 1) := by decide +kernel
theorem dX3_fail_6 : decode cX3_fail 6 = .ok (.aload_n 0, 1) := by decide +kernel
theorem dX3_fail_7 : decode cX3_fail 7 = .ok (.getfield 28, 3) := by decide +kernel
theorem dX3_fail_10 : decode cX3_fail 10 = .ok (.putfield 22, 3) := by decide +kernel
theorem dX3_fail_13 : decode cX3_fail 13 = .ok (.aload_n 0, 1) := by decide +kernel
theorem dX3_fail_14 : decode cX3_fail 14 = .ok (.iconst 0, 1) := by decide +kernel
theorem dX3_fail_15 : decode cX3_fail 15 = .ok (.putfield 15, 3) := by decide +kernel
theorem dX3_fail_18 : decode cX3_fail 18 = .ok (.new 221, 3) := by decide +kernel
theorem dX3_fail_21 : decode cX3_fail 21 = .ok (.dup, 1) := by decide +kernel
theorem dX3_fail_22 : decode cX3_fail 22 = .ok (.ldc 223, 2) := by decide +kernel
theorem dX3_fail_24 : decode cX3_fail 24 = .ok (.invokespecial 225, 3) := by decide +kernel
theorem dX3_fail_27 : decode cX3_fail 27 = .ok (.athrow, 1) := by decide +kernel
theorem dX4_init_0 : decode cX4_init 0 = .ok (.aload_n 0, 1) := by decide +kernel
theorem dX4_init_1 : decode cX4_init 1 = .ok (.invokespecial 3, 3) := by decide +kernel
theorem dX4_init_4 : decode cX4_init 4 = .ok (.aload_n 0, 1) := by decide +kernel
theorem dX4_init_5 : decode cX4_init 5 = .ok (.iconst 0, 1) := by decide +kernel
theorem dX4_init_6 : decode cX4_init 6 = .ok (.putfield 9, 3) := by decide +kernel
theorem dX4_init_9 : decode cX4_init 9 = .ok (.aload_n 0, 1) := by decide +kernel
theorem dX4_init_10 : decode cX4_init 10 = .ok (.iconst 0, 1) := by decide +kernel
theorem dX4_init_11 : decode cX4_init 11 = .ok (.putfield 15, 3) := by decide +kernel
theorem dX4_init_14 : decode cX4_init 14 = .ok (.aload_n 0, 1) := by decide +kernel
theorem dX4_init_15 : decode cX4_init 15 = .ok (.iconst 0, 1) := by decide +kernel
theorem dX4_init_16 : decode cX4_init 16 = .ok (.putfield 18, 3) := by decide +kernel
theorem dX4_init_19 : decode cX4_init 19 = .ok (.return_, 1) := by decide +kernel
theorem dX4_begin_0 : decode cX4_begin 0 = .ok (.aload_n 0, 1) := by decide +kernel
theorem dX4_begin_1 : decode cX4_begin 1 = .ok (.iconst 0, 1) := by decide +kernel
theorem dX4_begin_2 : decode cX4_begin 2 = .ok (.putfield 9, 3) := by decide +kernel
theorem dX4_begin_5 : decode cX4_begin 5 = .ok (.aload_n 0, 1) := by decide +kernel
theorem dX4_begin_6 : decode cX4_begin 6 = .ok (.iconst 0, 1) := by decide +kernel
theorem dX4_begin_7 : decode cX4_begin 7 = .ok (.putfield 15, 3) := by decide +kernel
theorem dX4_begin_10 : decode cX4_begin 10 = .ok (.aload_n 0, 1) := by decide +kernel
theorem dX4_begin_11 : decode cX4_begin 11 = .ok (.iconst 0, 1) := by decide +kernel
theorem dX4_begin_12 : decode cX4_begin 12 = .ok (.putfield 18, 3) := by decide +kernel
theorem dX4_begin_15 : decode cX4_begin 15 = .ok (.return_, 1) := by decide +kernel
theorem dX4_copyFrom_0 : decode cX4_copyFrom 0 = .ok (.aload_n 0, 1) := by decide +kernel
theorem dX4_copyFrom_1 : decode cX4_copyFrom 1 = .ok (.aload_n 1, 1) := by decide +kernel
theorem dX4_copyFrom_2 : decode cX4_copyFrom 2 = .ok (.getfield 9, 3) := by decide +kernel
theorem dX4_copyFrom_5 : decode cX4_copyFrom 5 = .ok (.putfield 9, 3) := by decide +kernel
theorem dX4_copyFrom_8 : decode cX4_copyFrom 8 = .ok (.aload_n 0, 1) := by decide +kernel
theorem dX4_copyFrom_9 : decode cX4_copyFrom 9 = .ok (.aload_n 1, 1) := by decide +kernel
theorem dX4_copyFrom_10 : decode cX4_copyFrom 10 = .ok (.getfield 15, 3) := by decide +kernel
theorem dX4_copyFrom_13 : decode cX4_copyFrom 13 = .ok (.putfield 15, 3) := by decide +kernel
theorem dX4_copyFrom_16 : decode cX4_copyFrom 16 = .ok (.aload_n 0, 1) := by decide +kernel
theorem dX4_copyFrom_17 : decode cX4_copyFrom 17 = .ok (.aload_n 1, 1) := by decide +kernel
theorem dX4_copyFrom_18 : decode cX4_copyFrom 18 = .ok (.getfield 18, 3) := by decide +kernel
theorem dX4_copyFrom_21 : decode cX4_copyFrom 21 = .ok (.putfield 18, 3) := by decide +kernel
theorem dX4_copyFrom_24 : decode cX4_copyFrom 24 = .ok (.return_, 1) := by decide +kernel
theorem dX4_day_0 : decode cX4_day 0 = .ok (.aload_n 0, 1) := by decide +kernel
theorem dX4_day_1 : decode cX4_day 1 = .ok (.getfield 9, 3) := by decide +kernel
theorem dX4_day_4 : decode cX4_day 4 = .ok (.bipush 24, 2) := by decide +kernel
theorem dX4_day_6 : decode cX4_day 6 = .ok (.idiv, 1) := by decide +kernel
theorem dX4_day_7 : decode cX4_day 7 = .ok (.sipush 365, 3) := by decide +kernel
theorem dX4_day_10 : decode cX4_day 10 = .ok (.irem, 1) := by decide +kernel
theorem dX4_day_11 : decode cX4_day 11 = .ok (.ireturn, 1) := by decide +kernel
theorem dX4_hourOfDay_0 : decode cX4_hourOfDay 0 = .ok (.aload_n 0, 1) := by decide +kernel
theorem dX4_hourOfDay_1 : decode cX4_hourOfDay 1 = .ok (.getfield 9, 3) := by decide +kernel
theorem dX4_hourOfDay_4 : decode cX4_hourOfDay 4 = .ok (.bipush 24, 2) := by decide +kernel
theorem dX4_hourOfDay_6 : decode cX4_hourOfDay 6 = .ok (.irem, 1) := by decide +kernel
theorem dX4_hourOfDay_7 : decode cX4_hourOfDay 7 = .ok (.ireturn, 1) := by decide +kernel
theorem dX4_humidity_0 : decode cX4_humidity 0 = .ok (.aload_n 1, 1) := by decide +kernel
theorem dX4_humidity_1 : decode cX4_humidity 1 = .ok (.aload_n 0, 1) := by decide +kernel
theorem dX4_humidity_2 : decode cX4_humidity 2 = .ok (.invokevirtual 21, 3) := by decide +kernel
theorem dX4_humidity_5 : decode cX4_humidity 5 = .ok (.invokevirtual 25, 3) := by decide +kernel
theorem dX4_humidity_8 : decode cX4_humidity 8 = .ok (.aload_n 0, 1) := by decide +kernel
theorem dX4_humidity_9 : decode cX4_humidity 9 = .ok (.getfield 15, 3) := by decide +kernel
theorem dX4_humidity_12 : decode cX4_humidity 12 = .ok (.iadd, 1) := by decide +kernel
theorem dX4_humidity_13 : decode cX4_humidity 13 = .ok (.istore_n 2, 1) := by decide +kernel
theorem dX4_humidity_14 : decode cX4_humidity 14 = .ok (.iload_n 2, 1) := by decide +kernel
theorem dX4_humidity_15 : decode cX4_humidity 15 = .ok (.ifCond .ge 5, 3) := by decide +kernel
theorem dX4_humidity_18 : decode cX4_humidity 18 = .ok (.iconst 0, 1) := by decide +kernel
theorem dX4_humidity_19 : decode cX4_humidity 19 = .ok (.ireturn, 1) := by decide +kernel
theorem dX4_humidity_20 : decode cX4_humidity 20 = .ok (.iload_n 2, 1) := by decide +kernel
theorem dX4_humidity_21 : decode cX4_humidity 21 = .ok (.sipush 1000, 3) := by decide +kernel
theorem dX4_humidity_24 : decode cX4_humidity 24 = .ok (.if_icmp .le 9, 3) := by decide +kernel
theorem dX4_humidity_27 : decode cX4_humidity 27 = .ok (.sipush 1000, 3) := by decide +kernel
theorem dX4_humidity_30 : decode cX4_humidity 30 = .ok (.goto 4, 3) := by decide +kernel
theorem dX4_humidity_33 : decode cX4_humidity 33 = .ok (.iload_n 2, 1) := by decide +kernel
theorem dX4_humidity_34 : decode cX4_humidity 34 = .ok (.ireturn, 1) := by decide +kernel
theorem dX4_passHour_0 : decode cX4_passHour 0 = .ok (.aload_n 1, 1) := by decide +kernel
theorem dX4_passHour_1 : decode cX4_passHour 1 = .ok (.aload_n 0, 1) := by decide +kernel
theorem dX4_passHour_2 : decode cX4_passHour 2 = .ok (.invokevirtual 31, 3) := by decide +kernel
theorem dX4_passHour_5 : decode cX4_passHour 5 = .ok (.invokevirtual 34, 3) := by decide +kernel
theorem dX4_passHour_8 : decode cX4_passHour 8 = .ok (.aload_n 0, 1) := by decide +kernel
theorem dX4_passHour_9 : decode cX4_passHour 9 = .ok (.getfield 18, 3) := by decide +kernel
theorem dX4_passHour_12 : decode cX4_passHour 12 = .ok (.iadd, 1) := by decide +kernel
theorem dX4_passHour_13 : decode cX4_passHour 13 = .ok (.istore_n 2, 1) := by decide +kernel
theorem dX4_passHour_14 : decode cX4_passHour 14 = .ok (.aload_n 0, 1) := by decide +kernel
theorem dX4_passHour_15 : decode cX4_passHour 15 = .ok (.aload_n 0, 1) := by decide +kernel
theorem dX4_passHour_16 : decode cX4_passHour 16 = .ok (.getfield 15, 3) := by decide +kernel
theorem dX4_passHour_19 : decode cX4_passHour 19 = .ok (.i2l, 1) := by decide +kernel
theorem dX4_passHour_20 : decode cX4_passHour 20 = .ok (.aload_n 1, 1) := by decide +kernel
theorem dX4_passHour_21 : decode cX4_passHour 21 = .ok (.getfield 37, 3) := by decide +kernel
theorem dX4_passHour_24 : decode cX4_passHour 24 = .ok (.i2l, 1) := by decide +kernel
theorem dX4_passHour_25 : decode cX4_passHour 25 = .ok (.lmul, 1) := by decide +kernel
theorem dX4_passHour_26 : decode cX4_passHour 26 = .ok (.ldc2_w 40, 3) := by decide +kernel
theorem dX4_passHour_29 : decode cX4_passHour 29 = .ok (.ldiv, 1) := by decide +kernel
theorem dX4_passHour_30 : decode cX4_passHour 30 = .ok (.l2i, 1) := by decide +kernel
theorem dX4_passHour_31 : decode cX4_passHour 31 = .ok (.aload_n 1, 1) := by decide +kernel
theorem dX4_passHour_32 : decode cX4_passHour 32 = .ok (.getfield 42, 3) := by decide +kernel
theorem dX4_passHour_35 : decode cX4_passHour 35 = .ok (.iload_n 2, 1) := by decide +kernel
theorem dX4_passHour_36 : decode cX4_passHour 36 = .ok (.imul, 1) := by decide +kernel
theorem dX4_passHour_37 : decode cX4_passHour 37 = .ok (.iadd, 1) := by decide +kernel
theorem dX4_passHour_38 : decode cX4_passHour 38 = .ok (.putfield 15, 3) := by decide +kernel
theorem dX4_passHour_41 : decode cX4_passHour 41 = .ok (.aload_n 0, 1) := by decide +kernel
theorem dX4_passHour_42 : decode cX4_passHour 42 = .ok (.iconst 0, 1) := by decide +kernel
theorem dX4_passHour_43 : decode cX4_passHour 43 = .ok (.putfield 18, 3) := by decide +kernel
theorem dX4_passHour_46 : decode cX4_passHour 46 = .ok (.aload_n 0, 1) := by decide +kernel
theorem dX4_passHour_47 : decode cX4_passHour 47 = .ok (.aload_n 1, 1) := by decide +kernel
theorem dX4_passHour_48 : decode cX4_passHour 48 = .ok (.invokevirtual 45, 3) := by decide +kernel
theorem dX4_passHour_51 : decode cX4_passHour 51 = .ok (.istore_n 3, 1) := by decide +kernel
theorem dX4_passHour_52 : decode cX4_passHour 52 = .ok (.aload_n 0, 1) := by decide +kernel
theorem dX4_passHour_53 : decode cX4_passHour 53 = .ok (.dup, 1) := by decide +kernel
theorem dX4_passHour_54 : decode cX4_passHour 54 = .ok (.getfield 9, 3) := by decide +kernel
theorem dX4_passHour_57 : decode cX4_passHour 57 = .ok (.iconst 1, 1) := by decide +kernel
theorem dX4_passHour_58 : decode cX4_passHour 58 = .ok (.iadd, 1) := by decide +kernel
theorem dX4_passHour_59 : decode cX4_passHour 59 = .ok (.putfield 9, 3) := by decide +kernel
theorem dX4_passHour_62 : decode cX4_passHour 62 = .ok (.iload_n 3, 1) := by decide +kernel
theorem dX4_passHour_63 : decode cX4_passHour 63 = .ok (.ireturn, 1) := by decide +kernel
theorem dX5_init_0 : decode cX5_init 0 = .ok (.aload_n 0, 1) := by decide +kernel
theorem dX5_init_1 : decode cX5_init 1 = .ok (.invokespecial 3, 3) := by decide +kernel
theorem dX5_init_4 : decode cX5_init 4 = .ok (.aload_n 0, 1) := by decide +kernel
theorem dX5_init_5 : decode cX5_init 5 = .ok (.iconst 0, 1) := by decide +kernel
theorem dX5_init_6 : decode cX5_init 6 = .ok (.putfield 9, 3) := by decide +kernel
theorem dX5_init_9 : decode cX5_init 9 = .ok (.aload_n 0, 1) := by decide +kernel
theorem dX5_init_10 : decode cX5_init 10 = .ok (.iconst 0, 1) := by decide +kernel
theorem dX5_init_11 : decode cX5_init 11 = .ok (.putfield 15, 3) := by decide +kernel
theorem dX5_init_14 : decode cX5_init 14 = .ok (.aload_n 0, 1) := by decide +kernel
theorem dX5_init_15 : decode cX5_init 15 = .ok (.iconst 0, 1) := by decide +kernel
theorem dX5_init_16 : decode cX5_init 16 = .ok (.putfield 18, 3) := by decide +kernel
theorem dX5_init_19 : decode cX5_init 19 = .ok (.aload_n 0, 1) := by decide +kernel
theorem dX5_init_20 : decode cX5_init 20 = .ok (.bipush 12, 2) := by decide +kernel
theorem dX5_init_22 : decode cX5_init 22 = .ok (.newarray .int, 2) := by decide +kernel
theorem dX5_init_24 : decode cX5_init 24 = .ok (.putfield 21, 3) := by decide +kernel
theorem dX5_init_27 : decode cX5_init 27 = .ok (.aload_n 0, 1) := by decide +kernel
theorem dX5_init_28 : decode cX5_init 28 = .ok (.bipush 12, 2) := by decide +kernel
theorem dX5_init_30 : decode cX5_init 30 = .ok (.newarray .int, 2) := by decide +kernel
theorem dX5_init_32 : decode cX5_init 32 = .ok (.putfield 25, 3) := by decide +kernel
theorem dX5_init_35 : decode cX5_init 35 = .ok (.aload_n 0, 1) := by decide +kernel
theorem dX5_init_36 : decode cX5_init 36 = .ok (.bipush 24, 2) := by decide +kernel
theorem dX5_init_38 : decode cX5_init 38 = .ok (.newarray .int, 2) := by decide +kernel
theorem dX5_init_40 : decode cX5_init 40 = .ok (.putfield 28, 3) := by decide +kernel
theorem dX5_init_43 : decode cX5_init 43 = .ok (.aload_n 0, 1) := by decide +kernel
theorem dX5_init_44 : decode cX5_init 44 = .ok (.iconst 0, 1) := by decide +kernel
theorem dX5_init_45 : decode cX5_init 45 = .ok (.putfield 31, 3) := by decide +kernel
theorem dX5_init_48 : decode cX5_init 48 = .ok (.aload_n 0, 1) := by decide +kernel
theorem dX5_init_49 : decode cX5_init 49 = .ok (.iconst 4, 1) := by decide +kernel
theorem dX5_init_50 : decode cX5_init 50 = .ok (.anewarray 34, 3) := by decide +kernel
theorem dX5_init_53 : decode cX5_init 53 = .ok (.putfield 36, 3) := by decide +kernel
theorem dX5_init_56 : decode cX5_init 56 = .ok (.aload_n 0, 1) := by decide +kernel
theorem dX5_init_57 : decode cX5_init 57 = .ok (.iconst 0, 1) := by decide +kernel
theorem dX5_init_58 : decode cX5_init 58 = .ok (.putfield 40, 3) := by decide +kernel
theorem dX5_init_61 : decode cX5_init 61 = .ok (.aload_n 0, 1) := by decide +kernel
theorem dX5_init_62 : decode cX5_init 62 = .ok (.bipush 6, 2) := by decide +kernel
theorem dX5_init_64 : decode cX5_init 64 = .ok (.anewarray 43, 3) := by decide +kernel
theorem dX5_init_67 : decode cX5_init 67 = .ok (.putfield 45, 3) := by decide +kernel
theorem dX5_init_70 : decode cX5_init 70 = .ok (.aload_n 0, 1) := by decide +kernel
theorem dX5_init_71 : decode cX5_init 71 = .ok (.iconst 0, 1) := by decide +kernel
theorem dX5_init_72 : decode cX5_init 72 = .ok (.putfield 49, 3) := by decide +kernel
theorem dX5_init_75 : decode cX5_init 75 = .ok (.iconst 0, 1) := by decide +kernel
theorem dX5_init_76 : decode cX5_init 76 = .ok (.istore_n 1, 1) := by decide +kernel
theorem dX5_init_77 : decode cX5_init 77 = .ok (.iload_n 1, 1) := by decide +kernel
theorem dX5_init_78 : decode cX5_init 78 = .ok (.aload_n 0, 1) := by decide +kernel
theorem dX5_init_79 : decode cX5_init 79 = .ok (.getfield 36, 3) := by decide +kernel
theorem dX5_init_82 : decode cX5_init 82 = .ok (.arraylength, 1) := by decide +kernel
theorem dX5_init_83 : decode cX5_init 83 = .ok (.if_icmp .ge 22, 3) := by decide +kernel
theorem dX5_init_86 : decode cX5_init 86 = .ok (.aload_n 0, 1) := by decide +kernel
theorem dX5_init_87 : decode cX5_init 87 = .ok (.getfield 36, 3) := by decide +kernel
theorem dX5_init_90 : decode cX5_init 90 = .ok (.iload_n 1, 1) := by decide +kernel
theorem dX5_init_91 : decode cX5_init 91 = .ok (.new 34, 3) := by decide +kernel
theorem dX5_init_94 : decode cX5_init 94 = .ok (.dup, 1) := by decide +kernel
theorem dX5_init_95 : decode cX5_init 95 = .ok (.invokespecial 52, 3) := by decide +kernel
theorem dX5_init_98 : decode cX5_init 98 = .ok (.aastore, 1) := by decide +kernel
theorem dX5_init_99 : decode cX5_init 99 = .ok (.iinc 1 1, 3) := by decide +kernel
theorem dX5_init_102 : decode cX5_init 102 = .ok (.goto (-25), 3) := by decide +kernel
theorem dX5_init_105 : decode cX5_init 105 = .ok (.iconst 0, 1) := by decide +kernel
theorem dX5_init_106 : decode cX5_init 106 = .ok (.istore_n 1, 1) := by decide +kernel
theorem dX5_init_107 : decode cX5_init 107 = .ok (.iload_n 1, 1) := by decide +kernel
theorem dX5_init_108 : decode cX5_init 108 = .ok (.aload_n 0, 1) := by decide +kernel
theorem dX5_init_109 : decode cX5_init 109 = .ok (.getfield 45, 3) := by decide +kernel
theorem dX5_init_112 : decode cX5_init 112 = .ok (.arraylength, 1) := by decide +kernel
theorem dX5_init_113 : decode cX5_init 113 = .ok (.if_icmp .ge 22, 3) := by decide +kernel
theorem dX5_init_116 : decode cX5_init 116 = .ok (.aload_n 0, 1) := by decide +kernel
theorem dX5_init_117 : decode cX5_init 117 = .ok (.getfield 45, 3) := by decide +kernel
theorem dX5_init_120 : decode cX5_init 120 = .ok (.iload_n 1, 1) := by decide +kernel
theorem dX5_init_121 : decode cX5_init 121 = .ok (.new 43, 3) := by decide +kernel
theorem dX5_init_124 : decode cX5_init 124 = .ok (.dup, 1) := by decide +kernel
theorem dX5_init_125 : decode cX5_init 125 = .ok (.invokespecial 53, 3) := by decide +kernel
theorem dX5_init_128 : decode cX5_init 128 = .ok (.aastore, 1) := by decide +kernel
theorem dX5_init_129 : decode cX5_init 129 = .ok (.iinc 1 1, 3) := by decide +kernel
theorem dX5_init_132 : decode cX5_init 132 = .ok (.goto (-25), 3) := by decide +kernel
theorem dX5_init_135 : decode cX5_init 135 = .ok (.return_, 1) := by decide +kernel
theorem dX5_clear_0 : decode cX5_clear 0 = .ok (.aload_n 0, 1) := by decide +kernel
theorem dX5_clear_1 : decode cX5_clear 1 = .ok (.iconst 0, 1) := by decide +kernel
theorem dX5_clear_2 : decode cX5_clear 2 = .ok (.putfield 9, 3) := by decide +kernel
theorem dX5_clear_5 : decode cX5_clear 5 = .ok (.aload_n 0, 1) := by decide +kernel
theorem dX5_clear_6 : decode cX5_clear 6 = .ok (.iconst 0, 1) := by decide +kernel
theorem dX5_clear_7 : decode cX5_clear 7 = .ok (.putfield 15, 3) := by decide +kernel
theorem dX5_clear_10 : decode cX5_clear 10 = .ok (.aload_n 0, 1) := by decide +kernel
theorem dX5_clear_11 : decode cX5_clear 11 = .ok (.iconst 0, 1) := by decide +kernel
theorem dX5_clear_12 : decode cX5_clear 12 = .ok (.putfield 18, 3) := by decide +kernel
theorem dX5_clear_15 : decode cX5_clear 15 = .ok (.aload_n 0, 1) := by decide +kernel
theorem dX5_clear_16 : decode cX5_clear 16 = .ok (.iconst 0, 1) := by decide +kernel
theorem dX5_clear_17 : decode cX5_clear 17 = .ok (.putfield 31, 3) := by decide +kernel
theorem dX5_clear_20 : decode cX5_clear 20 = .ok (.aload_n 0, 1) := by decide +kernel
theorem dX5_clear_21 : decode cX5_clear 21 = .ok (.iconst 0, 1) := by decide +kernel
theorem dX5_clear_22 : decode cX5_clear 22 = .ok (.putfield 40, 3) := by decide +kernel
theorem dX5_clear_25 : decode cX5_clear 25 = .ok (.aload_n 0, 1) := by decide +kernel
theorem dX5_clear_26 : decode cX5_clear 26 = .ok (.iconst 0, 1) := by decide +kernel
theorem dX5_clear_27 : decode cX5_clear 27 = .ok (.putfield 49, 3) := by decide +kernel
theorem dX5_clear_30 : decode cX5_clear 30 = .ok (.iconst 0, 1) := by decide +kernel
theorem dX5_clear_31 : decode cX5_clear 31 = .ok (.istore_n 1, 1) := by decide +kernel
theorem dX5_clear_32 : decode cX5_clear 32 = .ok (.iload_n 1, 1) := by decide +kernel
theorem dX5_clear_33 : decode cX5_clear 33 = .ok (.aload_n 0, 1) := by decide +kernel
theorem dX5_clear_34 : decode cX5_clear 34 = .ok (.getfield 28, 3) := by decide +kernel
theorem dX5_clear_37 : decode cX5_clear 37 = .ok (.arraylength, 1) := by decide +kernel
theorem dX5_clear_38 : decode cX5_clear 38 = .ok (.if_icmp .ge 16, 3) := by decide +kernel
theorem dX5_clear_41 : decode cX5_clear 41 = .ok (.aload_n 0, 1) := by decide +kernel
theorem dX5_clear_42 : decode cX5_clear 42 = .ok (.getfield 28, 3) := by decide +kernel
theorem dX5_clear_45 : decode cX5_clear 45 = .ok (.iload_n 1, 1) := by decide +kernel
theorem dX5_clear_46 : decode cX5_clear 46 = .ok (.iconst 0, 1) := by decide +kernel
theorem dX5_clear_47 : decode cX5_clear 47 = .ok (.iastore, 1) := by decide +kernel
theorem dX5_clear_48 : decode cX5_clear 48 = .ok (.iinc 1 1, 3) := by decide +kernel
theorem dX5_clear_51 : decode cX5_clear 51 = .ok (.goto (-19), 3) := by decide +kernel
theorem dX5_clear_54 : decode cX5_clear 54 = .ok (.return_, 1) := by decide +kernel
theorem dX5_nextDay_0 : decode cX5_nextDay 0 = .ok (.aload_n 0, 1) := by decide +kernel
theorem dX5_nextDay_1 : decode cX5_nextDay 1 = .ok (.getfield 18, 3) := by decide +kernel
theorem dX5_nextDay_4 : decode cX5_nextDay 4 = .ok (.iconst 1, 1) := by decide +kernel
theorem dX5_nextDay_5 : decode cX5_nextDay 5 = .ok (.isub, 1) := by decide +kernel
theorem dX5_nextDay_6 : decode cX5_nextDay 6 = .ok (.istore_n 1, 1) := by decide +kernel
theorem dX5_nextDay_7 : decode cX5_nextDay 7 = .ok (.iload_n 1, 1) := by decide +kernel
theorem dX5_nextDay_8 : decode cX5_nextDay 8 = .ok (.ifCond .lt 9, 3) := by decide +kernel
theorem dX5_nextDay_11 : decode cX5_nextDay 11 = .ok (.iload_n 1, 1) := by decide +kernel
theorem dX5_nextDay_12 : decode cX5_nextDay 12 = .ok (.bipush 12, 2) := by decide +kernel
theorem dX5_nextDay_14 : decode cX5_nextDay 14 = .ok (.if_icmp .lt 7, 3) := by decide +kernel
theorem dX5_nextDay_17 : decode cX5_nextDay 17 = .ok (.iconst 0, 1) := by decide +kernel
theorem dX5_nextDay_18 : decode cX5_nextDay 18 = .ok (.goto 11, 3) := by decide +kernel
theorem dX5_nextDay_21 : decode cX5_nextDay 21 = .ok (.aload_n 0, 1) := by decide +kernel
theorem dX5_nextDay_22 : decode cX5_nextDay 22 = .ok (.getfield 21, 3) := by decide +kernel
theorem dX5_nextDay_25 : decode cX5_nextDay 25 = .ok (.iload_n 1, 1) := by decide +kernel
theorem dX5_nextDay_26 : decode cX5_nextDay 26 = .ok (.iaload, 1) := by decide +kernel
theorem dX5_nextDay_27 : decode cX5_nextDay 27 = .ok (.iconst 1, 1) := by decide +kernel
theorem dX5_nextDay_28 : decode cX5_nextDay 28 = .ok (.iadd, 1) := by decide +kernel
theorem dX5_nextDay_29 : decode cX5_nextDay 29 = .ok (.ireturn, 1) := by decide +kernel
theorem dX5_addSeason_0 : decode cX5_addSeason 0 = .ok (.aload_n 0, 1) := by decide +kernel
theorem dX5_addSeason_1 : decode cX5_addSeason 1 = .ok (.getfield 18, 3) := by decide +kernel
theorem dX5_addSeason_4 : decode cX5_addSeason 4 = .ok (.bipush 12, 2) := by decide +kernel
theorem dX5_addSeason_6 : decode cX5_addSeason 6 = .ok (.if_icmp .ge 33, 3) := by decide +kernel
theorem dX5_addSeason_9 : decode cX5_addSeason 9 = .ok (.aload_n 0, 1) := by decide +kernel
theorem dX5_addSeason_10 : decode cX5_addSeason 10 = .ok (.getfield 21, 3) := by decide +kernel
theorem dX5_addSeason_13 : decode cX5_addSeason 13 = .ok (.aload_n 0, 1) := by decide +kernel
theorem dX5_addSeason_14 : decode cX5_addSeason 14 = .ok (.getfield 18, 3) := by decide +kernel
theorem dX5_addSeason_17 : decode cX5_addSeason 17 = .ok (.iload_n 1, 1) := by decide +kernel
theorem dX5_addSeason_18 : decode cX5_addSeason 18 = .ok (.iastore, 1) := by decide +kernel
theorem dX5_addSeason_19 : decode cX5_addSeason 19 = .ok (.aload_n 0, 1) := by decide +kernel
theorem dX5_addSeason_20 : decode cX5_addSeason 20 = .ok (.getfield 25, 3) := by decide +kernel
theorem dX5_addSeason_23 : decode cX5_addSeason 23 = .ok (.aload_n 0, 1) := by decide +kernel
theorem dX5_addSeason_24 : decode cX5_addSeason 24 = .ok (.getfield 18, 3) := by decide +kernel
theorem dX5_addSeason_27 : decode cX5_addSeason 27 = .ok (.iload_n 2, 1) := by decide +kernel
theorem dX5_addSeason_28 : decode cX5_addSeason 28 = .ok (.iastore, 1) := by decide +kernel
theorem dX5_addSeason_29 : decode cX5_addSeason 29 = .ok (.aload_n 0, 1) := by decide +kernel
theorem dX5_addSeason_30 : decode cX5_addSeason 30 = .ok (.dup, 1) := by decide +kernel
theorem dX5_addSeason_31 : decode cX5_addSeason 31 = .ok (.getfield 18, 3) := by decide +kernel
theorem dX5_addSeason_34 : decode cX5_addSeason 34 = .ok (.iconst 1, 1) := by decide +kernel
theorem dX5_addSeason_35 : decode cX5_addSeason 35 = .ok (.iadd, 1) := by decide +kernel
theorem dX5_addSeason_36 : decode cX5_addSeason 36 = .ok (.putfield 18, 3) := by decide +kernel
theorem dX5_addSeason_39 : decode cX5_addSeason 39 = .ok (.return_, 1) := by decide +kernel
theorem dX5_addVisitors_0 : decode cX5_addVisitors 0 = .ok (.iload_n 1, 1) := by decide +kernel
theorem dX5_addVisitors_1 : decode cX5_addVisitors 1 = .ok (.istore 4, 2) := by decide +kernel
theorem dX5_addVisitors_3 : decode cX5_addVisitors 3 = .ok (.iload 4, 2) := by decide +kernel
theorem dX5_addVisitors_5 : decode cX5_addVisitors 5 = .ok (.iload_n 2, 1) := by decide +kernel
theorem dX5_addVisitors_6 : decode cX5_addVisitors 6 = .ok (.if_icmp .gt 30, 3) := by decide +kernel
theorem dX5_addVisitors_9 : decode cX5_addVisitors 9 = .ok (.iload 4, 2) := by decide +kernel
theorem dX5_addVisitors_11 : decode cX5_addVisitors 11 = .ok (.aload_n 0, 1) := by decide +kernel
theorem dX5_addVisitors_12 : decode cX5_addVisitors 12 = .ok (.getfield 28, 3) := by decide +kernel
theorem dX5_addVisitors_15 : decode cX5_addVisitors 15 = .ok (.arraylength, 1) := by decide +kernel
theorem dX5_addVisitors_16 : decode cX5_addVisitors 16 = .ok (.if_icmp .ge 20, 3) := by decide +kernel
theorem dX5_addVisitors_19 : decode cX5_addVisitors 19 = .ok (.aload_n 0, 1) := by decide +kernel
theorem dX5_addVisitors_20 : decode cX5_addVisitors 20 = .ok (.getfield 28, 3) := by decide +kernel
theorem dX5_addVisitors_23 : decode cX5_addVisitors 23 = .ok (.iload 4, 2) := by decide +kernel
theorem dX5_addVisitors_25 : decode cX5_addVisitors 25 = .ok (.dup2, 1) := by decide +kernel
theorem dX5_addVisitors_26 : decode cX5_addVisitors 26 = .ok (.iaload, 1) := by decide +kernel
theorem dX5_addVisitors_27 : decode cX5_addVisitors 27 = .ok (.iload_n 3, 1) := by decide +kernel
theorem dX5_addVisitors_28 : decode cX5_addVisitors 28 = .ok (.iadd, 1) := by decide +kernel
theorem dX5_addVisitors_29 : decode cX5_addVisitors 29 = .ok (.iastore, 1) := by decide +kernel
theorem dX5_addVisitors_30 : decode cX5_addVisitors 30 = .ok (.iinc 4 1, 3) := by decide +kernel
theorem dX5_addVisitors_33 : decode cX5_addVisitors 33 = .ok (.goto (-30), 3) := by decide +kernel
theorem dX5_addVisitors_36 : decode cX5_addVisitors 36 = .ok (.return_, 1) := by decide +kernel
theorem dX5_visitorsAt_0 : decode cX5_visitorsAt 0 = .ok (.iload_n 1, 1) := by decide +kernel
theorem dX5_visitorsAt_1 : decode cX5_visitorsAt 1 = .ok (.ifCond .lt 12, 3) := by decide +kernel
theorem dX5_visitorsAt_4 : decode cX5_visitorsAt 4 = .ok (.iload_n 1, 1) := by decide +kernel
theorem dX5_visitorsAt_5 : decode cX5_visitorsAt 5 = .ok (.aload_n 0, 1) := by decide +kernel
theorem dX5_visitorsAt_6 : decode cX5_visitorsAt 6 = .ok (.getfield 28, 3) := by decide +kernel
theorem dX5_visitorsAt_9 : decode cX5_visitorsAt 9 = .ok (.arraylength, 1) := by decide +kernel
theorem dX5_visitorsAt_10 : decode cX5_visitorsAt 10 = .ok (.if_icmp .lt 7, 3) := by decide +kernel
theorem dX5_visitorsAt_13 : decode cX5_visitorsAt 13 = .ok (.iconst 0, 1) := by decide +kernel
theorem dX5_visitorsAt_14 : decode cX5_visitorsAt 14 = .ok (.goto 9, 3) := by decide +kernel
theorem dX5_visitorsAt_17 : decode cX5_visitorsAt 17 = .ok (.aload_n 0, 1) := by decide +kernel
theorem dX5_visitorsAt_18 : decode cX5_visitorsAt 18 = .ok (.getfield 28, 3) := by decide +kernel
theorem dX5_visitorsAt_21 : decode cX5_visitorsAt 21 = .ok (.iload_n 1, 1) := by decide +kernel
theorem dX5_visitorsAt_22 : decode cX5_visitorsAt 22 = .ok (.iaload, 1) := by decide +kernel
theorem dX5_visitorsAt_23 : decode cX5_visitorsAt 23 = .ok (.ireturn, 1) := by decide +kernel
theorem dX5_setPointOf_0 : decode cX5_setPointOf 0 = .ok (.aload_n 0, 1) := by decide +kernel
theorem dX5_setPointOf_1 : decode cX5_setPointOf 1 = .ok (.getfield 18, 3) := by decide +kernel
theorem dX5_setPointOf_4 : decode cX5_setPointOf 4 = .ok (.iconst 1, 1) := by decide +kernel
theorem dX5_setPointOf_5 : decode cX5_setPointOf 5 = .ok (.isub, 1) := by decide +kernel
theorem dX5_setPointOf_6 : decode cX5_setPointOf 6 = .ok (.istore_n 2, 1) := by decide +kernel
theorem dX5_setPointOf_7 : decode cX5_setPointOf 7 = .ok (.iload_n 2, 1) := by decide +kernel
theorem dX5_setPointOf_8 : decode cX5_setPointOf 8 = .ok (.ifCond .lt 9, 3) := by decide +kernel
theorem dX5_setPointOf_11 : decode cX5_setPointOf 11 = .ok (.iload_n 2, 1) := by decide +kernel
theorem dX5_setPointOf_12 : decode cX5_setPointOf 12 = .ok (.bipush 12, 2) := by decide +kernel
theorem dX5_setPointOf_14 : decode cX5_setPointOf 14 = .ok (.if_icmp .lt 7, 3) := by decide +kernel
theorem dX5_setPointOf_17 : decode cX5_setPointOf 17 = .ok (.sipush 500, 3) := by decide +kernel
theorem dX5_setPointOf_20 : decode cX5_setPointOf 20 = .ok (.ireturn, 1) := by decide +kernel
theorem dX5_setPointOf_21 : decode cX5_setPointOf 21 = .ok (.iload_n 2, 1) := by decide +kernel
theorem dX5_setPointOf_22 : decode cX5_setPointOf 22 = .ok (.istore_n 3, 1) := by decide +kernel
theorem dX5_setPointOf_23 : decode cX5_setPointOf 23 = .ok (.iconst 0, 1) := by decide +kernel
theorem dX5_setPointOf_24 : decode cX5_setPointOf 24 = .ok (.istore 4, 2) := by decide +kernel
theorem dX5_setPointOf_26 : decode cX5_setPointOf 26 = .ok (.iload 4, 2) := by decide +kernel
theorem dX5_setPointOf_28 : decode cX5_setPointOf 28 = .ok (.iload_n 2, 1) := by decide +kernel
theorem dX5_setPointOf_29 : decode cX5_setPointOf 29 = .ok (.if_icmp .gt 23, 3) := by decide +kernel
theorem dX5_setPointOf_32 : decode cX5_setPointOf 32 = .ok (.aload_n 0, 1) := by decide +kernel
theorem dX5_setPointOf_33 : decode cX5_setPointOf 33 = .ok (.getfield 21, 3) := by decide +kernel
theorem dX5_setPointOf_36 : decode cX5_setPointOf 36 = .ok (.iload 4, 2) := by decide +kernel
theorem dX5_setPointOf_38 : decode cX5_setPointOf 38 = .ok (.iaload, 1) := by decide +kernel
theorem dX5_setPointOf_39 : decode cX5_setPointOf 39 = .ok (.iload_n 1, 1) := by decide +kernel
theorem dX5_setPointOf_40 : decode cX5_setPointOf 40 = .ok (.if_icmp .gt 6, 3) := by decide +kernel
theorem dX5_setPointOf_43 : decode cX5_setPointOf 43 = .ok (.iload 4, 2) := by decide +kernel
theorem dX5_setPointOf_45 : decode cX5_setPointOf 45 = .ok (.istore_n 3, 1) := by decide +kernel
theorem dX5_setPointOf_46 : decode cX5_setPointOf 46 = .ok (.iinc 4 1, 3) := by decide +kernel
theorem dX5_setPointOf_49 : decode cX5_setPointOf 49 = .ok (.goto (-23), 3) := by decide +kernel
theorem dX5_setPointOf_52 : decode cX5_setPointOf 52 = .ok (.iload_n 3, 1) := by decide +kernel
theorem dX5_setPointOf_53 : decode cX5_setPointOf 53 = .ok (.iload_n 2, 1) := by decide +kernel
theorem dX5_setPointOf_54 : decode cX5_setPointOf 54 = .ok (.if_icmp .ne 7, 3) := by decide +kernel
theorem dX5_setPointOf_57 : decode cX5_setPointOf 57 = .ok (.iconst 0, 1) := by decide +kernel
theorem dX5_setPointOf_58 : decode cX5_setPointOf 58 = .ok (.goto 6, 3) := by decide +kernel
theorem dX5_setPointOf_61 : decode cX5_setPointOf 61 = .ok (.iload_n 3, 1) := by decide +kernel
theorem dX5_setPointOf_62 : decode cX5_setPointOf 62 = .ok (.iconst 1, 1) := by decide +kernel
theorem dX5_setPointOf_63 : decode cX5_setPointOf 63 = .ok (.iadd, 1) := by decide +kernel
theorem dX5_setPointOf_64 : decode cX5_setPointOf 64 = .ok (.istore 4, 2) := by decide +kernel
theorem dX5_setPointOf_66 : decode cX5_setPointOf 66 = .ok (.aload_n 0, 1) := by decide +kernel
theorem dX5_setPointOf_67 : decode cX5_setPointOf 67 = .ok (.getfield 21, 3) := by decide +kernel
theorem dX5_setPointOf_70 : decode cX5_setPointOf 70 = .ok (.iload 4, 2) := by decide +kernel
theorem dX5_setPointOf_72 : decode cX5_setPointOf 72 = .ok (.iaload, 1) := by decide +kernel
theorem dX5_setPointOf_73 : decode cX5_setPointOf 73 = .ok (.aload_n 0, 1) := by decide +kernel
theorem dX5_setPointOf_74 : decode cX5_setPointOf 74 = .ok (.getfield 21, 3) := by decide +kernel
theorem dX5_setPointOf_77 : decode cX5_setPointOf 77 = .ok (.iload_n 3, 1) := by decide +kernel
theorem dX5_setPointOf_78 : decode cX5_setPointOf 78 = .ok (.iaload, 1) := by decide +kernel
theorem dX5_setPointOf_79 : decode cX5_setPointOf 79 = .ok (.isub, 1) := by decide +kernel
theorem dX5_setPointOf_80 : decode cX5_setPointOf 80 = .ok (.iload_n 3, 1) := by decide +kernel
theorem dX5_setPointOf_81 : decode cX5_setPointOf 81 = .ok (.iload_n 2, 1) := by decide +kernel
theorem dX5_setPointOf_82 : decode cX5_setPointOf 82 = .ok (.if_icmp .ne 9, 3) := by decide +kernel
theorem dX5_setPointOf_85 : decode cX5_setPointOf 85 = .ok (.sipush 365, 3) := by decide +kernel
theorem dX5_setPointOf_88 : decode cX5_setPointOf 88 = .ok (.goto 4, 3) := by decide +kernel
theorem dX5_setPointOf_91 : decode cX5_setPointOf 91 = .ok (.iconst 0, 1) := by decide +kernel
theorem dX5_setPointOf_92 : decode cX5_setPointOf 92 = .ok (.iadd, 1) := by decide +kernel
theorem dX5_setPointOf_93 : decode cX5_setPointOf 93 = .ok (.istore 5, 2) := by decide +kernel
theorem dX5_setPointOf_95 : decode cX5_setPointOf 95 = .ok (.iload_n 1, 1) := by decide +kernel
theorem dX5_setPointOf_96 : decode cX5_setPointOf 96 = .ok (.aload_n 0, 1) := by decide +kernel
theorem dX5_setPointOf_97 : decode cX5_setPointOf 97 = .ok (.getfield 21, 3) := by decide +kernel
theorem dX5_setPointOf_100 : decode cX5_setPointOf 100 = .ok (.iload_n 3, 1) := by decide +kernel
theorem dX5_setPointOf_101 : decode cX5_setPointOf 101 = .ok (.iaload, 1) := by decide +kernel
theorem dX5_setPointOf_102 : decode cX5_setPointOf 102 = .ok (.isub, 1) := by decide +kernel
theorem dX5_setPointOf_103 : decode cX5_setPointOf 103 = .ok (.iload_n 1, 1) := by decide +kernel
theorem dX5_setPointOf_104 : decode cX5_setPointOf 104 = .ok (.aload_n 0, 1) := by decide +kernel
theorem dX5_setPointOf_105 : decode cX5_setPointOf 105 = .ok (.getfield 21, 3) := by decide +kernel
theorem dX5_setPointOf_108 : decode cX5_setPointOf 108 = .ok (.iload_n 3, 1) := by decide +kernel
theorem dX5_setPointOf_109 : decode cX5_setPointOf 109 = .ok (.iaload, 1) := by decide +kernel
theorem dX5_setPointOf_110 : decode cX5_setPointOf 110 = .ok (.if_icmp .ge 9, 3) := by decide +kernel
theorem dX5_setPointOf_113 : decode cX5_setPointOf 113 = .ok (.sipush 365, 3) := by decide +kernel
theorem dX5_setPointOf_116 : decode cX5_setPointOf 116 = .ok (.goto 4, 3) := by decide +kernel
theorem dX5_setPointOf_119 : decode cX5_setPointOf 119 = .ok (.iconst 0, 1) := by decide +kernel
theorem dX5_setPointOf_120 : decode cX5_setPointOf 120 = .ok (.iadd, 1) := by decide +kernel
theorem dX5_setPointOf_121 : decode cX5_setPointOf 121 = .ok (.istore 6, 2) := by decide +kernel
theorem dX5_setPointOf_123 : decode cX5_setPointOf 123 = .ok (.aload_n 0, 1) := by decide +kernel
theorem dX5_setPointOf_124 : decode cX5_setPointOf 124 = .ok (.getfield 25, 3) := by decide +kernel
theorem dX5_setPointOf_127 : decode cX5_setPointOf 127 = .ok (.iload_n 3, 1) := by decide +kernel
theorem dX5_setPointOf_128 : decode cX5_setPointOf 128 = .ok (.iaload, 1) := by decide +kernel
theorem dX5_setPointOf_129 : decode cX5_setPointOf 129 = .ok (.aload_n 0, 1) := by decide +kernel
theorem dX5_setPointOf_130 : decode cX5_setPointOf 130 = .ok (.getfield 25, 3) := by decide +kernel
theorem dX5_setPointOf_133 : decode cX5_setPointOf 133 = .ok (.iload 4, 2) := by decide +kernel
theorem dX5_setPointOf_135 : decode cX5_setPointOf 135 = .ok (.iaload, 1) := by decide +kernel
theorem dX5_setPointOf_136 : decode cX5_setPointOf 136 = .ok (.iload 6, 2) := by decide +kernel
theorem dX5_setPointOf_138 : decode cX5_setPointOf 138 = .ok (.iload 5, 2) := by decide +kernel
theorem dX5_setPointOf_140 : decode cX5_setPointOf 140 = .ok (.invokestatic 54, 3) := by decide +kernel
theorem dX5_setPointOf_143 : decode cX5_setPointOf 143 = .ok (.ireturn, 1) := by decide +kernel
theorem dX6_init_0 : decode cX6_init 0 = .ok (.aload_n 0, 1) := by decide +kernel
theorem dX6_init_1 : decode cX6_init 1 = .ok (.invokespecial 3, 3) := by decide +kernel
theorem dX6_init_4 : decode cX6_init 4 = .ok (.aload_n 0, 1) := by decide +kernel
theorem dX6_init_5 : decode cX6_init 5 = .ok (.new 9, 3) := by decide +kernel
theorem dX6_init_8 : decode cX6_init 8 = .ok (.dup, 1) := by decide +kernel
theorem dX6_init_9 : decode cX6_init 9 = .ok (.invokespecial 11, 3) := by decide +kernel
theorem dX6_init_12 : decode cX6_init 12 = .ok (.putfield 12, 3) := by decide +kernel
theorem dX6_init_15 : decode cX6_init 15 = .ok (.aload_n 0, 1) := by decide +kernel
theorem dX6_init_16 : decode cX6_init 16 = .ok (.iconst 0, 1) := by decide +kernel
theorem dX6_init_17 : decode cX6_init 17 = .ok (.putfield 18, 3) := by decide +kernel
theorem dX6_init_20 : decode cX6_init 20 = .ok (.aload_n 0, 1) := by decide +kernel
theorem dX6_init_21 : decode cX6_init 21 = .ok (.iconst 0, 1) := by decide +kernel
theorem dX6_init_22 : decode cX6_init 22 = .ok (.putfield 22, 3) := by decide +kernel
theorem dX6_init_25 : decode cX6_init 25 = .ok (.aload_n 0, 1) := by decide +kernel
theorem dX6_init_26 : decode cX6_init 26 = .ok (.bipush 6, 2) := by decide +kernel
theorem dX6_init_28 : decode cX6_init 28 = .ok (.anewarray 25, 3) := by decide +kernel
theorem dX6_init_31 : decode cX6_init 31 = .ok (.putfield 27, 3) := by decide +kernel
theorem dX6_init_34 : decode cX6_init 34 = .ok (.aload_n 0, 1) := by decide +kernel
theorem dX6_init_35 : decode cX6_init 35 = .ok (.bipush 6, 2) := by decide +kernel
theorem dX6_init_37 : decode cX6_init 37 = .ok (.anewarray 31, 3) := by decide +kernel
theorem dX6_init_40 : decode cX6_init 40 = .ok (.putfield 33, 3) := by decide +kernel
theorem dX6_init_43 : decode cX6_init 43 = .ok (.iconst 0, 1) := by decide +kernel
theorem dX6_init_44 : decode cX6_init 44 = .ok (.istore_n 1, 1) := by decide +kernel
theorem dX6_init_45 : decode cX6_init 45 = .ok (.iload_n 1, 1) := by decide +kernel
theorem dX6_init_46 : decode cX6_init 46 = .ok (.bipush 6, 2) := by decide +kernel
theorem dX6_init_48 : decode cX6_init 48 = .ok (.if_icmp .ge 35, 3) := by decide +kernel
theorem dX6_init_51 : decode cX6_init 51 = .ok (.aload_n 0, 1) := by decide +kernel
theorem dX6_init_52 : decode cX6_init 52 = .ok (.getfield 27, 3) := by decide +kernel
theorem dX6_init_55 : decode cX6_init 55 = .ok (.iload_n 1, 1) := by decide +kernel
theorem dX6_init_56 : decode cX6_init 56 = .ok (.new 25, 3) := by decide +kernel
theorem dX6_init_59 : decode cX6_init 59 = .ok (.dup, 1) := by decide +kernel
theorem dX6_init_60 : decode cX6_init 60 = .ok (.invokespecial 37, 3) := by decide +kernel
theorem dX6_init_63 : decode cX6_init 63 = .ok (.aastore, 1) := by decide +kernel
theorem dX6_init_64 : decode cX6_init 64 = .ok (.aload_n 0, 1) := by decide +kernel
theorem dX6_init_65 : decode cX6_init 65 = .ok (.getfield 33, 3) := by decide +kernel
theorem dX6_init_68 : decode cX6_init 68 = .ok (.iload_n 1, 1) := by decide +kernel
theorem dX6_init_69 : decode cX6_init 69 = .ok (.new 31, 3) := by decide +kernel
theorem dX6_init_72 : decode cX6_init 72 = .ok (.dup, 1) := by decide +kernel
theorem dX6_init_73 : decode cX6_init 73 = .ok (.invokespecial 38, 3) := by decide +kernel
theorem dX6_init_76 : decode cX6_init 76 = .ok (.aastore, 1) := by decide +kernel
theorem dX6_init_77 : decode cX6_init 77 = .ok (.iinc 1 1, 3) := by decide +kernel
theorem dX6_init_80 : decode cX6_init 80 = .ok (.goto (-35), 3) := by decide +kernel
theorem dX6_init_83 : decode cX6_init 83 = .ok (.return_, 1) := by decide +kernel
theorem dX6_begin_0 : decode cX6_begin 0 = .ok (.aload_n 0, 1) := by decide +kernel
theorem dX6_begin_1 : decode cX6_begin 1 = .ok (.getfield 12, 3) := by decide +kernel
theorem dX6_begin_4 : decode cX6_begin 4 = .ok (.invokevirtual 39, 3) := by decide +kernel
theorem dX6_begin_7 : decode cX6_begin 7 = .ok (.aload_n 0, 1) := by decide +kernel
theorem dX6_begin_8 : decode cX6_begin 8 = .ok (.aload_n 1, 1) := by decide +kernel
theorem dX6_begin_9 : decode cX6_begin 9 = .ok (.getfield 42, 3) := by decide +kernel
theorem dX6_begin_12 : decode cX6_begin 12 = .ok (.putfield 18, 3) := by decide +kernel
theorem dX6_begin_15 : decode cX6_begin 15 = .ok (.aload_n 0, 1) := by decide +kernel
theorem dX6_begin_16 : decode cX6_begin 16 = .ok (.aload_n 1, 1) := by decide +kernel
theorem dX6_begin_17 : decode cX6_begin 17 = .ok (.getfield 47, 3) := by decide +kernel
theorem dX6_begin_20 : decode cX6_begin 20 = .ok (.putfield 22, 3) := by decide +kernel
theorem dX6_begin_23 : decode cX6_begin 23 = .ok (.iconst 0, 1) := by decide +kernel
theorem dX6_begin_24 : decode cX6_begin 24 = .ok (.istore_n 2, 1) := by decide +kernel
theorem dX6_begin_25 : decode cX6_begin 25 = .ok (.iload_n 2, 1) := by decide +kernel
theorem dX6_begin_26 : decode cX6_begin 26 = .ok (.aload_n 0, 1) := by decide +kernel
theorem dX6_begin_27 : decode cX6_begin 27 = .ok (.getfield 22, 3) := by decide +kernel
theorem dX6_begin_30 : decode cX6_begin 30 = .ok (.if_icmp .ge 48, 3) := by decide +kernel
theorem dX6_begin_33 : decode cX6_begin 33 = .ok (.iload_n 2, 1) := by decide +kernel
theorem dX6_begin_34 : decode cX6_begin 34 = .ok (.bipush 6, 2) := by decide +kernel
theorem dX6_begin_36 : decode cX6_begin 36 = .ok (.if_icmp .ge 42, 3) := by decide +kernel
theorem dX6_begin_39 : decode cX6_begin 39 = .ok (.aload_n 0, 1) := by decide +kernel
theorem dX6_begin_40 : decode cX6_begin 40 = .ok (.getfield 27, 3) := by decide +kernel
theorem dX6_begin_43 : decode cX6_begin 43 = .ok (.iload_n 2, 1) := by decide +kernel
theorem dX6_begin_44 : decode cX6_begin 44 = .ok (.aaload, 1) := by decide +kernel
theorem dX6_begin_45 : decode cX6_begin 45 = .ok (.aload_n 1, 1) := by decide +kernel
theorem dX6_begin_46 : decode cX6_begin 46 = .ok (.getfield 48, 3) := by decide +kernel
theorem dX6_begin_49 : decode cX6_begin 49 = .ok (.iload_n 2, 1) := by decide +kernel
theorem dX6_begin_50 : decode cX6_begin 50 = .ok (.aaload, 1) := by decide +kernel
theorem dX6_begin_51 : decode cX6_begin 51 = .ok (.invokevirtual 49, 3) := by decide +kernel
theorem dX6_begin_54 : decode cX6_begin 54 = .ok (.aload_n 0, 1) := by decide +kernel
theorem dX6_begin_55 : decode cX6_begin 55 = .ok (.getfield 33, 3) := by decide +kernel
theorem dX6_begin_58 : decode cX6_begin 58 = .ok (.iload_n 2, 1) := by decide +kernel
theorem dX6_begin_59 : decode cX6_begin 59 = .ok (.aaload, 1) := by decide +kernel
theorem dX6_begin_60 : decode cX6_begin 60 = .ok (.aload_n 0, 1) := by decide +kernel
theorem dX6_begin_61 : decode cX6_begin 61 = .ok (.getfield 27, 3) := by decide +kernel
theorem dX6_begin_64 : decode cX6_begin 64 = .ok (.iload_n 2, 1) := by decide +kernel
theorem dX6_begin_65 : decode cX6_begin 65 = .ok (.aaload, 1) := by decide +kernel
theorem dX6_begin_66 : decode cX6_begin 66 = .ok (.invokevirtual 53, 3) := by decide +kernel
theorem dX6_begin_69 : decode cX6_begin 69 = .ok (.invokevirtual 57, 3) := by decide +kernel
theorem dX6_begin_72 : decode cX6_begin 72 = .ok (.iinc 2 1, 3) := by decide +kernel
theorem dX6_begin_75 : decode cX6_begin 75 = .ok (.goto (-50), 3) := by decide +kernel
theorem dX6_begin_78 : decode cX6_begin 78 = .ok (.return_, 1) := by decide +kernel
theorem dX6_copyFrom_0 : decode cX6_copyFrom 0 = .ok (.aload_n 0, 1) := by decide +kernel
theorem dX6_copyFrom_1 : decode cX6_copyFrom 1 = .ok (.getfield 12, 3) := by decide +kernel
theorem dX6_copyFrom_4 : decode cX6_copyFrom 4 = .ok (.aload_n 1, 1) := by decide +kernel
theorem dX6_copyFrom_5 : decode cX6_copyFrom 5 = .ok (.getfield 12, 3) := by decide +kernel
theorem dX6_copyFrom_8 : decode cX6_copyFrom 8 = .ok (.invokevirtual 60, 3) := by decide +kernel
theorem dX6_copyFrom_11 : decode cX6_copyFrom 11 = .ok (.aload_n 0, 1) := by decide +kernel
theorem dX6_copyFrom_12 : decode cX6_copyFrom 12 = .ok (.aload_n 1, 1) := by decide +kernel
theorem dX6_copyFrom_13 : decode cX6_copyFrom 13 = .ok (.getfield 18, 3) := by decide +kernel
theorem dX6_copyFrom_16 : decode cX6_copyFrom 16 = .ok (.putfield 18, 3) := by decide +kernel
theorem dX6_copyFrom_19 : decode cX6_copyFrom 19 = .ok (.aload_n 0, 1) := by decide +kernel
theorem dX6_copyFrom_20 : decode cX6_copyFrom 20 = .ok (.aload_n 1, 1) := by decide +kernel
theorem dX6_copyFrom_21 : decode cX6_copyFrom 21 = .ok (.getfield 22, 3) := by decide +kernel
theorem dX6_copyFrom_24 : decode cX6_copyFrom 24 = .ok (.putfield 22, 3) := by decide +kernel
theorem dX6_copyFrom_27 : decode cX6_copyFrom 27 = .ok (.iconst 0, 1) := by decide +kernel
theorem dX6_copyFrom_28 : decode cX6_copyFrom 28 = .ok (.istore_n 2, 1) := by decide +kernel
theorem dX6_copyFrom_29 : decode cX6_copyFrom 29 = .ok (.iload_n 2, 1) := by decide +kernel
theorem dX6_copyFrom_30 : decode cX6_copyFrom 30 = .ok (.aload_n 0, 1) := by decide +kernel
theorem dX6_copyFrom_31 : decode cX6_copyFrom 31 = .ok (.getfield 22, 3) := by decide +kernel
theorem dX6_copyFrom_34 : decode cX6_copyFrom 34 = .ok (.if_icmp .ge 45, 3) := by decide +kernel
theorem dX6_copyFrom_37 : decode cX6_copyFrom 37 = .ok (.iload_n 2, 1) := by decide +kernel
theorem dX6_copyFrom_38 : decode cX6_copyFrom 38 = .ok (.bipush 6, 2) := by decide +kernel
theorem dX6_copyFrom_40 : decode cX6_copyFrom 40 = .ok (.if_icmp .ge 39, 3) := by decide +kernel
theorem dX6_copyFrom_43 : decode cX6_copyFrom 43 = .ok (.aload_n 0, 1) := by decide +kernel
theorem dX6_copyFrom_44 : decode cX6_copyFrom 44 = .ok (.getfield 27, 3) := by decide +kernel
theorem dX6_copyFrom_47 : decode cX6_copyFrom 47 = .ok (.iload_n 2, 1) := by decide +kernel
theorem dX6_copyFrom_48 : decode cX6_copyFrom 48 = .ok (.aaload, 1) := by decide +kernel
theorem dX6_copyFrom_49 : decode cX6_copyFrom 49 = .ok (.aload_n 1, 1) := by decide +kernel
theorem dX6_copyFrom_50 : decode cX6_copyFrom 50 = .ok (.getfield 27, 3) := by decide +kernel
theorem dX6_copyFrom_53 : decode cX6_copyFrom 53 = .ok (.iload_n 2, 1) := by decide +kernel
theorem dX6_copyFrom_54 : decode cX6_copyFrom 54 = .ok (.aaload, 1) := by decide +kernel
theorem dX6_copyFrom_55 : decode cX6_copyFrom 55 = .ok (.invokevirtual 49, 3) := by decide +kernel
theorem dX6_copyFrom_58 : decode cX6_copyFrom 58 = .ok (.aload_n 0, 1) := by decide +kernel
theorem dX6_copyFrom_59 : decode cX6_copyFrom 59 = .ok (.getfield 33, 3) := by decide +kernel
theorem dX6_copyFrom_62 : decode cX6_copyFrom 62 = .ok (.iload_n 2, 1) := by decide +kernel
theorem dX6_copyFrom_63 : decode cX6_copyFrom 63 = .ok (.aaload, 1) := by decide +kernel
theorem dX6_copyFrom_64 : decode cX6_copyFrom 64 = .ok (.aload_n 1, 1) := by decide +kernel
theorem dX6_copyFrom_65 : decode cX6_copyFrom 65 = .ok (.getfield 33, 3) := by decide +kernel
theorem dX6_copyFrom_68 : decode cX6_copyFrom 68 = .ok (.iload_n 2, 1) := by decide +kernel
theorem dX6_copyFrom_69 : decode cX6_copyFrom 69 = .ok (.aaload, 1) := by decide +kernel
theorem dX6_copyFrom_70 : decode cX6_copyFrom 70 = .ok (.invokevirtual 63, 3) := by decide +kernel
theorem dX6_copyFrom_73 : decode cX6_copyFrom 73 = .ok (.iinc 2 1, 3) := by decide +kernel
theorem dX6_copyFrom_76 : decode cX6_copyFrom 76 = .ok (.goto (-47), 3) := by decide +kernel
theorem dX6_copyFrom_79 : decode cX6_copyFrom 79 = .ok (.return_, 1) := by decide +kernel
theorem dX6_takeSerial_0 : decode cX6_takeSerial 0 = .ok (.aload_n 0, 1) := by decide +kernel
theorem dX6_takeSerial_1 : decode cX6_takeSerial 1 = .ok (.dup, 1) := by decide +kernel
theorem dX6_takeSerial_2 : decode cX6_takeSerial 2 = .ok (.getfield 18, 3) := by decide +kernel
theorem dX6_takeSerial_5 : decode cX6_takeSerial 5 = .ok (.dup_x1, 1) := by decide +kernel
theorem dX6_takeSerial_6 : decode cX6_takeSerial 6 = .ok (.iconst 1, 1) := by decide +kernel
theorem dX6_takeSerial_7 : decode cX6_takeSerial 7 = .ok (.iadd, 1) := by decide +kernel
theorem dX6_takeSerial_8 : decode cX6_takeSerial 8 = .ok (.putfield 18, 3) := by decide +kernel
theorem dX6_takeSerial_11 : decode cX6_takeSerial 11 = .ok (.ireturn, 1) := by decide +kernel
theorem dX6_cassettesInAll_0 : decode cX6_cassettesInAll 0 = .ok (.iconst 0, 1) := by decide +kernel
theorem dX6_cassettesInAll_1 : decode cX6_cassettesInAll 1 = .ok (.istore_n 1, 1) := by decide +kernel
theorem dX6_cassettesInAll_2 : decode cX6_cassettesInAll 2 = .ok (.iconst 0, 1) := by decide +kernel
theorem dX6_cassettesInAll_3 : decode cX6_cassettesInAll 3 = .ok (.istore_n 2, 1) := by decide +kernel
theorem dX6_cassettesInAll_4 : decode cX6_cassettesInAll 4 = .ok (.iload_n 2, 1) := by decide +kernel
theorem dX6_cassettesInAll_5 : decode cX6_cassettesInAll 5 = .ok (.aload_n 0, 1) := by decide +kernel
theorem dX6_cassettesInAll_6 : decode cX6_cassettesInAll 6 = .ok (.getfield 22, 3) := by decide +kernel
theorem dX6_cassettesInAll_9 : decode cX6_cassettesInAll 9 = .ok (.if_icmp .ge 27, 3) := by decide +kernel
theorem dX6_cassettesInAll_12 : decode cX6_cassettesInAll 12 = .ok (.iload_n 2, 1) := by decide +kernel
theorem dX6_cassettesInAll_13 : decode cX6_cassettesInAll 13 = .ok (.bipush 6, 2) := by decide +kernel
theorem dX6_cassettesInAll_15 : decode cX6_cassettesInAll 15 = .ok (.if_icmp .ge 21, 3) := by decide +kernel
theorem dX6_cassettesInAll_18 : decode cX6_cassettesInAll 18 = .ok (.iload_n 1, 1) := by decide +kernel
theorem dX6_cassettesInAll_19 : decode cX6_cassettesInAll 19 = .ok (.aload_n 0, 1) := by decide +kernel
theorem dX6_cassettesInAll_20 : decode cX6_cassettesInAll 20 = .ok (.getfield 27, 3) := by decide +kernel
theorem dX6_cassettesInAll_23 : decode cX6_cassettesInAll 23 = .ok (.iload_n 2, 1) := by decide +kernel
theorem dX6_cassettesInAll_24 : decode cX6_cassettesInAll 24 = .ok (.aaload, 1) := by decide +kernel
theorem dX6_cassettesInAll_25 : decode cX6_cassettesInAll 25 = .ok (.getfield 66, 3) := by decide +kernel
theorem dX6_cassettesInAll_28 : decode cX6_cassettesInAll 28 = .ok (.iadd, 1) := by decide +kernel
theorem dX6_cassettesInAll_29 : decode cX6_cassettesInAll 29 = .ok (.istore_n 1, 1) := by decide +kernel
theorem dX6_cassettesInAll_30 : decode cX6_cassettesInAll 30 = .ok (.iinc 2 1, 3) := by decide +kernel
theorem dX6_cassettesInAll_33 : decode cX6_cassettesInAll 33 = .ok (.goto (-29), 3) := by decide +kernel
theorem dX6_cassettesInAll_36 : decode cX6_cassettesInAll 36 = .ok (.iload_n 1, 1) := by decide +kernel
theorem dX6_cassettesInAll_37 : decode cX6_cassettesInAll 37 = .ok (.ireturn, 1) := by decide +kernel
theorem dX6_holderOf_0 : decode cX6_holderOf 0 = .ok (.iconst 0, 1) := by decide +kernel
theorem dX6_holderOf_1 : decode cX6_holderOf 1 = .ok (.istore_n 2, 1) := by decide +kernel
theorem dX6_holderOf_2 : decode cX6_holderOf 2 = .ok (.iload_n 2, 1) := by decide +kernel
theorem dX6_holderOf_3 : decode cX6_holderOf 3 = .ok (.aload_n 0, 1) := by decide +kernel
theorem dX6_holderOf_4 : decode cX6_holderOf 4 = .ok (.getfield 22, 3) := by decide +kernel
theorem dX6_holderOf_7 : decode cX6_holderOf 7 = .ok (.if_icmp .ge 31, 3) := by decide +kernel
theorem dX6_holderOf_10 : decode cX6_holderOf 10 = .ok (.iload_n 2, 1) := by decide +kernel
theorem dX6_holderOf_11 : decode cX6_holderOf 11 = .ok (.bipush 6, 2) := by decide +kernel
theorem dX6_holderOf_13 : decode cX6_holderOf 13 = .ok (.if_icmp .ge 25, 3) := by decide +kernel
theorem dX6_holderOf_16 : decode cX6_holderOf 16 = .ok (.aload_n 0, 1) := by decide +kernel
theorem dX6_holderOf_17 : decode cX6_holderOf 17 = .ok (.getfield 27, 3) := by decide +kernel
theorem dX6_holderOf_20 : decode cX6_holderOf 20 = .ok (.iload_n 2, 1) := by decide +kernel
theorem dX6_holderOf_21 : decode cX6_holderOf 21 = .ok (.aaload, 1) := by decide +kernel
theorem dX6_holderOf_22 : decode cX6_holderOf 22 = .ok (.iload_n 1, 1) := by decide +kernel
theorem dX6_holderOf_23 : decode cX6_holderOf 23 = .ok (.invokevirtual 69, 3) := by decide +kernel
theorem dX6_holderOf_26 : decode cX6_holderOf 26 = .ok (.iconst (-1), 1) := by decide +kernel
theorem dX6_holderOf_27 : decode cX6_holderOf 27 = .ok (.if_icmp .eq 5, 3) := by decide +kernel
theorem dX6_holderOf_30 : decode cX6_holderOf 30 = .ok (.iload_n 2, 1) := by decide +kernel
theorem dX6_holderOf_31 : decode cX6_holderOf 31 = .ok (.ireturn, 1) := by decide +kernel
theorem dX6_holderOf_32 : decode cX6_holderOf 32 = .ok (.iinc 2 1, 3) := by decide +kernel
theorem dX6_holderOf_35 : decode cX6_holderOf 35 = .ok (.goto (-33), 3) := by decide +kernel
theorem dX6_holderOf_38 : decode cX6_holderOf 38 = .ok (.iconst (-1), 1) := by decide +kernel
theorem dX6_holderOf_39 : decode cX6_holderOf 39 = .ok (.ireturn, 1) := by decide +kernel
theorem dX6_passHour_0 : decode cX6_passHour 0 = .ok (.iconst 0, 1) := by decide +kernel
theorem dX6_passHour_1 : decode cX6_passHour 1 = .ok (.istore_n 2, 1) := by decide +kernel
theorem dX6_passHour_2 : decode cX6_passHour 2 = .ok (.aload_n 0, 1) := by decide +kernel
theorem dX6_passHour_3 : decode cX6_passHour 3 = .ok (.getfield 12, 3) := by decide +kernel
theorem dX6_passHour_6 : decode cX6_passHour 6 = .ok (.getfield 73, 3) := by decide +kernel
theorem dX6_passHour_9 : decode cX6_passHour 9 = .ok (.istore_n 3, 1) := by decide +kernel
theorem dX6_passHour_10 : decode cX6_passHour 10 = .ok (.aload_n 0, 1) := by decide +kernel
theorem dX6_passHour_11 : decode cX6_passHour 11 = .ok (.getfield 12, 3) := by decide +kernel
theorem dX6_passHour_14 : decode cX6_passHour 14 = .ok (.aload_n 1, 1) := by decide +kernel
theorem dX6_passHour_15 : decode cX6_passHour 15 = .ok (.invokevirtual 76, 3) := by decide +kernel
theorem dX6_passHour_18 : decode cX6_passHour 18 = .ok (.istore 4, 2) := by decide +kernel
theorem dX6_passHour_20 : decode cX6_passHour 20 = .ok (.iconst 0, 1) := by decide +kernel
theorem dX6_passHour_21 : decode cX6_passHour 21 = .ok (.istore 5, 2) := by decide +kernel
theorem dX6_passHour_23 : decode cX6_passHour 23 = .ok (.iload 5, 2) := by decide +kernel
theorem dX6_passHour_25 : decode cX6_passHour 25 = .ok (.aload_n 0, 1) := by decide +kernel
theorem dX6_passHour_26 : decode cX6_passHour 26 = .ok (.getfield 22, 3) := by decide +kernel
theorem dX6_passHour_29 : decode cX6_passHour 29 = .ok (.if_icmp .ge 86, 3) := by decide +kernel
theorem dX6_passHour_32 : decode cX6_passHour 32 = .ok (.iload 5, 2) := by decide +kernel
theorem dX6_passHour_34 : decode cX6_passHour 34 = .ok (.bipush 6, 2) := by decide +kernel
theorem dX6_passHour_36 : decode cX6_passHour 36 = .ok (.if_icmp .ge 79, 3) := by decide +kernel
theorem dX6_passHour_39 : decode cX6_passHour 39 = .ok (.aload_n 0, 1) := by decide +kernel
theorem dX6_passHour_40 : decode cX6_passHour 40 = .ok (.getfield 27, 3) := by decide +kernel
theorem dX6_passHour_43 : decode cX6_passHour 43 = .ok (.iload 5, 2) := by decide +kernel
theorem dX6_passHour_45 : decode cX6_passHour 45 = .ok (.aaload, 1) := by decide +kernel
theorem dX6_passHour_46 : decode cX6_passHour 46 = .ok (.astore 6, 2) := by decide +kernel
theorem dX6_passHour_48 : decode cX6_passHour 48 = .ok (.aload_n 0, 1) := by decide +kernel
theorem dX6_passHour_49 : decode cX6_passHour 49 = .ok (.getfield 33, 3) := by decide +kernel
theorem dX6_passHour_52 : decode cX6_passHour 52 = .ok (.iload 5, 2) := by decide +kernel
theorem dX6_passHour_54 : decode cX6_passHour 54 = .ok (.aaload, 1) := by decide +kernel
theorem dX6_passHour_55 : decode cX6_passHour 55 = .ok (.dup, 1) := by decide +kernel
theorem dX6_passHour_56 : decode cX6_passHour 56 = .ok (.getfield 80, 3) := by decide +kernel
theorem dX6_passHour_59 : decode cX6_passHour 59 = .ok (.aload 6, 2) := by decide +kernel
theorem dX6_passHour_61 : decode cX6_passHour 61 = .ok (.iload 4, 2) := by decide +kernel
theorem dX6_passHour_63 : decode cX6_passHour 63 = .ok (.invokevirtual 84, 3) := by decide +kernel
theorem dX6_passHour_66 : decode cX6_passHour 66 = .ok (.i2l, 1) := by decide +kernel
theorem dX6_passHour_67 : decode cX6_passHour 67 = .ok (.ladd, 1) := by decide +kernel
theorem dX6_passHour_68 : decode cX6_passHour 68 = .ok (.putfield 80, 3) := by decide +kernel
theorem dX6_passHour_71 : decode cX6_passHour 71 = .ok (.aload 6, 2) := by decide +kernel
theorem dX6_passHour_73 : decode cX6_passHour 73 = .ok (.invokevirtual 86, 3) := by decide +kernel
theorem dX6_passHour_76 : decode cX6_passHour 76 = .ok (.istore 7, 2) := by decide +kernel
theorem dX6_passHour_78 : decode cX6_passHour 78 = .ok (.aload_n 0, 1) := by decide +kernel
theorem dX6_passHour_79 : decode cX6_passHour 79 = .ok (.getfield 33, 3) := by decide +kernel
theorem dX6_passHour_82 : decode cX6_passHour 82 = .ok (.iload 5, 2) := by decide +kernel
theorem dX6_passHour_84 : decode cX6_passHour 84 = .ok (.aaload, 1) := by decide +kernel
theorem dX6_passHour_85 : decode cX6_passHour 85 = .ok (.iload_n 3, 1) := by decide +kernel
theorem dX6_passHour_86 : decode cX6_passHour 86 = .ok (.aload 6, 2) := by decide +kernel
theorem dX6_passHour_88 : decode cX6_passHour 88 = .ok (.invokevirtual 90, 3) := by decide +kernel
theorem dX6_passHour_91 : decode cX6_passHour 91 = .ok (.iload 7, 2) := by decide +kernel
theorem dX6_passHour_93 : decode cX6_passHour 93 = .ok (.invokevirtual 93, 3) := by decide +kernel
theorem dX6_passHour_96 : decode cX6_passHour 96 = .ok (.iload_n 2, 1) := by decide +kernel
theorem dX6_passHour_97 : decode cX6_passHour 97 = .ok (.iload 7, 2) := by decide +kernel
theorem dX6_passHour_99 : decode cX6_passHour 99 = .ok (.ifCond .eq 7, 3) := by decide +kernel
theorem dX6_passHour_102 : decode cX6_passHour 102 = .ok (.iconst 1, 1) := by decide +kernel
theorem dX6_passHour_103 : decode cX6_passHour 103 = .ok (.goto 4, 3) := by decide +kernel
theorem dX6_passHour_106 : decode cX6_passHour 106 = .ok (.iconst 0, 1) := by decide +kernel
theorem dX6_passHour_107 : decode cX6_passHour 107 = .ok (.iadd, 1) := by decide +kernel
theorem dX6_passHour_108 : decode cX6_passHour 108 = .ok (.istore_n 2, 1) := by decide +kernel
theorem dX6_passHour_109 : decode cX6_passHour 109 = .ok (.iinc 5 1, 3) := by decide +kernel
theorem dX6_passHour_112 : decode cX6_passHour 112 = .ok (.goto (-89), 3) := by decide +kernel
theorem dX6_passHour_115 : decode cX6_passHour 115 = .ok (.iload_n 2, 1) := by decide +kernel
theorem dX6_passHour_116 : decode cX6_passHour 116 = .ok (.ireturn, 1) := by decide +kernel
theorem dX7_init_0 : decode cX7_init 0 = .ok (.aload_n 0, 1) := by decide +kernel
theorem dX7_init_1 : decode cX7_init 1 = .ok (.invokespecial 3, 3) := by decide +kernel
theorem dX7_init_4 : decode cX7_init 4 = .ok (.aload_n 0, 1) := by decide +kernel
theorem dX7_init_5 : decode cX7_init 5 = .ok (.iconst 0, 1) := by decide +kernel
theorem dX7_init_6 : decode cX7_init 6 = .ok (.putfield 9, 3) := by decide +kernel
theorem dX7_init_9 : decode cX7_init 9 = .ok (.aload_n 0, 1) := by decide +kernel
theorem dX7_init_10 : decode cX7_init 10 = .ok (.iconst 0, 1) := by decide +kernel
theorem dX7_init_11 : decode cX7_init 11 = .ok (.putfield 15, 3) := by decide +kernel
theorem dX7_init_14 : decode cX7_init 14 = .ok (.aload_n 0, 1) := by decide +kernel
theorem dX7_init_15 : decode cX7_init 15 = .ok (.iconst 0, 1) := by decide +kernel
theorem dX7_init_16 : decode cX7_init 16 = .ok (.putfield 18, 3) := by decide +kernel
theorem dX7_init_19 : decode cX7_init 19 = .ok (.aload_n 0, 1) := by decide +kernel
theorem dX7_init_20 : decode cX7_init 20 = .ok (.sipush 1000, 3) := by decide +kernel
theorem dX7_init_23 : decode cX7_init 23 = .ok (.putfield 21, 3) := by decide +kernel
theorem dX7_init_26 : decode cX7_init 26 = .ok (.aload_n 0, 1) := by decide +kernel
theorem dX7_init_27 : decode cX7_init 27 = .ok (.iconst 0, 1) := by decide +kernel
theorem dX7_init_28 : decode cX7_init 28 = .ok (.putfield 24, 3) := by decide +kernel
theorem dX7_init_31 : decode cX7_init 31 = .ok (.aload_n 0, 1) := by decide +kernel
theorem dX7_init_32 : decode cX7_init 32 = .ok (.iconst 0, 1) := by decide +kernel
theorem dX7_init_33 : decode cX7_init 33 = .ok (.putfield 27, 3) := by decide +kernel
theorem dX7_init_36 : decode cX7_init 36 = .ok (.aload_n 0, 1) := by decide +kernel
theorem dX7_init_37 : decode cX7_init 37 = .ok (.bipush 6, 2) := by decide +kernel
theorem dX7_init_39 : decode cX7_init 39 = .ok (.anewarray 30, 3) := by decide +kernel
theorem dX7_init_42 : decode cX7_init 42 = .ok (.putfield 32, 3) := by decide +kernel
theorem dX7_init_45 : decode cX7_init 45 = .ok (.iconst 0, 1) := by decide +kernel
theorem dX7_init_46 : decode cX7_init 46 = .ok (.istore_n 1, 1) := by decide +kernel
theorem dX7_init_47 : decode cX7_init 47 = .ok (.iload_n 1, 1) := by decide +kernel
theorem dX7_init_48 : decode cX7_init 48 = .ok (.aload_n 0, 1) := by decide +kernel
theorem dX7_init_49 : decode cX7_init 49 = .ok (.getfield 32, 3) := by decide +kernel
theorem dX7_init_52 : decode cX7_init 52 = .ok (.arraylength, 1) := by decide +kernel
theorem dX7_init_53 : decode cX7_init 53 = .ok (.if_icmp .ge 22, 3) := by decide +kernel
theorem dX7_init_56 : decode cX7_init 56 = .ok (.aload_n 0, 1) := by decide +kernel
theorem dX7_init_57 : decode cX7_init 57 = .ok (.getfield 32, 3) := by decide +kernel
theorem dX7_init_60 : decode cX7_init 60 = .ok (.iload_n 1, 1) := by decide +kernel
theorem dX7_init_61 : decode cX7_init 61 = .ok (.new 30, 3) := by decide +kernel
theorem dX7_init_64 : decode cX7_init 64 = .ok (.dup, 1) := by decide +kernel
theorem dX7_init_65 : decode cX7_init 65 = .ok (.invokespecial 36, 3) := by decide +kernel
theorem dX7_init_68 : decode cX7_init 68 = .ok (.aastore, 1) := by decide +kernel
theorem dX7_init_69 : decode cX7_init 69 = .ok (.iinc 1 1, 3) := by decide +kernel
theorem dX7_init_72 : decode cX7_init 72 = .ok (.goto (-25), 3) := by decide +kernel
theorem dX7_init_75 : decode cX7_init 75 = .ok (.return_, 1) := by decide +kernel
theorem dX7_begin_0 : decode cX7_begin 0 = .ok (.aload_n 0, 1) := by decide +kernel
theorem dX7_begin_1 : decode cX7_begin 1 = .ok (.iload_n 1, 1) := by decide +kernel
theorem dX7_begin_2 : decode cX7_begin 2 = .ok (.putfield 9, 3) := by decide +kernel
theorem dX7_begin_5 : decode cX7_begin 5 = .ok (.aload_n 0, 1) := by decide +kernel
theorem dX7_begin_6 : decode cX7_begin 6 = .ok (.iload_n 2, 1) := by decide +kernel
theorem dX7_begin_7 : decode cX7_begin 7 = .ok (.putfield 15, 3) := by decide +kernel
theorem dX7_begin_10 : decode cX7_begin 10 = .ok (.aload_n 0, 1) := by decide +kernel
theorem dX7_begin_11 : decode cX7_begin 11 = .ok (.iconst 0, 1) := by decide +kernel
theorem dX7_begin_12 : decode cX7_begin 12 = .ok (.putfield 18, 3) := by decide +kernel
theorem dX7_begin_15 : decode cX7_begin 15 = .ok (.aload_n 0, 1) := by decide +kernel
theorem dX7_begin_16 : decode cX7_begin 16 = .ok (.sipush 1000, 3) := by decide +kernel
theorem dX7_begin_19 : decode cX7_begin 19 = .ok (.putfield 21, 3) := by decide +kernel
theorem dX7_begin_22 : decode cX7_begin 22 = .ok (.aload_n 0, 1) := by decide +kernel
theorem dX7_begin_23 : decode cX7_begin 23 = .ok (.iconst 0, 1) := by decide +kernel
theorem dX7_begin_24 : decode cX7_begin 24 = .ok (.putfield 27, 3) := by decide +kernel
theorem dX7_begin_27 : decode cX7_begin 27 = .ok (.aload_n 0, 1) := by decide +kernel
theorem dX7_begin_28 : decode cX7_begin 28 = .ok (.iload_n 3, 1) := by decide +kernel
theorem dX7_begin_29 : decode cX7_begin 29 = .ok (.invokevirtual 37, 3) := by decide +kernel
theorem dX7_begin_32 : decode cX7_begin 32 = .ok (.return_, 1) := by decide +kernel
theorem dX7_copyFrom_0 : decode cX7_copyFrom 0 = .ok (.aload_n 0, 1) := by decide +kernel
theorem dX7_copyFrom_1 : decode cX7_copyFrom 1 = .ok (.aload_n 1, 1) := by decide +kernel
theorem dX7_copyFrom_2 : decode cX7_copyFrom 2 = .ok (.getfield 9, 3) := by decide +kernel
theorem dX7_copyFrom_5 : decode cX7_copyFrom 5 = .ok (.putfield 9, 3) := by decide +kernel
theorem dX7_copyFrom_8 : decode cX7_copyFrom 8 = .ok (.aload_n 0, 1) := by decide +kernel
theorem dX7_copyFrom_9 : decode cX7_copyFrom 9 = .ok (.aload_n 1, 1) := by decide +kernel
theorem dX7_copyFrom_10 : decode cX7_copyFrom 10 = .ok (.getfield 15, 3) := by decide +kernel
theorem dX7_copyFrom_13 : decode cX7_copyFrom 13 = .ok (.putfield 15, 3) := by decide +kernel
theorem dX7_copyFrom_16 : decode cX7_copyFrom 16 = .ok (.aload_n 0, 1) := by decide +kernel
theorem dX7_copyFrom_17 : decode cX7_copyFrom 17 = .ok (.aload_n 1, 1) := by decide +kernel
theorem dX7_copyFrom_18 : decode cX7_copyFrom 18 = .ok (.getfield 18, 3) := by decide +kernel
theorem dX7_copyFrom_21 : decode cX7_copyFrom 21 = .ok (.putfield 18, 3) := by decide +kernel
theorem dX7_copyFrom_24 : decode cX7_copyFrom 24 = .ok (.aload_n 0, 1) := by decide +kernel
theorem dX7_copyFrom_25 : decode cX7_copyFrom 25 = .ok (.aload_n 1, 1) := by decide +kernel
theorem dX7_copyFrom_26 : decode cX7_copyFrom 26 = .ok (.getfield 21, 3) := by decide +kernel
theorem dX7_copyFrom_29 : decode cX7_copyFrom 29 = .ok (.putfield 21, 3) := by decide +kernel
theorem dX7_copyFrom_32 : decode cX7_copyFrom 32 = .ok (.aload_n 0, 1) := by decide +kernel
theorem dX7_copyFrom_33 : decode cX7_copyFrom 33 = .ok (.aload_n 1, 1) := by decide +kernel
theorem dX7_copyFrom_34 : decode cX7_copyFrom 34 = .ok (.getfield 24, 3) := by decide +kernel
theorem dX7_copyFrom_37 : decode cX7_copyFrom 37 = .ok (.putfield 24, 3) := by decide +kernel
theorem dX7_copyFrom_40 : decode cX7_copyFrom 40 = .ok (.aload_n 0, 1) := by decide +kernel
theorem dX7_copyFrom_41 : decode cX7_copyFrom 41 = .ok (.aload_n 1, 1) := by decide +kernel
theorem dX7_copyFrom_42 : decode cX7_copyFrom 42 = .ok (.getfield 27, 3) := by decide +kernel
theorem dX7_copyFrom_45 : decode cX7_copyFrom 45 = .ok (.putfield 27, 3) := by decide +kernel
theorem dX7_copyFrom_48 : decode cX7_copyFrom 48 = .ok (.iconst 0, 1) := by decide +kernel
theorem dX7_copyFrom_49 : decode cX7_copyFrom 49 = .ok (.istore_n 2, 1) := by decide +kernel
theorem dX7_copyFrom_50 : decode cX7_copyFrom 50 = .ok (.iload_n 2, 1) := by decide +kernel
theorem dX7_copyFrom_51 : decode cX7_copyFrom 51 = .ok (.aload_n 0, 1) := by decide +kernel
theorem dX7_copyFrom_52 : decode cX7_copyFrom 52 = .ok (.getfield 27, 3) := by decide +kernel
theorem dX7_copyFrom_55 : decode cX7_copyFrom 55 = .ok (.if_icmp .ge 33, 3) := by decide +kernel
theorem dX7_copyFrom_58 : decode cX7_copyFrom 58 = .ok (.iload_n 2, 1) := by decide +kernel
theorem dX7_copyFrom_59 : decode cX7_copyFrom 59 = .ok (.aload_n 0, 1) := by decide +kernel
theorem dX7_copyFrom_60 : decode cX7_copyFrom 60 = .ok (.getfield 32, 3) := by decide +kernel
theorem dX7_copyFrom_63 : decode cX7_copyFrom 63 = .ok (.arraylength, 1) := by decide +kernel
theorem dX7_copyFrom_64 : decode cX7_copyFrom 64 = .ok (.if_icmp .ge 24, 3) := by decide +kernel
theorem dX7_copyFrom_67 : decode cX7_copyFrom 67 = .ok (.aload_n 0, 1) := by decide +kernel
theorem dX7_copyFrom_68 : decode cX7_copyFrom 68 = .ok (.getfield 32, 3) := by decide +kernel
theorem dX7_copyFrom_71 : decode cX7_copyFrom 71 = .ok (.iload_n 2, 1) := by decide +kernel
theorem dX7_copyFrom_72 : decode cX7_copyFrom 72 = .ok (.aaload, 1) := by decide +kernel
theorem dX7_copyFrom_73 : decode cX7_copyFrom 73 = .ok (.aload_n 1, 1) := by decide +kernel
theorem dX7_copyFrom_74 : decode cX7_copyFrom 74 = .ok (.getfield 32, 3) := by decide +kernel
theorem dX7_copyFrom_77 : decode cX7_copyFrom 77 = .ok (.iload_n 2, 1) := by decide +kernel
theorem dX7_copyFrom_78 : decode cX7_copyFrom 78 = .ok (.aaload, 1) := by decide +kernel
theorem dX7_copyFrom_79 : decode cX7_copyFrom 79 = .ok (.invokevirtual 41, 3) := by decide +kernel
theorem dX7_copyFrom_82 : decode cX7_copyFrom 82 = .ok (.iinc 2 1, 3) := by decide +kernel
theorem dX7_copyFrom_85 : decode cX7_copyFrom 85 = .ok (.goto (-35), 3) := by decide +kernel
theorem dX7_copyFrom_88 : decode cX7_copyFrom 88 = .ok (.return_, 1) := by decide +kernel
theorem dX7_fillAir_0 : decode cX7_fillAir 0 = .ok (.aload_n 0, 1) := by decide +kernel
theorem dX7_fillAir_1 : decode cX7_fillAir 1 = .ok (.aload_n 0, 1) := by decide +kernel
theorem dX7_fillAir_2 : decode cX7_fillAir 2 = .ok (.iload_n 1, 1) := by decide +kernel
theorem dX7_fillAir_3 : decode cX7_fillAir 3 = .ok (.invokevirtual 45, 3) := by decide +kernel
theorem dX7_fillAir_6 : decode cX7_fillAir 6 = .ok (.putfield 24, 3) := by decide +kernel
theorem dX7_fillAir_9 : decode cX7_fillAir 9 = .ok (.return_, 1) := by decide +kernel
theorem dX7_airAt_0 : decode cX7_airAt 0 = .ok (.aload_n 0, 1) := by decide +kernel
theorem dX7_airAt_1 : decode cX7_airAt 1 = .ok (.getfield 9, 3) := by decide +kernel
theorem dX7_airAt_4 : decode cX7_airAt 4 = .ok (.iload_n 1, 1) := by decide +kernel
theorem dX7_airAt_5 : decode cX7_airAt 5 = .ok (.imul, 1) := by decide +kernel
theorem dX7_airAt_6 : decode cX7_airAt 6 = .ok (.sipush 1000, 3) := by decide +kernel
theorem dX7_airAt_9 : decode cX7_airAt 9 = .ok (.idiv, 1) := by decide +kernel
theorem dX7_airAt_10 : decode cX7_airAt 10 = .ok (.ireturn, 1) := by decide +kernel
theorem dX7_humidity_0 : decode cX7_humidity 0 = .ok (.aload_n 0, 1) := by decide +kernel
theorem dX7_humidity_1 : decode cX7_humidity 1 = .ok (.getfield 9, 3) := by decide +kernel
theorem dX7_humidity_4 : decode cX7_humidity 4 = .ok (.iconst 1, 1) := by decide +kernel
theorem dX7_humidity_5 : decode cX7_humidity 5 = .ok (.if_icmp .ge 7, 3) := by decide +kernel
theorem dX7_humidity_8 : decode cX7_humidity 8 = .ok (.iconst 0, 1) := by decide +kernel
theorem dX7_humidity_9 : decode cX7_humidity 9 = .ok (.goto 16, 3) := by decide +kernel
theorem dX7_humidity_12 : decode cX7_humidity 12 = .ok (.sipush 1000, 3) := by decide +kernel
theorem dX7_humidity_15 : decode cX7_humidity 15 = .ok (.aload_n 0, 1) := by decide +kernel
theorem dX7_humidity_16 : decode cX7_humidity 16 = .ok (.getfield 24, 3) := by decide +kernel
theorem dX7_humidity_19 : decode cX7_humidity 19 = .ok (.imul, 1) := by decide +kernel
theorem dX7_humidity_20 : decode cX7_humidity 20 = .ok (.aload_n 0, 1) := by decide +kernel
theorem dX7_humidity_21 : decode cX7_humidity 21 = .ok (.getfield 9, 3) := by decide +kernel
theorem dX7_humidity_24 : decode cX7_humidity 24 = .ok (.idiv, 1) := by decide +kernel
theorem dX7_humidity_25 : decode cX7_humidity 25 = .ok (.ireturn, 1) := by decide +kernel
theorem dX7_isUnsafe_0 : decode cX7_isUnsafe 0 = .ok (.aload_n 0, 1) := by decide +kernel
theorem dX7_isUnsafe_1 : decode cX7_isUnsafe 1 = .ok (.invokevirtual 49, 3) := by decide +kernel
theorem dX7_isUnsafe_4 : decode cX7_isUnsafe 4 = .ok (.istore_n 1, 1) := by decide +kernel
theorem dX7_isUnsafe_5 : decode cX7_isUnsafe 5 = .ok (.iload_n 1, 1) := by decide +kernel
theorem dX7_isUnsafe_6 : decode cX7_isUnsafe 6 = .ok (.aload_n 0, 1) := by decide +kernel
theorem dX7_isUnsafe_7 : decode cX7_isUnsafe 7 = .ok (.getfield 18, 3) := by decide +kernel
theorem dX7_isUnsafe_10 : decode cX7_isUnsafe 10 = .ok (.if_icmp .lt 11, 3) := by decide +kernel
theorem dX7_isUnsafe_13 : decode cX7_isUnsafe 13 = .ok (.iload_n 1, 1) := by decide +kernel
theorem dX7_isUnsafe_14 : decode cX7_isUnsafe 14 = .ok (.aload_n 0, 1) := by decide +kernel
theorem dX7_isUnsafe_15 : decode cX7_isUnsafe 15 = .ok (.getfield 21, 3) := by decide +kernel
theorem dX7_isUnsafe_18 : decode cX7_isUnsafe 18 = .ok (.if_icmp .le 7, 3) := by decide +kernel
theorem dX7_isUnsafe_21 : decode cX7_isUnsafe 21 = .ok (.iconst 1, 1) := by decide +kernel
theorem dX7_isUnsafe_22 : decode cX7_isUnsafe 22 = .ok (.goto 4, 3) := by decide +kernel
theorem dX7_isUnsafe_25 : decode cX7_isUnsafe 25 = .ok (.iconst 0, 1) := by decide +kernel
theorem dX7_isUnsafe_26 : decode cX7_isUnsafe 26 = .ok (.ireturn, 1) := by decide +kernel
theorem dX7_isFull_0 : decode cX7_isFull 0 = .ok (.aload_n 0, 1) := by decide +kernel
theorem dX7_isFull_1 : decode cX7_isFull 1 = .ok (.getfield 27, 3) := by decide +kernel
theorem dX7_isFull_4 : decode cX7_isFull 4 = .ok (.iconst 5, 1) := by decide +kernel
theorem dX7_isFull_5 : decode cX7_isFull 5 = .ok (.if_icmp .lt 7, 3) := by decide +kernel
theorem dX7_isFull_8 : decode cX7_isFull 8 = .ok (.iconst 1, 1) := by decide +kernel
theorem dX7_isFull_9 : decode cX7_isFull 9 = .ok (.goto 4, 3) := by decide +kernel
theorem dX7_isFull_12 : decode cX7_isFull 12 = .ok (.iconst 0, 1) := by decide +kernel
theorem dX7_isFull_13 : decode cX7_isFull 13 = .ok (.ireturn, 1) := by decide +kernel
theorem dX7_moistureOfCassettes_0 : decode cX7_moistureOfCassettes 0 = .ok (.iconst 0, 1) := by decide +kernel
theorem dX7_moistureOfCassettes_1 : decode cX7_moistureOfCassettes 1 = .ok (.istore_n 1, 1) := by decide +kernel
theorem dX7_moistureOfCassettes_2 : decode cX7_moistureOfCassettes 2 = .ok (.iconst 0, 1) := by decide +kernel
theorem dX7_moistureOfCassettes_3 : decode cX7_moistureOfCassettes 3 = .ok (.istore_n 2, 1) := by decide +kernel
theorem dX7_moistureOfCassettes_4 : decode cX7_moistureOfCassettes 4 = .ok (.iload_n 2, 1) := by decide +kernel
theorem dX7_moistureOfCassettes_5 : decode cX7_moistureOfCassettes 5 = .ok (.aload_n 0, 1) := by decide +kernel
theorem dX7_moistureOfCassettes_6 : decode cX7_moistureOfCassettes 6 = .ok (.getfield 27, 3) := by decide +kernel
theorem dX7_moistureOfCassettes_9 : decode cX7_moistureOfCassettes 9 = .ok (.if_icmp .ge 30, 3) := by decide +kernel
theorem dX7_moistureOfCassettes_12 : decode cX7_moistureOfCassettes 12 = .ok (.iload_n 2, 1) := by decide +kernel
theorem dX7_moistureOfCassettes_13 : decode cX7_moistureOfCassettes 13 = .ok (.aload_n 0, 1) := by decide +kernel
theorem dX7_moistureOfCassettes_14 : decode cX7_moistureOfCassettes 14 = .ok (.getfield 32, 3) := by decide +kernel
theorem dX7_moistureOfCassettes_17 : decode cX7_moistureOfCassettes 17 = .ok (.arraylength, 1) := by decide +kernel
theorem dX7_moistureOfCassettes_18 : decode cX7_moistureOfCassettes 18 = .ok (.if_icmp .ge 21, 3) := by decide +kernel
theorem dX7_moistureOfCassettes_21 : decode cX7_moistureOfCassettes 21 = .ok (.iload_n 1, 1) := by decide +kernel
theorem dX7_moistureOfCassettes_22 : decode cX7_moistureOfCassettes 22 = .ok (.aload_n 0, 1) := by decide +kernel
theorem dX7_moistureOfCassettes_23 : decode cX7_moistureOfCassettes 23 = .ok (.getfield 32, 3) := by decide +kernel
theorem dX7_moistureOfCassettes_26 : decode cX7_moistureOfCassettes 26 = .ok (.iload_n 2, 1) := by decide +kernel
theorem dX7_moistureOfCassettes_27 : decode cX7_moistureOfCassettes 27 = .ok (.aaload, 1) := by decide +kernel
theorem dX7_moistureOfCassettes_28 : decode cX7_moistureOfCassettes 28 = .ok (.getfield 53, 3) := by decide +kernel
theorem dX7_moistureOfCassettes_31 : decode cX7_moistureOfCassettes 31 = .ok (.iadd, 1) := by decide +kernel
theorem dX7_moistureOfCassettes_32 : decode cX7_moistureOfCassettes 32 = .ok (.istore_n 1, 1) := by decide +kernel
theorem dX7_moistureOfCassettes_33 : decode cX7_moistureOfCassettes 33 = .ok (.iinc 2 1, 3) := by decide +kernel
theorem dX7_moistureOfCassettes_36 : decode cX7_moistureOfCassettes 36 = .ok (.goto (-32), 3) := by decide +kernel
theorem dX7_moistureOfCassettes_39 : decode cX7_moistureOfCassettes 39 = .ok (.iload_n 1, 1) := by decide +kernel
theorem dX7_moistureOfCassettes_40 : decode cX7_moistureOfCassettes 40 = .ok (.ireturn, 1) := by decide +kernel
theorem dX7_moisture_0 : decode cX7_moisture 0 = .ok (.aload_n 0, 1) := by decide +kernel
theorem dX7_moisture_1 : decode cX7_moisture 1 = .ok (.getfield 24, 3) := by decide +kernel
theorem dX7_moisture_4 : decode cX7_moisture 4 = .ok (.aload_n 0, 1) := by decide +kernel
theorem dX7_moisture_5 : decode cX7_moisture 5 = .ok (.invokevirtual 56, 3) := by decide +kernel
theorem dX7_moisture_8 : decode cX7_moisture 8 = .ok (.iadd, 1) := by decide +kernel
theorem dX7_moisture_9 : decode cX7_moisture 9 = .ok (.ireturn, 1) := by decide +kernel
theorem dX7_moistureAt_0 : decode cX7_moistureAt 0 = .ok (.aload_n 0, 1) := by decide +kernel
theorem dX7_moistureAt_1 : decode cX7_moistureAt 1 = .ok (.iload_n 1, 1) := by decide +kernel
theorem dX7_moistureAt_2 : decode cX7_moistureAt 2 = .ok (.invokevirtual 45, 3) := by decide +kernel
theorem dX7_moistureAt_5 : decode cX7_moistureAt 5 = .ok (.istore_n 2, 1) := by decide +kernel
theorem dX7_moistureAt_6 : decode cX7_moistureAt 6 = .ok (.iconst 0, 1) := by decide +kernel
theorem dX7_moistureAt_7 : decode cX7_moistureAt 7 = .ok (.istore_n 3, 1) := by decide +kernel
theorem dX7_moistureAt_8 : decode cX7_moistureAt 8 = .ok (.iload_n 3, 1) := by decide +kernel
theorem dX7_moistureAt_9 : decode cX7_moistureAt 9 = .ok (.aload_n 0, 1) := by decide +kernel
theorem dX7_moistureAt_10 : decode cX7_moistureAt 10 = .ok (.getfield 27, 3) := by decide +kernel
theorem dX7_moistureAt_13 : decode cX7_moistureAt 13 = .ok (.if_icmp .ge 31, 3) := by decide +kernel
theorem dX7_moistureAt_16 : decode cX7_moistureAt 16 = .ok (.iload_n 3, 1) := by decide +kernel
theorem dX7_moistureAt_17 : decode cX7_moistureAt 17 = .ok (.aload_n 0, 1) := by decide +kernel
theorem dX7_moistureAt_18 : decode cX7_moistureAt 18 = .ok (.getfield 32, 3) := by decide +kernel
theorem dX7_moistureAt_21 : decode cX7_moistureAt 21 = .ok (.arraylength, 1) := by decide +kernel
theorem dX7_moistureAt_22 : decode cX7_moistureAt 22 = .ok (.if_icmp .ge 22, 3) := by decide +kernel
theorem dX7_moistureAt_25 : decode cX7_moistureAt 25 = .ok (.iload_n 2, 1) := by decide +kernel
theorem dX7_moistureAt_26 : decode cX7_moistureAt 26 = .ok (.aload_n 0, 1) := by decide +kernel
theorem dX7_moistureAt_27 : decode cX7_moistureAt 27 = .ok (.getfield 32, 3) := by decide +kernel
theorem dX7_moistureAt_30 : decode cX7_moistureAt 30 = .ok (.iload_n 3, 1) := by decide +kernel
theorem dX7_moistureAt_31 : decode cX7_moistureAt 31 = .ok (.aaload, 1) := by decide +kernel
theorem dX7_moistureAt_32 : decode cX7_moistureAt 32 = .ok (.iload_n 1, 1) := by decide +kernel
theorem dX7_moistureAt_33 : decode cX7_moistureAt 33 = .ok (.invokevirtual 59, 3) := by decide +kernel
theorem dX7_moistureAt_36 : decode cX7_moistureAt 36 = .ok (.iadd, 1) := by decide +kernel
theorem dX7_moistureAt_37 : decode cX7_moistureAt 37 = .ok (.istore_n 2, 1) := by decide +kernel
theorem dX7_moistureAt_38 : decode cX7_moistureAt 38 = .ok (.iinc 3 1, 3) := by decide +kernel
theorem dX7_moistureAt_41 : decode cX7_moistureAt 41 = .ok (.goto (-33), 3) := by decide +kernel
theorem dX7_moistureAt_44 : decode cX7_moistureAt 44 = .ok (.iload_n 2, 1) := by decide +kernel
theorem dX7_moistureAt_45 : decode cX7_moistureAt 45 = .ok (.ireturn, 1) := by decide +kernel
theorem dX7_restHumidity_0 : decode cX7_restHumidity 0 = .ok (.aload_n 0, 1) := by decide +kernel
theorem dX7_restHumidity_1 : decode cX7_restHumidity 1 = .ok (.invokevirtual 62, 3) := by decide +kernel
theorem dX7_restHumidity_4 : decode cX7_restHumidity 4 = .ok (.istore_n 1, 1) := by decide +kernel
theorem dX7_restHumidity_5 : decode cX7_restHumidity 5 = .ok (.iconst (-1), 1) := by decide +kernel
theorem dX7_restHumidity_6 : decode cX7_restHumidity 6 = .ok (.istore_n 2, 1) := by decide +kernel
theorem dX7_restHumidity_7 : decode cX7_restHumidity 7 = .ok (.sipush 512, 3) := by decide +kernel
theorem dX7_restHumidity_10 : decode cX7_restHumidity 10 = .ok (.istore_n 3, 1) := by decide +kernel
theorem dX7_restHumidity_11 : decode cX7_restHumidity 11 = .ok (.iload_n 3, 1) := by decide +kernel
theorem dX7_restHumidity_12 : decode cX7_restHumidity 12 = .ok (.ifCond .le 36, 3) := by decide +kernel
theorem dX7_restHumidity_15 : decode cX7_restHumidity 15 = .ok (.iload_n 2, 1) := by decide +kernel
theorem dX7_restHumidity_16 : decode cX7_restHumidity 16 = .ok (.iload_n 3, 1) := by decide +kernel
theorem dX7_restHumidity_17 : decode cX7_restHumidity 17 = .ok (.iadd, 1) := by decide +kernel
theorem dX7_restHumidity_18 : decode cX7_restHumidity 18 = .ok (.istore 4, 2) := by decide +kernel
theorem dX7_restHumidity_20 : decode cX7_restHumidity 20 = .ok (.iload 4, 2) := by decide +kernel
theorem dX7_restHumidity_22 : decode cX7_restHumidity 22 = .ok (.sipush 1000, 3) := by decide +kernel
theorem dX7_restHumidity_25 : decode cX7_restHumidity 25 = .ok (.if_icmp .gt 16, 3) := by decide +kernel
theorem dX7_restHumidity_28 : decode cX7_restHumidity 28 = .ok (.aload_n 0, 1) := by decide +kernel
theorem dX7_restHumidity_29 : decode cX7_restHumidity 29 = .ok (.iload 4, 2) := by decide +kernel
theorem dX7_restHumidity_31 : decode cX7_restHumidity 31 = .ok (.invokevirtual 64, 3) := by decide +kernel
theorem dX7_restHumidity_34 : decode cX7_restHumidity 34 = .ok (.iload_n 1, 1) := by decide +kernel
theorem dX7_restHumidity_35 : decode cX7_restHumidity 35 = .ok (.if_icmp .ge 6, 3) := by decide +kernel
theorem dX7_restHumidity_38 : decode cX7_restHumidity 38 = .ok (.iload 4, 2) := by decide +kernel
theorem dX7_restHumidity_40 : decode cX7_restHumidity 40 = .ok (.istore_n 2, 1) := by decide +kernel
theorem dX7_restHumidity_41 : decode cX7_restHumidity 41 = .ok (.iload_n 3, 1) := by decide +kernel
theorem dX7_restHumidity_42 : decode cX7_restHumidity 42 = .ok (.iconst 2, 1) := by decide +kernel
theorem dX7_restHumidity_43 : decode cX7_restHumidity 43 = .ok (.idiv, 1) := by decide +kernel
theorem dX7_restHumidity_44 : decode cX7_restHumidity 44 = .ok (.istore_n 3, 1) := by decide +kernel
theorem dX7_restHumidity_45 : decode cX7_restHumidity 45 = .ok (.goto (-34), 3) := by decide +kernel
theorem dX7_restHumidity_48 : decode cX7_restHumidity 48 = .ok (.iload_n 2, 1) := by decide +kernel
theorem dX7_restHumidity_49 : decode cX7_restHumidity 49 = .ok (.sipush 1000, 3) := by decide +kernel
theorem dX7_restHumidity_52 : decode cX7_restHumidity 52 = .ok (.if_icmp .ne 7, 3) := by decide +kernel
theorem dX7_restHumidity_55 : decode cX7_restHumidity 55 = .ok (.iconst (-1), 1) := by decide +kernel
theorem dX7_restHumidity_56 : decode cX7_restHumidity 56 = .ok (.goto 6, 3) := by decide +kernel
theorem dX7_restHumidity_59 : decode cX7_restHumidity 59 = .ok (.iload_n 2, 1) := by decide +kernel
theorem dX7_restHumidity_60 : decode cX7_restHumidity 60 = .ok (.iconst 1, 1) := by decide +kernel
theorem dX7_restHumidity_61 : decode cX7_restHumidity 61 = .ok (.iadd, 1) := by decide +kernel
theorem dX7_restHumidity_62 : decode cX7_restHumidity 62 = .ok (.ireturn, 1) := by decide +kernel
theorem dX7_indexOf_0 : decode cX7_indexOf 0 = .ok (.iconst 0, 1) := by decide +kernel
theorem dX7_indexOf_1 : decode cX7_indexOf 1 = .ok (.istore_n 2, 1) := by decide +kernel
theorem dX7_indexOf_2 : decode cX7_indexOf 2 = .ok (.iload_n 2, 1) := by decide +kernel
theorem dX7_indexOf_3 : decode cX7_indexOf 3 = .ok (.aload_n 0, 1) := by decide +kernel
theorem dX7_indexOf_4 : decode cX7_indexOf 4 = .ok (.getfield 27, 3) := by decide +kernel
theorem dX7_indexOf_7 : decode cX7_indexOf 7 = .ok (.if_icmp .ge 33, 3) := by decide +kernel
theorem dX7_indexOf_10 : decode cX7_indexOf 10 = .ok (.iload_n 2, 1) := by decide +kernel
theorem dX7_indexOf_11 : decode cX7_indexOf 11 = .ok (.aload_n 0, 1) := by decide +kernel
theorem dX7_indexOf_12 : decode cX7_indexOf 12 = .ok (.getfield 32, 3) := by decide +kernel
theorem dX7_indexOf_15 : decode cX7_indexOf 15 = .ok (.arraylength, 1) := by decide +kernel
theorem dX7_indexOf_16 : decode cX7_indexOf 16 = .ok (.if_icmp .ge 24, 3) := by decide +kernel
theorem dX7_indexOf_19 : decode cX7_indexOf 19 = .ok (.aload_n 0, 1) := by decide +kernel
theorem dX7_indexOf_20 : decode cX7_indexOf 20 = .ok (.getfield 32, 3) := by decide +kernel
theorem dX7_indexOf_23 : decode cX7_indexOf 23 = .ok (.iload_n 2, 1) := by decide +kernel
theorem dX7_indexOf_24 : decode cX7_indexOf 24 = .ok (.aaload, 1) := by decide +kernel
theorem dX7_indexOf_25 : decode cX7_indexOf 25 = .ok (.getfield 65, 3) := by decide +kernel
theorem dX7_indexOf_28 : decode cX7_indexOf 28 = .ok (.iload_n 1, 1) := by decide +kernel
theorem dX7_indexOf_29 : decode cX7_indexOf 29 = .ok (.if_icmp .ne 5, 3) := by decide +kernel
theorem dX7_indexOf_32 : decode cX7_indexOf 32 = .ok (.iload_n 2, 1) := by decide +kernel
theorem dX7_indexOf_33 : decode cX7_indexOf 33 = .ok (.ireturn, 1) := by decide +kernel
theorem dX7_indexOf_34 : decode cX7_indexOf 34 = .ok (.iinc 2 1, 3) := by decide +kernel
theorem dX7_indexOf_37 : decode cX7_indexOf 37 = .ok (.goto (-35), 3) := by decide +kernel
theorem dX7_indexOf_40 : decode cX7_indexOf 40 = .ok (.iconst (-1), 1) := by decide +kernel
theorem dX7_indexOf_41 : decode cX7_indexOf 41 = .ok (.ireturn, 1) := by decide +kernel
theorem dX7_moistureOf_0 : decode cX7_moistureOf 0 = .ok (.iload_n 1, 1) := by decide +kernel
theorem dX7_moistureOf_1 : decode cX7_moistureOf 1 = .ok (.ifCond .lt 12, 3) := by decide +kernel
theorem dX7_moistureOf_4 : decode cX7_moistureOf 4 = .ok (.iload_n 1, 1) := by decide +kernel
theorem dX7_moistureOf_5 : decode cX7_moistureOf 5 = .ok (.aload_n 0, 1) := by decide +kernel
theorem dX7_moistureOf_6 : decode cX7_moistureOf 6 = .ok (.getfield 32, 3) := by decide +kernel
theorem dX7_moistureOf_9 : decode cX7_moistureOf 9 = .ok (.arraylength, 1) := by decide +kernel
theorem dX7_moistureOf_10 : decode cX7_moistureOf 10 = .ok (.if_icmp .lt 7, 3) := by decide +kernel
theorem dX7_moistureOf_13 : decode cX7_moistureOf 13 = .ok (.iconst 0, 1) := by decide +kernel
theorem dX7_moistureOf_14 : decode cX7_moistureOf 14 = .ok (.goto 12, 3) := by decide +kernel
theorem dX7_moistureOf_17 : decode cX7_moistureOf 17 = .ok (.aload_n 0, 1) := by decide +kernel
theorem dX7_moistureOf_18 : decode cX7_moistureOf 18 = .ok (.getfield 32, 3) := by decide +kernel
theorem dX7_moistureOf_21 : decode cX7_moistureOf 21 = .ok (.iload_n 1, 1) := by decide +kernel
theorem dX7_moistureOf_22 : decode cX7_moistureOf 22 = .ok (.aaload, 1) := by decide +kernel
theorem dX7_moistureOf_23 : decode cX7_moistureOf 23 = .ok (.getfield 53, 3) := by decide +kernel
theorem dX7_moistureOf_26 : decode cX7_moistureOf 26 = .ok (.ireturn, 1) := by decide +kernel
theorem dX7_put_0 : decode cX7_put 0 = .ok (.aload_n 0, 1) := by decide +kernel
theorem dX7_put_1 : decode cX7_put 1 = .ok (.getfield 27, 3) := by decide +kernel
theorem dX7_put_4 : decode cX7_put 4 = .ok (.aload_n 0, 1) := by decide +kernel
theorem dX7_put_5 : decode cX7_put 5 = .ok (.getfield 32, 3) := by decide +kernel
theorem dX7_put_8 : decode cX7_put 8 = .ok (.arraylength, 1) := by decide +kernel
theorem dX7_put_9 : decode cX7_put 9 = .ok (.if_icmp .ge 30, 3) := by decide +kernel
theorem dX7_put_12 : decode cX7_put 12 = .ok (.aload_n 0, 1) := by decide +kernel
theorem dX7_put_13 : decode cX7_put 13 = .ok (.getfield 32, 3) := by decide +kernel
theorem dX7_put_16 : decode cX7_put 16 = .ok (.aload_n 0, 1) := by decide +kernel
theorem dX7_put_17 : decode cX7_put 17 = .ok (.getfield 27, 3) := by decide +kernel
theorem dX7_put_20 : decode cX7_put 20 = .ok (.aaload, 1) := by decide +kernel
theorem dX7_put_21 : decode cX7_put 21 = .ok (.iload_n 1, 1) := by decide +kernel
theorem dX7_put_22 : decode cX7_put 22 = .ok (.aload_n 2, 1) := by decide +kernel
theorem dX7_put_23 : decode cX7_put 23 = .ok (.iload_n 3, 1) := by decide +kernel
theorem dX7_put_24 : decode cX7_put 24 = .ok (.iload 4, 2) := by decide +kernel
theorem dX7_put_26 : decode cX7_put 26 = .ok (.invokevirtual 68, 3) := by decide +kernel
theorem dX7_put_29 : decode cX7_put 29 = .ok (.aload_n 0, 1) := by decide +kernel
theorem dX7_put_30 : decode cX7_put 30 = .ok (.dup, 1) := by decide +kernel
theorem dX7_put_31 : decode cX7_put 31 = .ok (.getfield 27, 3) := by decide +kernel
theorem dX7_put_34 : decode cX7_put 34 = .ok (.iconst 1, 1) := by decide +kernel
theorem dX7_put_35 : decode cX7_put 35 = .ok (.iadd, 1) := by decide +kernel
theorem dX7_put_36 : decode cX7_put 36 = .ok (.putfield 27, 3) := by decide +kernel
theorem dX7_put_39 : decode cX7_put 39 = .ok (.return_, 1) := by decide +kernel
theorem dX7_putCopyOf_0 : decode cX7_putCopyOf 0 = .ok (.aload_n 0, 1) := by decide +kernel
theorem dX7_putCopyOf_1 : decode cX7_putCopyOf 1 = .ok (.getfield 27, 3) := by decide +kernel
theorem dX7_putCopyOf_4 : decode cX7_putCopyOf 4 = .ok (.aload_n 0, 1) := by decide +kernel
theorem dX7_putCopyOf_5 : decode cX7_putCopyOf 5 = .ok (.getfield 32, 3) := by decide +kernel
theorem dX7_putCopyOf_8 : decode cX7_putCopyOf 8 = .ok (.arraylength, 1) := by decide +kernel
theorem dX7_putCopyOf_9 : decode cX7_putCopyOf 9 = .ok (.if_icmp .ge 44, 3) := by decide +kernel
theorem dX7_putCopyOf_12 : decode cX7_putCopyOf 12 = .ok (.iload_n 2, 1) := by decide +kernel
theorem dX7_putCopyOf_13 : decode cX7_putCopyOf 13 = .ok (.ifCond .lt 40, 3) := by decide +kernel
theorem dX7_putCopyOf_16 : decode cX7_putCopyOf 16 = .ok (.iload_n 2, 1) := by decide +kernel
theorem dX7_putCopyOf_17 : decode cX7_putCopyOf 17 = .ok (.aload_n 1, 1) := by decide +kernel
theorem dX7_putCopyOf_18 : decode cX7_putCopyOf 18 = .ok (.getfield 32, 3) := by decide +kernel
theorem dX7_putCopyOf_21 : decode cX7_putCopyOf 21 = .ok (.arraylength, 1) := by decide +kernel
theorem dX7_putCopyOf_22 : decode cX7_putCopyOf 22 = .ok (.if_icmp .ge 31, 3) := by decide +kernel
theorem dX7_putCopyOf_25 : decode cX7_putCopyOf 25 = .ok (.aload_n 0, 1) := by decide +kernel
theorem dX7_putCopyOf_26 : decode cX7_putCopyOf 26 = .ok (.getfield 32, 3) := by decide +kernel
theorem dX7_putCopyOf_29 : decode cX7_putCopyOf 29 = .ok (.aload_n 0, 1) := by decide +kernel
theorem dX7_putCopyOf_30 : decode cX7_putCopyOf 30 = .ok (.getfield 27, 3) := by decide +kernel
theorem dX7_putCopyOf_33 : decode cX7_putCopyOf 33 = .ok (.aaload, 1) := by decide +kernel
theorem dX7_putCopyOf_34 : decode cX7_putCopyOf 34 = .ok (.aload_n 1, 1) := by decide +kernel
theorem dX7_putCopyOf_35 : decode cX7_putCopyOf 35 = .ok (.getfield 32, 3) := by decide +kernel
theorem dX7_putCopyOf_38 : decode cX7_putCopyOf 38 = .ok (.iload_n 2, 1) := by decide +kernel
theorem dX7_putCopyOf_39 : decode cX7_putCopyOf 39 = .ok (.aaload, 1) := by decide +kernel
theorem dX7_putCopyOf_40 : decode cX7_putCopyOf 40 = .ok (.invokevirtual 41, 3) := by decide +kernel
theorem dX7_putCopyOf_43 : decode cX7_putCopyOf 43 = .ok (.aload_n 0, 1) := by decide +kernel
theorem dX7_putCopyOf_44 : decode cX7_putCopyOf 44 = .ok (.dup, 1) := by decide +kernel
theorem dX7_putCopyOf_45 : decode cX7_putCopyOf 45 = .ok (.getfield 27, 3) := by decide +kernel
theorem dX7_putCopyOf_48 : decode cX7_putCopyOf 48 = .ok (.iconst 1, 1) := by decide +kernel
theorem dX7_putCopyOf_49 : decode cX7_putCopyOf 49 = .ok (.iadd, 1) := by decide +kernel
theorem dX7_putCopyOf_50 : decode cX7_putCopyOf 50 = .ok (.putfield 27, 3) := by decide +kernel
theorem dX7_putCopyOf_53 : decode cX7_putCopyOf 53 = .ok (.return_, 1) := by decide +kernel
theorem dX7_recondition_0 : decode cX7_recondition 0 = .ok (.iload_n 1, 1) := by decide +kernel
theorem dX7_recondition_1 : decode cX7_recondition 1 = .ok (.ifCond .lt 23, 3) := by decide +kernel
theorem dX7_recondition_4 : decode cX7_recondition 4 = .ok (.iload_n 1, 1) := by decide +kernel
theorem dX7_recondition_5 : decode cX7_recondition 5 = .ok (.aload_n 0, 1) := by decide +kernel
theorem dX7_recondition_6 : decode cX7_recondition 6 = .ok (.getfield 32, 3) := by decide +kernel
theorem dX7_recondition_9 : decode cX7_recondition 9 = .ok (.arraylength, 1) := by decide +kernel
theorem dX7_recondition_10 : decode cX7_recondition 10 = .ok (.if_icmp .ge 14, 3) := by decide +kernel
theorem dX7_recondition_13 : decode cX7_recondition 13 = .ok (.aload_n 0, 1) := by decide +kernel
theorem dX7_recondition_14 : decode cX7_recondition 14 = .ok (.getfield 32, 3) := by decide +kernel
theorem dX7_recondition_17 : decode cX7_recondition 17 = .ok (.iload_n 1, 1) := by decide +kernel
theorem dX7_recondition_18 : decode cX7_recondition 18 = .ok (.aaload, 1) := by decide +kernel
theorem dX7_recondition_19 : decode cX7_recondition 19 = .ok (.iload_n 2, 1) := by decide +kernel
theorem dX7_recondition_20 : decode cX7_recondition 20 = .ok (.iload_n 3, 1) := by decide +kernel
theorem dX7_recondition_21 : decode cX7_recondition 21 = .ok (.invokevirtual 72, 3) := by decide +kernel
theorem dX7_recondition_24 : decode cX7_recondition 24 = .ok (.return_, 1) := by decide +kernel
theorem dX7_takeOut_0 : decode cX7_takeOut 0 = .ok (.iload_n 1, 1) := by decide +kernel
theorem dX7_takeOut_1 : decode cX7_takeOut 1 = .ok (.ifCond .lt 11, 3) := by decide +kernel
theorem dX7_takeOut_4 : decode cX7_takeOut 4 = .ok (.iload_n 1, 1) := by decide +kernel
theorem dX7_takeOut_5 : decode cX7_takeOut 5 = .ok (.aload_n 0, 1) := by decide +kernel
theorem dX7_takeOut_6 : decode cX7_takeOut 6 = .ok (.getfield 27, 3) := by decide +kernel
theorem dX7_takeOut_9 : decode cX7_takeOut 9 = .ok (.if_icmp .lt 4, 3) := by decide +kernel
theorem dX7_takeOut_12 : decode cX7_takeOut 12 = .ok (.return_, 1) := by decide +kernel
theorem dX7_takeOut_13 : decode cX7_takeOut 13 = .ok (.iload_n 1, 1) := by decide +kernel
theorem dX7_takeOut_14 : decode cX7_takeOut 14 = .ok (.istore_n 2, 1) := by decide +kernel
theorem dX7_takeOut_15 : decode cX7_takeOut 15 = .ok (.iload_n 2, 1) := by decide +kernel
theorem dX7_takeOut_16 : decode cX7_takeOut 16 = .ok (.iconst 1, 1) := by decide +kernel
theorem dX7_takeOut_17 : decode cX7_takeOut 17 = .ok (.iadd, 1) := by decide +kernel
theorem dX7_takeOut_18 : decode cX7_takeOut 18 = .ok (.aload_n 0, 1) := by decide +kernel
theorem dX7_takeOut_19 : decode cX7_takeOut 19 = .ok (.getfield 27, 3) := by decide +kernel
theorem dX7_takeOut_22 : decode cX7_takeOut 22 = .ok (.if_icmp .ge 37, 3) := by decide +kernel
theorem dX7_takeOut_25 : decode cX7_takeOut 25 = .ok (.iload_n 2, 1) := by decide +kernel
theorem dX7_takeOut_26 : decode cX7_takeOut 26 = .ok (.iconst 1, 1) := by decide +kernel
theorem dX7_takeOut_27 : decode cX7_takeOut 27 = .ok (.iadd, 1) := by decide +kernel
theorem dX7_takeOut_28 : decode cX7_takeOut 28 = .ok (.aload_n 0, 1) := by decide +kernel
theorem dX7_takeOut_29 : decode cX7_takeOut 29 = .ok (.getfield 32, 3) := by decide +kernel
theorem dX7_takeOut_32 : decode cX7_takeOut 32 = .ok (.arraylength, 1) := by decide +kernel
theorem dX7_takeOut_33 : decode cX7_takeOut 33 = .ok (.if_icmp .ge 26, 3) := by decide +kernel
theorem dX7_takeOut_36 : decode cX7_takeOut 36 = .ok (.aload_n 0, 1) := by decide +kernel
theorem dX7_takeOut_37 : decode cX7_takeOut 37 = .ok (.getfield 32, 3) := by decide +kernel
theorem dX7_takeOut_40 : decode cX7_takeOut 40 = .ok (.iload_n 2, 1) := by decide +kernel
theorem dX7_takeOut_41 : decode cX7_takeOut 41 = .ok (.aaload, 1) := by decide +kernel
theorem dX7_takeOut_42 : decode cX7_takeOut 42 = .ok (.aload_n 0, 1) := by decide +kernel
theorem dX7_takeOut_43 : decode cX7_takeOut 43 = .ok (.getfield 32, 3) := by decide +kernel
theorem dX7_takeOut_46 : decode cX7_takeOut 46 = .ok (.iload_n 2, 1) := by decide +kernel
theorem dX7_takeOut_47 : decode cX7_takeOut 47 = .ok (.iconst 1, 1) := by decide +kernel
theorem dX7_takeOut_48 : decode cX7_takeOut 48 = .ok (.iadd, 1) := by decide +kernel
theorem dX7_takeOut_49 : decode cX7_takeOut 49 = .ok (.aaload, 1) := by decide +kernel
theorem dX7_takeOut_50 : decode cX7_takeOut 50 = .ok (.invokevirtual 41, 3) := by decide +kernel
theorem dX7_takeOut_53 : decode cX7_takeOut 53 = .ok (.iinc 2 1, 3) := by decide +kernel
theorem dX7_takeOut_56 : decode cX7_takeOut 56 = .ok (.goto (-41), 3) := by decide +kernel
theorem dX7_takeOut_59 : decode cX7_takeOut 59 = .ok (.aload_n 0, 1) := by decide +kernel
theorem dX7_takeOut_60 : decode cX7_takeOut 60 = .ok (.dup, 1) := by decide +kernel
theorem dX7_takeOut_61 : decode cX7_takeOut 61 = .ok (.getfield 27, 3) := by decide +kernel
theorem dX7_takeOut_64 : decode cX7_takeOut 64 = .ok (.iconst 1, 1) := by decide +kernel
theorem dX7_takeOut_65 : decode cX7_takeOut 65 = .ok (.isub, 1) := by decide +kernel
theorem dX7_takeOut_66 : decode cX7_takeOut 66 = .ok (.putfield 27, 3) := by decide +kernel
theorem dX7_takeOut_69 : decode cX7_takeOut 69 = .ok (.return_, 1) := by decide +kernel
theorem dX7_passHour_0 : decode cX7_passHour 0 = .ok (.aload_n 0, 1) := by decide +kernel
theorem dX7_passHour_1 : decode cX7_passHour 1 = .ok (.getfield 9, 3) := by decide +kernel
theorem dX7_passHour_4 : decode cX7_passHour 4 = .ok (.iload_n 1, 1) := by decide +kernel
theorem dX7_passHour_5 : decode cX7_passHour 5 = .ok (.imul, 1) := by decide +kernel
theorem dX7_passHour_6 : decode cX7_passHour 6 = .ok (.sipush 1000, 3) := by decide +kernel
theorem dX7_passHour_9 : decode cX7_passHour 9 = .ok (.aload_n 0, 1) := by decide +kernel
theorem dX7_passHour_10 : decode cX7_passHour 10 = .ok (.getfield 24, 3) := by decide +kernel
theorem dX7_passHour_13 : decode cX7_passHour 13 = .ok (.imul, 1) := by decide +kernel
theorem dX7_passHour_14 : decode cX7_passHour 14 = .ok (.isub, 1) := by decide +kernel
theorem dX7_passHour_15 : decode cX7_passHour 15 = .ok (.i2l, 1) := by decide +kernel
theorem dX7_passHour_16 : decode cX7_passHour 16 = .ok (.lstore_n 2, 1) := by decide +kernel
theorem dX7_passHour_17 : decode cX7_passHour 17 = .ok (.lload_n 2, 1) := by decide +kernel
theorem dX7_passHour_18 : decode cX7_passHour 18 = .ok (.aload_n 0, 1) := by decide +kernel
theorem dX7_passHour_19 : decode cX7_passHour 19 = .ok (.getfield 15, 3) := by decide +kernel
theorem dX7_passHour_22 : decode cX7_passHour 22 = .ok (.i2l, 1) := by decide +kernel
theorem dX7_passHour_23 : decode cX7_passHour 23 = .ok (.lmul, 1) := by decide +kernel
theorem dX7_passHour_24 : decode cX7_passHour 24 = .ok (.ldc2_w 76, 3) := by decide +kernel
theorem dX7_passHour_27 : decode cX7_passHour 27 = .ok (.ldiv, 1) := by decide +kernel
theorem dX7_passHour_28 : decode cX7_passHour 28 = .ok (.l2i, 1) := by decide +kernel
theorem dX7_passHour_29 : decode cX7_passHour 29 = .ok (.istore 4, 2) := by decide +kernel
theorem dX7_passHour_31 : decode cX7_passHour 31 = .ok (.aload_n 0, 1) := by decide +kernel
theorem dX7_passHour_32 : decode cX7_passHour 32 = .ok (.dup, 1) := by decide +kernel
theorem dX7_passHour_33 : decode cX7_passHour 33 = .ok (.getfield 24, 3) := by decide +kernel
theorem dX7_passHour_36 : decode cX7_passHour 36 = .ok (.iload 4, 2) := by decide +kernel
theorem dX7_passHour_38 : decode cX7_passHour 38 = .ok (.iadd, 1) := by decide +kernel
theorem dX7_passHour_39 : decode cX7_passHour 39 = .ok (.putfield 24, 3) := by decide +kernel
theorem dX7_passHour_42 : decode cX7_passHour 42 = .ok (.iconst 0, 1) := by decide +kernel
theorem dX7_passHour_43 : decode cX7_passHour 43 = .ok (.istore 5, 2) := by decide +kernel
theorem dX7_passHour_45 : decode cX7_passHour 45 = .ok (.iload 5, 2) := by decide +kernel
theorem dX7_passHour_47 : decode cX7_passHour 47 = .ok (.aload_n 0, 1) := by decide +kernel
theorem dX7_passHour_48 : decode cX7_passHour 48 = .ok (.getfield 27, 3) := by decide +kernel
theorem dX7_passHour_51 : decode cX7_passHour 51 = .ok (.if_icmp .ge 82, 3) := by decide +kernel
theorem dX7_passHour_54 : decode cX7_passHour 54 = .ok (.iload 5, 2) := by decide +kernel
theorem dX7_passHour_56 : decode cX7_passHour 56 = .ok (.aload_n 0, 1) := by decide +kernel
theorem dX7_passHour_57 : decode cX7_passHour 57 = .ok (.getfield 32, 3) := by decide +kernel
theorem dX7_passHour_60 : decode cX7_passHour 60 = .ok (.arraylength, 1) := by decide +kernel
theorem dX7_passHour_61 : decode cX7_passHour 61 = .ok (.if_icmp .ge 72, 3) := by decide +kernel
theorem dX7_passHour_64 : decode cX7_passHour 64 = .ok (.aload_n 0, 1) := by decide +kernel
theorem dX7_passHour_65 : decode cX7_passHour 65 = .ok (.getfield 32, 3) := by decide +kernel
theorem dX7_passHour_68 : decode cX7_passHour 68 = .ok (.iload 5, 2) := by decide +kernel
theorem dX7_passHour_70 : decode cX7_passHour 70 = .ok (.aaload, 1) := by decide +kernel
theorem dX7_passHour_71 : decode cX7_passHour 71 = .ok (.astore 6, 2) := by decide +kernel
theorem dX7_passHour_73 : decode cX7_passHour 73 = .ok (.aload 6, 2) := by decide +kernel
theorem dX7_passHour_75 : decode cX7_passHour 75 = .ok (.aload_n 0, 1) := by decide +kernel
theorem dX7_passHour_76 : decode cX7_passHour 76 = .ok (.invokevirtual 49, 3) := by decide +kernel
theorem dX7_passHour_79 : decode cX7_passHour 79 = .ok (.invokevirtual 78, 3) := by decide +kernel
theorem dX7_passHour_82 : decode cX7_passHour 82 = .ok (.istore 7, 2) := by decide +kernel
theorem dX7_passHour_84 : decode cX7_passHour 84 = .ok (.iload 7, 2) := by decide +kernel
theorem dX7_passHour_86 : decode cX7_passHour 86 = .ok (.aload_n 0, 1) := by decide +kernel
theorem dX7_passHour_87 : decode cX7_passHour 87 = .ok (.getfield 24, 3) := by decide +kernel
theorem dX7_passHour_90 : decode cX7_passHour 90 = .ok (.if_icmp .ge 8, 3) := by decide +kernel
theorem dX7_passHour_93 : decode cX7_passHour 93 = .ok (.iload 7, 2) := by decide +kernel
theorem dX7_passHour_95 : decode cX7_passHour 95 = .ok (.goto 7, 3) := by decide +kernel
theorem dX7_passHour_98 : decode cX7_passHour 98 = .ok (.aload_n 0, 1) := by decide +kernel
theorem dX7_passHour_99 : decode cX7_passHour 99 = .ok (.getfield 24, 3) := by decide +kernel
theorem dX7_passHour_102 : decode cX7_passHour 102 = .ok (.istore 8, 2) := by decide +kernel
theorem dX7_passHour_104 : decode cX7_passHour 104 = .ok (.aload 6, 2) := by decide +kernel
theorem dX7_passHour_106 : decode cX7_passHour 106 = .ok (.dup, 1) := by decide +kernel
theorem dX7_passHour_107 : decode cX7_passHour 107 = .ok (.getfield 53, 3) := by decide +kernel
theorem dX7_passHour_110 : decode cX7_passHour 110 = .ok (.iload 8, 2) := by decide +kernel
theorem dX7_passHour_112 : decode cX7_passHour 112 = .ok (.iadd, 1) := by decide +kernel
theorem dX7_passHour_113 : decode cX7_passHour 113 = .ok (.putfield 53, 3) := by decide +kernel
theorem dX7_passHour_116 : decode cX7_passHour 116 = .ok (.aload_n 0, 1) := by decide +kernel
theorem dX7_passHour_117 : decode cX7_passHour 117 = .ok (.dup, 1) := by decide +kernel
theorem dX7_passHour_118 : decode cX7_passHour 118 = .ok (.getfield 24, 3) := by decide +kernel
theorem dX7_passHour_121 : decode cX7_passHour 121 = .ok (.iload 8, 2) := by decide +kernel
theorem dX7_passHour_123 : decode cX7_passHour 123 = .ok (.isub, 1) := by decide +kernel
theorem dX7_passHour_124 : decode cX7_passHour 124 = .ok (.putfield 24, 3) := by decide +kernel
theorem dX7_passHour_127 : decode cX7_passHour 127 = .ok (.iinc 5 1, 3) := by decide +kernel
theorem dX7_passHour_130 : decode cX7_passHour 130 = .ok (.goto (-85), 3) := by decide +kernel
theorem dX7_passHour_133 : decode cX7_passHour 133 = .ok (.iload 4, 2) := by decide +kernel
theorem dX7_passHour_135 : decode cX7_passHour 135 = .ok (.ireturn, 1) := by decide +kernel
theorem dX8_init_0 : decode cX8_init 0 = .ok (.aload_n 0, 1) := by decide +kernel
theorem dX8_init_1 : decode cX8_init 1 = .ok (.invokespecial 1, 3) := by decide +kernel
theorem dX8_init_4 : decode cX8_init 4 = .ok (.aload_n 0, 1) := by decide +kernel
theorem dX8_init_5 : decode cX8_init 5 = .ok (.new 7, 3) := by decide +kernel
theorem dX8_init_8 : decode cX8_init 8 = .ok (.dup, 1) := by decide +kernel
theorem dX8_init_9 : decode cX8_init 9 = .ok (.invokespecial 9, 3) := by decide +kernel
theorem dX8_init_12 : decode cX8_init 12 = .ok (.putfield 10, 3) := by decide +kernel
theorem dX8_init_15 : decode cX8_init 15 = .ok (.aload_n 0, 1) := by decide +kernel
theorem dX8_init_16 : decode cX8_init 16 = .ok (.new 16, 3) := by decide +kernel
theorem dX8_init_19 : decode cX8_init 19 = .ok (.dup, 1) := by decide +kernel
theorem dX8_init_20 : decode cX8_init 20 = .ok (.invokespecial 18, 3) := by decide +kernel
theorem dX8_init_23 : decode cX8_init 23 = .ok (.putfield 19, 3) := by decide +kernel
theorem dX8_init_26 : decode cX8_init 26 = .ok (.aload_n 0, 1) := by decide +kernel
theorem dX8_init_27 : decode cX8_init 27 = .ok (.new 16, 3) := by decide +kernel
theorem dX8_init_30 : decode cX8_init 30 = .ok (.dup, 1) := by decide +kernel
theorem dX8_init_31 : decode cX8_init 31 = .ok (.invokespecial 18, 3) := by decide +kernel
theorem dX8_init_34 : decode cX8_init 34 = .ok (.putfield 23, 3) := by decide +kernel
theorem dX8_init_37 : decode cX8_init 37 = .ok (.aload_n 0, 1) := by decide +kernel
theorem dX8_init_38 : decode cX8_init 38 = .ok (.new 26, 3) := by decide +kernel
theorem dX8_init_41 : decode cX8_init 41 = .ok (.dup, 1) := by decide +kernel
theorem dX8_init_42 : decode cX8_init 42 = .ok (.invokespecial 28, 3) := by decide +kernel
theorem dX8_init_45 : decode cX8_init 45 = .ok (.putfield 29, 3) := by decide +kernel
theorem dX8_init_48 : decode cX8_init 48 = .ok (.aload_n 0, 1) := by decide +kernel
theorem dX8_init_49 : decode cX8_init 49 = .ok (.iconst 2, 1) := by decide +kernel
theorem dX8_init_50 : decode cX8_init 50 = .ok (.anewarray 26, 3) := by decide +kernel
theorem dX8_init_53 : decode cX8_init 53 = .ok (.putfield 33, 3) := by decide +kernel
theorem dX8_init_56 : decode cX8_init 56 = .ok (.aload_n 0, 1) := by decide +kernel
theorem dX8_init_57 : decode cX8_init 57 = .ok (.iconst 2, 1) := by decide +kernel
theorem dX8_init_58 : decode cX8_init 58 = .ok (.newarray .boolean, 2) := by decide +kernel
theorem dX8_init_60 : decode cX8_init 60 = .ok (.putfield 37, 3) := by decide +kernel
theorem dX8_init_63 : decode cX8_init 63 = .ok (.aload_n 0, 1) := by decide +kernel
theorem dX8_init_64 : decode cX8_init 64 = .ok (.new 41, 3) := by decide +kernel
theorem dX8_init_67 : decode cX8_init 67 = .ok (.dup, 1) := by decide +kernel
theorem dX8_init_68 : decode cX8_init 68 = .ok (.invokespecial 43, 3) := by decide +kernel
theorem dX8_init_71 : decode cX8_init 71 = .ok (.putfield 44, 3) := by decide +kernel
theorem dX8_init_74 : decode cX8_init 74 = .ok (.aload_n 0, 1) := by decide +kernel
theorem dX8_init_75 : decode cX8_init 75 = .ok (.new 48, 3) := by decide +kernel
theorem dX8_init_78 : decode cX8_init 78 = .ok (.dup, 1) := by decide +kernel
theorem dX8_init_79 : decode cX8_init 79 = .ok (.invokespecial 50, 3) := by decide +kernel
theorem dX8_init_82 : decode cX8_init 82 = .ok (.putfield 51, 3) := by decide +kernel
theorem dX8_init_85 : decode cX8_init 85 = .ok (.aload_n 0, 1) := by decide +kernel
theorem dX8_init_86 : decode cX8_init 86 = .ok (.bipush 72, 2) := by decide +kernel
theorem dX8_init_88 : decode cX8_init 88 = .ok (.newarray .int, 2) := by decide +kernel
theorem dX8_init_90 : decode cX8_init 90 = .ok (.putfield 55, 3) := by decide +kernel
theorem dX8_init_93 : decode cX8_init 93 = .ok (.iconst 0, 1) := by decide +kernel
theorem dX8_init_94 : decode cX8_init 94 = .ok (.istore_n 1, 1) := by decide +kernel
theorem dX8_init_95 : decode cX8_init 95 = .ok (.iload_n 1, 1) := by decide +kernel
theorem dX8_init_96 : decode cX8_init 96 = .ok (.aload_n 0, 1) := by decide +kernel
theorem dX8_init_97 : decode cX8_init 97 = .ok (.getfield 33, 3) := by decide +kernel
theorem dX8_init_100 : decode cX8_init 100 = .ok (.arraylength, 1) := by decide +kernel
theorem dX8_init_101 : decode cX8_init 101 = .ok (.if_icmp .ge 22, 3) := by decide +kernel
theorem dX8_init_104 : decode cX8_init 104 = .ok (.aload_n 0, 1) := by decide +kernel
theorem dX8_init_105 : decode cX8_init 105 = .ok (.getfield 33, 3) := by decide +kernel
theorem dX8_init_108 : decode cX8_init 108 = .ok (.iload_n 1, 1) := by decide +kernel
theorem dX8_init_109 : decode cX8_init 109 = .ok (.new 26, 3) := by decide +kernel
theorem dX8_init_112 : decode cX8_init 112 = .ok (.dup, 1) := by decide +kernel
theorem dX8_init_113 : decode cX8_init 113 = .ok (.invokespecial 28, 3) := by decide +kernel
theorem dX8_init_116 : decode cX8_init 116 = .ok (.aastore, 1) := by decide +kernel
theorem dX8_init_117 : decode cX8_init 117 = .ok (.iinc 1 1, 3) := by decide +kernel
theorem dX8_init_120 : decode cX8_init 120 = .ok (.goto (-25), 3) := by decide +kernel
theorem dX8_init_123 : decode cX8_init 123 = .ok (.return_, 1) := by decide +kernel
theorem dX8_append_0 : decode cX8_append 0 = .ok (.aload_n 0, 1) := by decide +kernel
theorem dX8_append_1 : decode cX8_append 1 = .ok (.getfield 10, 3) := by decide +kernel
theorem dX8_append_4 : decode cX8_append 4 = .ok (.getfield 59, 3) := by decide +kernel
theorem dX8_append_7 : decode cX8_append 7 = .ok (.sipush 880, 3) := by decide +kernel
theorem dX8_append_10 : decode cX8_append 10 = .ok (.if_icmp .le 13, 3) := by decide +kernel
theorem dX8_append_13 : decode cX8_append 13 = .ok (.new 63, 3) := by decide +kernel
theorem dX8_append_16 : decode cX8_append 16 = .ok (.dup, 1) := by decide +kernel
theorem dX8_append_17 : decode cX8_append 17 = .ok (.ldc 65, 2) := by decide +kernel
theorem dX8_append_19 : decode cX8_append 19 = .ok (.invokespecial 67, 3) := by decide +kernel
theorem dX8_append_22 : decode cX8_append 22 = .ok (.athrow, 1) := by decide +kernel
theorem dX8_append_23 : decode cX8_append 23 = .ok (.aload_n 0, 1) := by decide +kernel
theorem dX8_append_24 : decode cX8_append 24 = .ok (.getfield 10, 3) := by decide +kernel
theorem dX8_append_27 : decode cX8_append 27 = .ok (.iload_n 1, 1) := by decide +kernel
theorem dX8_append_28 : decode cX8_append 28 = .ok (.invokevirtual 70, 3) := by decide +kernel
theorem dX8_append_31 : decode cX8_append 31 = .ok (.aload_n 0, 1) := by decide +kernel
theorem dX8_append_32 : decode cX8_append 32 = .ok (.getfield 10, 3) := by decide +kernel
theorem dX8_append_35 : decode cX8_append 35 = .ok (.iload_n 2, 1) := by decide +kernel
theorem dX8_append_36 : decode cX8_append 36 = .ok (.invokevirtual 70, 3) := by decide +kernel
theorem dX8_append_39 : decode cX8_append 39 = .ok (.aload_n 0, 1) := by decide +kernel
theorem dX8_append_40 : decode cX8_append 40 = .ok (.getfield 10, 3) := by decide +kernel
theorem dX8_append_43 : decode cX8_append 43 = .ok (.iload_n 3, 1) := by decide +kernel
theorem dX8_append_44 : decode cX8_append 44 = .ok (.invokevirtual 70, 3) := by decide +kernel
theorem dX8_append_47 : decode cX8_append 47 = .ok (.aload_n 0, 1) := by decide +kernel
theorem dX8_append_48 : decode cX8_append 48 = .ok (.getfield 10, 3) := by decide +kernel
theorem dX8_append_51 : decode cX8_append 51 = .ok (.iload 4, 2) := by decide +kernel
theorem dX8_append_53 : decode cX8_append 53 = .ok (.invokevirtual 70, 3) := by decide +kernel
theorem dX8_append_56 : decode cX8_append 56 = .ok (.aload_n 0, 1) := by decide +kernel
theorem dX8_append_57 : decode cX8_append 57 = .ok (.getfield 10, 3) := by decide +kernel
theorem dX8_append_60 : decode cX8_append 60 = .ok (.iload 5, 2) := by decide +kernel
theorem dX8_append_62 : decode cX8_append 62 = .ok (.invokevirtual 70, 3) := by decide +kernel
theorem dX8_append_65 : decode cX8_append 65 = .ok (.aload_n 0, 1) := by decide +kernel
theorem dX8_append_66 : decode cX8_append 66 = .ok (.getfield 10, 3) := by decide +kernel
theorem dX8_append_69 : decode cX8_append 69 = .ok (.getfield 59, 3) := by decide +kernel
theorem dX8_append_72 : decode cX8_append 72 = .ok (.ireturn, 1) := by decide +kernel
theorem dX8_truncate_0 : decode cX8_truncate 0 = .ok (.iload_n 1, 1) := by decide +kernel
theorem dX8_truncate_1 : decode cX8_truncate 1 = .ok (.ifCond .lt 14, 3) := by decide +kernel
theorem dX8_truncate_4 : decode cX8_truncate 4 = .ok (.iload_n 1, 1) := by decide +kernel
theorem dX8_truncate_5 : decode cX8_truncate 5 = .ok (.aload_n 0, 1) := by decide +kernel
theorem dX8_truncate_6 : decode cX8_truncate 6 = .ok (.getfield 10, 3) := by decide +kernel
theorem dX8_truncate_9 : decode cX8_truncate 9 = .ok (.getfield 59, 3) := by decide +kernel
theorem dX8_truncate_12 : decode cX8_truncate 12 = .ok (.if_icmp .le 13, 3) := by decide +kernel
theorem dX8_truncate_15 : decode cX8_truncate 15 = .ok (.new 74, 3) := by decide +kernel
theorem dX8_truncate_18 : decode cX8_truncate 18 = .ok (.dup, 1) := by decide +kernel
theorem dX8_truncate_19 : decode cX8_truncate 19 = .ok (.ldc 76, 2) := by decide +kernel
theorem dX8_truncate_21 : decode cX8_truncate 21 = .ok (.invokespecial 78, 3) := by decide +kernel
theorem dX8_truncate_24 : decode cX8_truncate 24 = .ok (.athrow, 1) := by decide +kernel
theorem dX8_truncate_25 : decode cX8_truncate 25 = .ok (.aload_n 0, 1) := by decide +kernel
theorem dX8_truncate_26 : decode cX8_truncate 26 = .ok (.getfield 10, 3) := by decide +kernel
theorem dX8_truncate_29 : decode cX8_truncate 29 = .ok (.iload_n 1, 1) := by decide +kernel
theorem dX8_truncate_30 : decode cX8_truncate 30 = .ok (.putfield 59, 3) := by decide +kernel
theorem dX8_truncate_33 : decode cX8_truncate 33 = .ok (.iload_n 1, 1) := by decide +kernel
theorem dX8_truncate_34 : decode cX8_truncate 34 = .ok (.ireturn, 1) := by decide +kernel
theorem dX8_load_0 : decode cX8_load 0 = .ok (.aload_n 0, 1) := by decide +kernel
theorem dX8_load_1 : decode cX8_load 1 = .ok (.getfield 10, 3) := by decide +kernel
theorem dX8_load_4 : decode cX8_load 4 = .ok (.aload_n 0, 1) := by decide +kernel
theorem dX8_load_5 : decode cX8_load 5 = .ok (.getfield 23, 3) := by decide +kernel
theorem dX8_load_8 : decode cX8_load 8 = .ok (.invokevirtual 79, 3) := by decide +kernel
theorem dX8_load_11 : decode cX8_load 11 = .ok (.aload_n 0, 1) := by decide +kernel
theorem dX8_load_12 : decode cX8_load 12 = .ok (.getfield 23, 3) := by decide +kernel
theorem dX8_load_15 : decode cX8_load 15 = .ok (.astore_n 1, 1) := by decide +kernel
theorem dX8_load_16 : decode cX8_load 16 = .ok (.aload_n 0, 1) := by decide +kernel
theorem dX8_load_17 : decode cX8_load 17 = .ok (.aload_n 0, 1) := by decide +kernel
theorem dX8_load_18 : decode cX8_load 18 = .ok (.getfield 19, 3) := by decide +kernel
theorem dX8_load_21 : decode cX8_load 21 = .ok (.putfield 23, 3) := by decide +kernel
theorem dX8_load_24 : decode cX8_load 24 = .ok (.aload_n 0, 1) := by decide +kernel
theorem dX8_load_25 : decode cX8_load 25 = .ok (.aload_n 1, 1) := by decide +kernel
theorem dX8_load_26 : decode cX8_load 26 = .ok (.putfield 19, 3) := by decide +kernel
theorem dX8_load_29 : decode cX8_load 29 = .ok (.aload_n 0, 1) := by decide +kernel
theorem dX8_load_30 : decode cX8_load 30 = .ok (.getfield 29, 3) := by decide +kernel
theorem dX8_load_33 : decode cX8_load 33 = .ok (.aload_n 0, 1) := by decide +kernel
theorem dX8_load_34 : decode cX8_load 34 = .ok (.getfield 19, 3) := by decide +kernel
theorem dX8_load_37 : decode cX8_load 37 = .ok (.invokevirtual 83, 3) := by decide +kernel
theorem dX8_load_40 : decode cX8_load 40 = .ok (.iconst 0, 1) := by decide +kernel
theorem dX8_load_41 : decode cX8_load 41 = .ok (.istore_n 2, 1) := by decide +kernel
theorem dX8_load_42 : decode cX8_load 42 = .ok (.iload_n 2, 1) := by decide +kernel
theorem dX8_load_43 : decode cX8_load 43 = .ok (.aload_n 0, 1) := by decide +kernel
theorem dX8_load_44 : decode cX8_load 44 = .ok (.getfield 37, 3) := by decide +kernel
theorem dX8_load_47 : decode cX8_load 47 = .ok (.arraylength, 1) := by decide +kernel
theorem dX8_load_48 : decode cX8_load 48 = .ok (.if_icmp .ge 16, 3) := by decide +kernel
theorem dX8_load_51 : decode cX8_load 51 = .ok (.aload_n 0, 1) := by decide +kernel
theorem dX8_load_52 : decode cX8_load 52 = .ok (.getfield 37, 3) := by decide +kernel
theorem dX8_load_55 : decode cX8_load 55 = .ok (.iload_n 2, 1) := by decide +kernel
theorem dX8_load_56 : decode cX8_load 56 = .ok (.iconst 0, 1) := by decide +kernel
theorem dX8_load_57 : decode cX8_load 57 = .ok (.bastore, 1) := by decide +kernel
theorem dX8_load_58 : decode cX8_load 58 = .ok (.iinc 2 1, 3) := by decide +kernel
theorem dX8_load_61 : decode cX8_load 61 = .ok (.goto (-19), 3) := by decide +kernel
theorem dX8_load_64 : decode cX8_load 64 = .ok (.aload_n 0, 1) := by decide +kernel
theorem dX8_load_65 : decode cX8_load 65 = .ok (.getfield 19, 3) := by decide +kernel
theorem dX8_load_68 : decode cX8_load 68 = .ok (.getfield 86, 3) := by decide +kernel
theorem dX8_load_71 : decode cX8_load 71 = .ok (.ireturn, 1) := by decide +kernel
theorem dX8_errorCode_0 : decode cX8_errorCode 0 = .ok (.aload_n 0, 1) := by decide +kernel
theorem dX8_errorCode_1 : decode cX8_errorCode 1 = .ok (.getfield 10, 3) := by decide +kernel
theorem dX8_errorCode_4 : decode cX8_errorCode 4 = .ok (.getfield 89, 3) := by decide +kernel
theorem dX8_errorCode_7 : decode cX8_errorCode 7 = .ok (.ireturn, 1) := by decide +kernel
theorem dX8_errorPosition_0 : decode cX8_errorPosition 0 = .ok (.aload_n 0, 1) := by decide +kernel
theorem dX8_errorPosition_1 : decode cX8_errorPosition 1 = .ok (.getfield 10, 3) := by decide +kernel
theorem dX8_errorPosition_4 : decode cX8_errorPosition 4 = .ok (.getfield 92, 3) := by decide +kernel
theorem dX8_errorPosition_7 : decode cX8_errorPosition 7 = .ok (.ireturn, 1) := by decide +kernel
theorem dX8_report_0 : decode cX8_report 0 = .ok (.iload_n 1, 1) := by decide +kernel
theorem dX8_report_1 : decode cX8_report 1 = .ok (.tableswitch 157 0 9 #[55, 66, 77, 88, 96, 104, 112, 120, 131, 146], 55) := by decide +kernel
theorem dX8_report_56 : decode cX8_report 56 = .ok (.aload_n 0, 1) := by decide +kernel
theorem dX8_report_57 : decode cX8_report 57 = .ok (.getfield 29, 3) := by decide +kernel
theorem dX8_report_60 : decode cX8_report 60 = .ok (.getfield 95, 3) := by decide +kernel
theorem dX8_report_63 : decode cX8_report 63 = .ok (.getfield 98, 3) := by decide +kernel
theorem dX8_report_66 : decode cX8_report 66 = .ok (.ireturn, 1) := by decide +kernel
theorem dX8_report_67 : decode cX8_report 67 = .ok (.aload_n 0, 1) := by decide +kernel
theorem dX8_report_68 : decode cX8_report 68 = .ok (.getfield 29, 3) := by decide +kernel
theorem dX8_report_71 : decode cX8_report 71 = .ok (.getfield 95, 3) := by decide +kernel
theorem dX8_report_74 : decode cX8_report 74 = .ok (.invokevirtual 101, 3) := by decide +kernel
theorem dX8_report_77 : decode cX8_report 77 = .ok (.ireturn, 1) := by decide +kernel
theorem dX8_report_78 : decode cX8_report 78 = .ok (.aload_n 0, 1) := by decide +kernel
theorem dX8_report_79 : decode cX8_report 79 = .ok (.getfield 29, 3) := by decide +kernel
theorem dX8_report_82 : decode cX8_report 82 = .ok (.getfield 95, 3) := by decide +kernel
theorem dX8_report_85 : decode cX8_report 85 = .ok (.invokevirtual 105, 3) := by decide +kernel
theorem dX8_report_88 : decode cX8_report 88 = .ok (.ireturn, 1) := by decide +kernel
theorem dX8_report_89 : decode cX8_report 89 = .ok (.aload_n 0, 1) := by decide +kernel
theorem dX8_report_90 : decode cX8_report 90 = .ok (.getfield 19, 3) := by decide +kernel
theorem dX8_report_93 : decode cX8_report 93 = .ok (.getfield 86, 3) := by decide +kernel
theorem dX8_report_96 : decode cX8_report 96 = .ok (.ireturn, 1) := by decide +kernel
theorem dX8_report_97 : decode cX8_report 97 = .ok (.aload_n 0, 1) := by decide +kernel
theorem dX8_report_98 : decode cX8_report 98 = .ok (.getfield 19, 3) := by decide +kernel
theorem dX8_report_101 : decode cX8_report 101 = .ok (.getfield 108, 3) := by decide +kernel
theorem dX8_report_104 : decode cX8_report 104 = .ok (.ireturn, 1) := by decide +kernel
theorem dX8_report_105 : decode cX8_report 105 = .ok (.aload_n 0, 1) := by decide +kernel
theorem dX8_report_106 : decode cX8_report 106 = .ok (.getfield 29, 3) := by decide +kernel
theorem dX8_report_109 : decode cX8_report 109 = .ok (.invokevirtual 111, 3) := by decide +kernel
theorem dX8_report_112 : decode cX8_report 112 = .ok (.ireturn, 1) := by decide +kernel
theorem dX8_report_113 : decode cX8_report 113 = .ok (.aload_n 0, 1) := by decide +kernel
theorem dX8_report_114 : decode cX8_report 114 = .ok (.getfield 29, 3) := by decide +kernel
theorem dX8_report_117 : decode cX8_report 117 = .ok (.getfield 114, 3) := by decide +kernel
theorem dX8_report_120 : decode cX8_report 120 = .ok (.ireturn, 1) := by decide +kernel
theorem dX8_report_121 : decode cX8_report 121 = .ok (.aload_n 0, 1) := by decide +kernel
theorem dX8_report_122 : decode cX8_report 122 = .ok (.getfield 29, 3) := by decide +kernel
theorem dX8_report_125 : decode cX8_report 125 = .ok (.getfield 95, 3) := by decide +kernel
theorem dX8_report_128 : decode cX8_report 128 = .ok (.getfield 117, 3) := by decide +kernel
theorem dX8_report_131 : decode cX8_report 131 = .ok (.ireturn, 1) := by decide +kernel
theorem dX8_report_132 : decode cX8_report 132 = .ok (.aload_n 0, 1) := by decide +kernel
theorem dX8_report_133 : decode cX8_report 133 = .ok (.getfield 29, 3) := by decide +kernel
theorem dX8_report_136 : decode cX8_report 136 = .ok (.getfield 95, 3) := by decide +kernel
theorem dX8_report_139 : decode cX8_report 139 = .ok (.aload_n 0, 1) := by decide +kernel
theorem dX8_report_140 : decode cX8_report 140 = .ok (.getfield 19, 3) := by decide +kernel
theorem dX8_report_143 : decode cX8_report 143 = .ok (.invokevirtual 120, 3) := by decide +kernel
theorem dX8_report_146 : decode cX8_report 146 = .ok (.ireturn, 1) := by decide +kernel
theorem dX8_report_147 : decode cX8_report 147 = .ok (.aload_n 0, 1) := by decide +kernel
theorem dX8_report_148 : decode cX8_report 148 = .ok (.getfield 29, 3) := by decide +kernel
theorem dX8_report_151 : decode cX8_report 151 = .ok (.getfield 95, 3) := by decide +kernel
theorem dX8_report_154 : decode cX8_report 154 = .ok (.getfield 124, 3) := by decide +kernel
theorem dX8_report_157 : decode cX8_report 157 = .ok (.ireturn, 1) := by decide +kernel
theorem dX8_report_158 : decode cX8_report 158 = .ok (.new 127, 3) := by decide +kernel
theorem dX8_report_161 : decode cX8_report 161 = .ok (.dup, 1) := by decide +kernel
theorem dX8_report_162 : decode cX8_report 162 = .ok (.ldc 129, 2) := by decide +kernel
theorem dX8_report_164 : decode cX8_report 164 = .ok (.invokespecial 131, 3) := by decide +kernel
theorem dX8_report_167 : decode cX8_report 167 = .ok (.athrow, 1) := by decide +kernel
theorem dX8_setPoint_0 : decode cX8_setPoint 0 = .ok (.iload_n 1, 1) := by decide +kernel
theorem dX8_setPoint_1 : decode cX8_setPoint 1 = .ok (.ifCond .lt 10, 3) := by decide +kernel
theorem dX8_setPoint_4 : decode cX8_setPoint 4 = .ok (.iload_n 1, 1) := by decide +kernel
theorem dX8_setPoint_5 : decode cX8_setPoint 5 = .ok (.sipush 365, 3) := by decide +kernel
theorem dX8_setPoint_8 : decode cX8_setPoint 8 = .ok (.if_icmp .lt 13, 3) := by decide +kernel
theorem dX8_setPoint_11 : decode cX8_setPoint 11 = .ok (.new 127, 3) := by decide +kernel
theorem dX8_setPoint_14 : decode cX8_setPoint 14 = .ok (.dup, 1) := by decide +kernel
theorem dX8_setPoint_15 : decode cX8_setPoint 15 = .ok (.ldc 132, 2) := by decide +kernel
theorem dX8_setPoint_17 : decode cX8_setPoint 17 = .ok (.invokespecial 131, 3) := by decide +kernel
theorem dX8_setPoint_20 : decode cX8_setPoint 20 = .ok (.athrow, 1) := by decide +kernel
theorem dX8_setPoint_21 : decode cX8_setPoint 21 = .ok (.aload_n 0, 1) := by decide +kernel
theorem dX8_setPoint_22 : decode cX8_setPoint 22 = .ok (.getfield 19, 3) := by decide +kernel
theorem dX8_setPoint_25 : decode cX8_setPoint 25 = .ok (.iload_n 1, 1) := by decide +kernel
theorem dX8_setPoint_26 : decode cX8_setPoint 26 = .ok (.invokevirtual 134, 3) := by decide +kernel
theorem dX8_setPoint_29 : decode cX8_setPoint 29 = .ok (.ireturn, 1) := by decide +kernel
theorem dX8_visitors_0 : decode cX8_visitors 0 = .ok (.iload_n 1, 1) := by decide +kernel
theorem dX8_visitors_1 : decode cX8_visitors 1 = .ok (.ifCond .lt 9, 3) := by decide +kernel
theorem dX8_visitors_4 : decode cX8_visitors 4 = .ok (.iload_n 1, 1) := by decide +kernel
theorem dX8_visitors_5 : decode cX8_visitors 5 = .ok (.bipush 24, 2) := by decide +kernel
theorem dX8_visitors_7 : decode cX8_visitors 7 = .ok (.if_icmp .lt 13, 3) := by decide +kernel
theorem dX8_visitors_10 : decode cX8_visitors 10 = .ok (.new 127, 3) := by decide +kernel
theorem dX8_visitors_13 : decode cX8_visitors 13 = .ok (.dup, 1) := by decide +kernel
theorem dX8_visitors_14 : decode cX8_visitors 14 = .ok (.ldc 138, 2) := by decide +kernel
theorem dX8_visitors_16 : decode cX8_visitors 16 = .ok (.invokespecial 131, 3) := by decide +kernel
theorem dX8_visitors_19 : decode cX8_visitors 19 = .ok (.athrow, 1) := by decide +kernel
theorem dX8_visitors_20 : decode cX8_visitors 20 = .ok (.aload_n 0, 1) := by decide +kernel
theorem dX8_visitors_21 : decode cX8_visitors 21 = .ok (.getfield 19, 3) := by decide +kernel
theorem dX8_visitors_24 : decode cX8_visitors 24 = .ok (.iload_n 1, 1) := by decide +kernel
theorem dX8_visitors_25 : decode cX8_visitors 25 = .ok (.invokevirtual 140, 3) := by decide +kernel
theorem dX8_visitors_28 : decode cX8_visitors 28 = .ok (.ireturn, 1) := by decide +kernel
theorem dX8_content_0 : decode cX8_content 0 = .ok (.aload_n 0, 1) := by decide +kernel
theorem dX8_content_1 : decode cX8_content 1 = .ok (.iload_n 1, 1) := by decide +kernel
theorem dX8_content_2 : decode cX8_content 2 = .ok (.invokevirtual 143, 3) := by decide +kernel
theorem dX8_content_5 : decode cX8_content 5 = .ok (.iload_n 2, 1) := by decide +kernel
theorem dX8_content_6 : decode cX8_content 6 = .ok (.invokevirtual 147, 3) := by decide +kernel
theorem dX8_content_9 : decode cX8_content 9 = .ok (.ireturn, 1) := by decide +kernel
theorem dX8_announce_0 : decode cX8_announce 0 = .ok (.iload_n 1, 1) := by decide +kernel
theorem dX8_announce_1 : decode cX8_announce 1 = .ok (.iconst 1, 1) := by decide +kernel
theorem dX8_announce_2 : decode cX8_announce 2 = .ok (.if_icmp .lt 10, 3) := by decide +kernel
theorem dX8_announce_5 : decode cX8_announce 5 = .ok (.iload_n 1, 1) := by decide +kernel
theorem dX8_announce_6 : decode cX8_announce 6 = .ok (.sipush 999, 3) := by decide +kernel
theorem dX8_announce_9 : decode cX8_announce 9 = .ok (.if_icmp .le 13, 3) := by decide +kernel
theorem dX8_announce_12 : decode cX8_announce 12 = .ok (.new 127, 3) := by decide +kernel
theorem dX8_announce_15 : decode cX8_announce 15 = .ok (.dup, 1) := by decide +kernel
theorem dX8_announce_16 : decode cX8_announce 16 = .ok (.ldc 152, 2) := by decide +kernel
theorem dX8_announce_18 : decode cX8_announce 18 = .ok (.invokespecial 131, 3) := by decide +kernel
theorem dX8_announce_21 : decode cX8_announce 21 = .ok (.athrow, 1) := by decide +kernel
theorem dX8_announce_22 : decode cX8_announce 22 = .ok (.iload_n 1, 1) := by decide +kernel
theorem dX8_announce_23 : decode cX8_announce 23 = .ok (.sipush 5000, 3) := by decide +kernel
theorem dX8_announce_26 : decode cX8_announce 26 = .ok (.aload_n 0, 1) := by decide +kernel
theorem dX8_announce_27 : decode cX8_announce 27 = .ok (.getfield 29, 3) := by decide +kernel
theorem dX8_announce_30 : decode cX8_announce 30 = .ok (.getfield 95, 3) := by decide +kernel
theorem dX8_announce_33 : decode cX8_announce 33 = .ok (.getfield 124, 3) := by decide +kernel
theorem dX8_announce_36 : decode cX8_announce 36 = .ok (.isub, 1) := by decide +kernel
theorem dX8_announce_37 : decode cX8_announce 37 = .ok (.if_icmp .le 13, 3) := by decide +kernel
theorem dX8_announce_40 : decode cX8_announce 40 = .ok (.new 63, 3) := by decide +kernel
theorem dX8_announce_43 : decode cX8_announce 43 = .ok (.dup, 1) := by decide +kernel
theorem dX8_announce_44 : decode cX8_announce 44 = .ok (.ldc 154, 2) := by decide +kernel
theorem dX8_announce_46 : decode cX8_announce 46 = .ok (.invokespecial 67, 3) := by decide +kernel
theorem dX8_announce_49 : decode cX8_announce 49 = .ok (.athrow, 1) := by decide +kernel
theorem dX8_announce_50 : decode cX8_announce 50 = .ok (.aload_n 0, 1) := by decide +kernel
theorem dX8_announce_51 : decode cX8_announce 51 = .ok (.getfield 29, 3) := by decide +kernel
theorem dX8_announce_54 : decode cX8_announce 54 = .ok (.getfield 95, 3) := by decide +kernel
theorem dX8_announce_57 : decode cX8_announce 57 = .ok (.dup, 1) := by decide +kernel
theorem dX8_announce_58 : decode cX8_announce 58 = .ok (.getfield 124, 3) := by decide +kernel
theorem dX8_announce_61 : decode cX8_announce 61 = .ok (.iload_n 1, 1) := by decide +kernel
theorem dX8_announce_62 : decode cX8_announce 62 = .ok (.iadd, 1) := by decide +kernel
theorem dX8_announce_63 : decode cX8_announce 63 = .ok (.putfield 124, 3) := by decide +kernel
theorem dX8_announce_66 : decode cX8_announce 66 = .ok (.aload_n 0, 1) := by decide +kernel
theorem dX8_announce_67 : decode cX8_announce 67 = .ok (.getfield 29, 3) := by decide +kernel
theorem dX8_announce_70 : decode cX8_announce 70 = .ok (.getfield 95, 3) := by decide +kernel
theorem dX8_announce_73 : decode cX8_announce 73 = .ok (.getfield 124, 3) := by decide +kernel
theorem dX8_announce_76 : decode cX8_announce 76 = .ok (.ireturn, 1) := by decide +kernel
theorem dX8_displayCase_0 : decode cX8_displayCase 0 = .ok (.aload_n 0, 1) := by decide +kernel
theorem dX8_displayCase_1 : decode cX8_displayCase 1 = .ok (.iload_n 1, 1) := by decide +kernel
theorem dX8_displayCase_2 : decode cX8_displayCase 2 = .ok (.invokevirtual 156, 3) := by decide +kernel
theorem dX8_displayCase_5 : decode cX8_displayCase 5 = .ok (.astore_n 3, 1) := by decide +kernel
theorem dX8_displayCase_6 : decode cX8_displayCase 6 = .ok (.aload_n 0, 1) := by decide +kernel
theorem dX8_displayCase_7 : decode cX8_displayCase 7 = .ok (.iload_n 1, 1) := by decide +kernel
theorem dX8_displayCase_8 : decode cX8_displayCase 8 = .ok (.invokevirtual 160, 3) := by decide +kernel
theorem dX8_displayCase_11 : decode cX8_displayCase 11 = .ok (.astore 4, 2) := by decide +kernel
theorem dX8_displayCase_13 : decode cX8_displayCase 13 = .ok (.iload_n 2, 1) := by decide +kernel
theorem dX8_displayCase_14 : decode cX8_displayCase 14 = .ok (.tableswitch 116 0 10 #[58, 63, 68, 73, 78, 83, 88, 93, 98, 104, 110], 58) := by decide +kernel
theorem dX8_displayCase_72 : decode cX8_displayCase 72 = .ok (.aload_n 3, 1) := by decide +kernel
theorem dX8_displayCase_73 : decode cX8_displayCase 73 = .ok (.getfield 164, 3) := by decide +kernel
theorem dX8_displayCase_76 : decode cX8_displayCase 76 = .ok (.ireturn, 1) := by decide +kernel
theorem dX8_displayCase_77 : decode cX8_displayCase 77 = .ok (.aload_n 3, 1) := by decide +kernel
theorem dX8_displayCase_78 : decode cX8_displayCase 78 = .ok (.getfield 167, 3) := by decide +kernel
theorem dX8_displayCase_81 : decode cX8_displayCase 81 = .ok (.ireturn, 1) := by decide +kernel
theorem dX8_displayCase_82 : decode cX8_displayCase 82 = .ok (.aload_n 3, 1) := by decide +kernel
theorem dX8_displayCase_83 : decode cX8_displayCase 83 = .ok (.getfield 170, 3) := by decide +kernel
theorem dX8_displayCase_86 : decode cX8_displayCase 86 = .ok (.ireturn, 1) := by decide +kernel
theorem dX8_displayCase_87 : decode cX8_displayCase 87 = .ok (.aload_n 3, 1) := by decide +kernel
theorem dX8_displayCase_88 : decode cX8_displayCase 88 = .ok (.invokevirtual 173, 3) := by decide +kernel
theorem dX8_displayCase_91 : decode cX8_displayCase 91 = .ok (.ireturn, 1) := by decide +kernel
theorem dX8_displayCase_92 : decode cX8_displayCase 92 = .ok (.aload_n 3, 1) := by decide +kernel
theorem dX8_displayCase_93 : decode cX8_displayCase 93 = .ok (.getfield 175, 3) := by decide +kernel
theorem dX8_displayCase_96 : decode cX8_displayCase 96 = .ok (.ireturn, 1) := by decide +kernel
theorem dX8_displayCase_97 : decode cX8_displayCase 97 = .ok (.aload_n 3, 1) := by decide +kernel
theorem dX8_displayCase_98 : decode cX8_displayCase 98 = .ok (.invokevirtual 178, 3) := by decide +kernel
theorem dX8_displayCase_101 : decode cX8_displayCase 101 = .ok (.ireturn, 1) := by decide +kernel
theorem dX8_displayCase_102 : decode cX8_displayCase 102 = .ok (.aload_n 3, 1) := by decide +kernel
theorem dX8_displayCase_103 : decode cX8_displayCase 103 = .ok (.getfield 181, 3) := by decide +kernel
theorem dX8_displayCase_106 : decode cX8_displayCase 106 = .ok (.ireturn, 1) := by decide +kernel
theorem dX8_displayCase_107 : decode cX8_displayCase 107 = .ok (.aload_n 3, 1) := by decide +kernel
theorem dX8_displayCase_108 : decode cX8_displayCase 108 = .ok (.getfield 184, 3) := by decide +kernel
theorem dX8_displayCase_111 : decode cX8_displayCase 111 = .ok (.ireturn, 1) := by decide +kernel
theorem dX8_displayCase_112 : decode cX8_displayCase 112 = .ok (.aload 4, 2) := by decide +kernel
theorem dX8_displayCase_114 : decode cX8_displayCase 114 = .ok (.getfield 187, 3) := by decide +kernel
theorem dX8_displayCase_117 : decode cX8_displayCase 117 = .ok (.ireturn, 1) := by decide +kernel
theorem dX8_displayCase_118 : decode cX8_displayCase 118 = .ok (.aload 4, 2) := by decide +kernel
theorem dX8_displayCase_120 : decode cX8_displayCase 120 = .ok (.getfield 192, 3) := by decide +kernel
theorem dX8_displayCase_123 : decode cX8_displayCase 123 = .ok (.ireturn, 1) := by decide +kernel
theorem dX8_displayCase_124 : decode cX8_displayCase 124 = .ok (.aload 4, 2) := by decide +kernel
theorem dX8_displayCase_126 : decode cX8_displayCase 126 = .ok (.getfield 195, 3) := by decide +kernel
theorem dX8_displayCase_129 : decode cX8_displayCase 129 = .ok (.ireturn, 1) := by decide +kernel
theorem dX8_displayCase_130 : decode cX8_displayCase 130 = .ok (.new 127, 3) := by decide +kernel
theorem dX8_displayCase_133 : decode cX8_displayCase 133 = .ok (.dup, 1) := by decide +kernel
theorem dX8_displayCase_134 : decode cX8_displayCase 134 = .ok (.ldc 198, 2) := by decide +kernel
theorem dX8_displayCase_136 : decode cX8_displayCase 136 = .ok (.invokespecial 131, 3) := by decide +kernel
theorem dX8_displayCase_139 : decode cX8_displayCase 139 = .ok (.athrow, 1) := by decide +kernel
theorem dX8_balance_0 : decode cX8_balance 0 = .ok (.aload_n 0, 1) := by decide +kernel
theorem dX8_balance_1 : decode cX8_balance 1 = .ok (.iload_n 1, 1) := by decide +kernel
theorem dX8_balance_2 : decode cX8_balance 2 = .ok (.invokevirtual 156, 3) := by decide +kernel
theorem dX8_balance_5 : decode cX8_balance 5 = .ok (.astore_n 3, 1) := by decide +kernel
theorem dX8_balance_6 : decode cX8_balance 6 = .ok (.aload_n 0, 1) := by decide +kernel
theorem dX8_balance_7 : decode cX8_balance 7 = .ok (.iload_n 1, 1) := by decide +kernel
theorem dX8_balance_8 : decode cX8_balance 8 = .ok (.invokevirtual 160, 3) := by decide +kernel
theorem dX8_balance_11 : decode cX8_balance 11 = .ok (.astore 4, 2) := by decide +kernel
theorem dX8_balance_13 : decode cX8_balance 13 = .ok (.iload_n 2, 1) := by decide +kernel
theorem dX8_balance_14 : decode cX8_balance 14 = .ok (.tableswitch 64 0 4 #[34, 40, 46, 52, 58], 34) := by decide +kernel
theorem dX8_balance_48 : decode cX8_balance 48 = .ok (.aload 4, 2) := by decide +kernel
theorem dX8_balance_50 : decode cX8_balance 50 = .ok (.getfield 200, 3) := by decide +kernel
theorem dX8_balance_53 : decode cX8_balance 53 = .ok (.lreturn, 1) := by decide +kernel
theorem dX8_balance_54 : decode cX8_balance 54 = .ok (.aload 4, 2) := by decide +kernel
theorem dX8_balance_56 : decode cX8_balance 56 = .ok (.getfield 204, 3) := by decide +kernel
theorem dX8_balance_59 : decode cX8_balance 59 = .ok (.lreturn, 1) := by decide +kernel
theorem dX8_balance_60 : decode cX8_balance 60 = .ok (.aload 4, 2) := by decide +kernel
theorem dX8_balance_62 : decode cX8_balance 62 = .ok (.getfield 207, 3) := by decide +kernel
theorem dX8_balance_65 : decode cX8_balance 65 = .ok (.lreturn, 1) := by decide +kernel
theorem dX8_balance_66 : decode cX8_balance 66 = .ok (.aload 4, 2) := by decide +kernel
theorem dX8_balance_68 : decode cX8_balance 68 = .ok (.getfield 210, 3) := by decide +kernel
theorem dX8_balance_71 : decode cX8_balance 71 = .ok (.lreturn, 1) := by decide +kernel
theorem dX8_balance_72 : decode cX8_balance 72 = .ok (.aload_n 3, 1) := by decide +kernel
theorem dX8_balance_73 : decode cX8_balance 73 = .ok (.invokevirtual 213, 3) := by decide +kernel
theorem dX8_balance_76 : decode cX8_balance 76 = .ok (.i2l, 1) := by decide +kernel
theorem dX8_balance_77 : decode cX8_balance 77 = .ok (.lreturn, 1) := by decide +kernel
theorem dX8_balance_78 : decode cX8_balance 78 = .ok (.new 127, 3) := by decide +kernel
theorem dX8_balance_81 : decode cX8_balance 81 = .ok (.dup, 1) := by decide +kernel
theorem dX8_balance_82 : decode cX8_balance 82 = .ok (.ldc 216, 2) := by decide +kernel
theorem dX8_balance_84 : decode cX8_balance 84 = .ok (.invokespecial 131, 3) := by decide +kernel
theorem dX8_balance_87 : decode cX8_balance 87 = .ok (.athrow, 1) := by decide +kernel
theorem dX8_recorded_0 : decode cX8_recorded 0 = .ok (.aload_n 0, 1) := by decide +kernel
theorem dX8_recorded_1 : decode cX8_recorded 1 = .ok (.iload_n 1, 1) := by decide +kernel
theorem dX8_recorded_2 : decode cX8_recorded 2 = .ok (.invokevirtual 160, 3) := by decide +kernel
theorem dX8_recorded_5 : decode cX8_recorded 5 = .ok (.astore_n 3, 1) := by decide +kernel
theorem dX8_recorded_6 : decode cX8_recorded 6 = .ok (.iload_n 2, 1) := by decide +kernel
theorem dX8_recorded_7 : decode cX8_recorded 7 = .ok (.ifCond .lt 9, 3) := by decide +kernel
theorem dX8_recorded_10 : decode cX8_recorded 10 = .ok (.iload_n 2, 1) := by decide +kernel
theorem dX8_recorded_11 : decode cX8_recorded 11 = .ok (.bipush 24, 2) := by decide +kernel
theorem dX8_recorded_13 : decode cX8_recorded 13 = .ok (.if_icmp .lt 13, 3) := by decide +kernel
theorem dX8_recorded_16 : decode cX8_recorded 16 = .ok (.new 127, 3) := by decide +kernel
theorem dX8_recorded_19 : decode cX8_recorded 19 = .ok (.dup, 1) := by decide +kernel
theorem dX8_recorded_20 : decode cX8_recorded 20 = .ok (.ldc 218, 2) := by decide +kernel
theorem dX8_recorded_22 : decode cX8_recorded 22 = .ok (.invokespecial 131, 3) := by decide +kernel
theorem dX8_recorded_25 : decode cX8_recorded 25 = .ok (.athrow, 1) := by decide +kernel
theorem dX8_recorded_26 : decode cX8_recorded 26 = .ok (.iload_n 2, 1) := by decide +kernel
theorem dX8_recorded_27 : decode cX8_recorded 27 = .ok (.aload_n 0, 1) := by decide +kernel
theorem dX8_recorded_28 : decode cX8_recorded 28 = .ok (.getfield 29, 3) := by decide +kernel
theorem dX8_recorded_31 : decode cX8_recorded 31 = .ok (.getfield 95, 3) := by decide +kernel
theorem dX8_recorded_34 : decode cX8_recorded 34 = .ok (.getfield 98, 3) := by decide +kernel
theorem dX8_recorded_37 : decode cX8_recorded 37 = .ok (.if_icmp .lt 13, 3) := by decide +kernel
theorem dX8_recorded_40 : decode cX8_recorded 40 = .ok (.new 220, 3) := by decide +kernel
theorem dX8_recorded_43 : decode cX8_recorded 43 = .ok (.dup, 1) := by decide +kernel
theorem dX8_recorded_44 : decode cX8_recorded 44 = .ok (.ldc 222, 2) := by decide +kernel
theorem dX8_recorded_46 : decode cX8_recorded 46 = .ok (.invokespecial 224, 3) := by decide +kernel
theorem dX8_recorded_49 : decode cX8_recorded 49 = .ok (.athrow, 1) := by decide +kernel
theorem dX8_recorded_50 : decode cX8_recorded 50 = .ok (.aload_n 3, 1) := by decide +kernel
theorem dX8_recorded_51 : decode cX8_recorded 51 = .ok (.aload_n 0, 1) := by decide +kernel
theorem dX8_recorded_52 : decode cX8_recorded 52 = .ok (.getfield 29, 3) := by decide +kernel
theorem dX8_recorded_55 : decode cX8_recorded 55 = .ok (.getfield 95, 3) := by decide +kernel
theorem dX8_recorded_58 : decode cX8_recorded 58 = .ok (.getfield 98, 3) := by decide +kernel
theorem dX8_recorded_61 : decode cX8_recorded 61 = .ok (.iconst 1, 1) := by decide +kernel
theorem dX8_recorded_62 : decode cX8_recorded 62 = .ok (.isub, 1) := by decide +kernel
theorem dX8_recorded_63 : decode cX8_recorded 63 = .ok (.iload_n 2, 1) := by decide +kernel
theorem dX8_recorded_64 : decode cX8_recorded 64 = .ok (.isub, 1) := by decide +kernel
theorem dX8_recorded_65 : decode cX8_recorded 65 = .ok (.invokevirtual 225, 3) := by decide +kernel
theorem dX8_recorded_68 : decode cX8_recorded 68 = .ok (.ireturn, 1) := by decide +kernel
theorem dX8_swing_0 : decode cX8_swing 0 = .ok (.aload_n 0, 1) := by decide +kernel
theorem dX8_swing_1 : decode cX8_swing 1 = .ok (.iload_n 1, 1) := by decide +kernel
theorem dX8_swing_2 : decode cX8_swing 2 = .ok (.invokevirtual 160, 3) := by decide +kernel
theorem dX8_swing_5 : decode cX8_swing 5 = .ok (.astore_n 2, 1) := by decide +kernel
theorem dX8_swing_6 : decode cX8_swing 6 = .ok (.aload_n 0, 1) := by decide +kernel
theorem dX8_swing_7 : decode cX8_swing 7 = .ok (.invokevirtual 228, 3) := by decide +kernel
theorem dX8_swing_10 : decode cX8_swing 10 = .ok (.aload_n 2, 1) := by decide +kernel
theorem dX8_swing_11 : decode cX8_swing 11 = .ok (.aload_n 0, 1) := by decide +kernel
theorem dX8_swing_12 : decode cX8_swing 12 = .ok (.getfield 29, 3) := by decide +kernel
theorem dX8_swing_15 : decode cX8_swing 15 = .ok (.getfield 95, 3) := by decide +kernel
theorem dX8_swing_18 : decode cX8_swing 18 = .ok (.getfield 98, 3) := by decide +kernel
theorem dX8_swing_21 : decode cX8_swing 21 = .ok (.invokevirtual 231, 3) := by decide +kernel
theorem dX8_swing_24 : decode cX8_swing 24 = .ok (.ireturn, 1) := by decide +kernel
theorem dX8_mean_0 : decode cX8_mean 0 = .ok (.aload_n 0, 1) := by decide +kernel
theorem dX8_mean_1 : decode cX8_mean 1 = .ok (.iload_n 1, 1) := by decide +kernel
theorem dX8_mean_2 : decode cX8_mean 2 = .ok (.invokevirtual 160, 3) := by decide +kernel
theorem dX8_mean_5 : decode cX8_mean 5 = .ok (.astore_n 2, 1) := by decide +kernel
theorem dX8_mean_6 : decode cX8_mean 6 = .ok (.aload_n 0, 1) := by decide +kernel
theorem dX8_mean_7 : decode cX8_mean 7 = .ok (.invokevirtual 228, 3) := by decide +kernel
theorem dX8_mean_10 : decode cX8_mean 10 = .ok (.aload_n 2, 1) := by decide +kernel
theorem dX8_mean_11 : decode cX8_mean 11 = .ok (.getfield 234, 3) := by decide +kernel
theorem dX8_mean_14 : decode cX8_mean 14 = .ok (.l2d, 1) := by decide +kernel
theorem dX8_mean_15 : decode cX8_mean 15 = .ok (.aload_n 0, 1) := by decide +kernel
theorem dX8_mean_16 : decode cX8_mean 16 = .ok (.getfield 29, 3) := by decide +kernel
theorem dX8_mean_19 : decode cX8_mean 19 = .ok (.getfield 95, 3) := by decide +kernel
theorem dX8_mean_22 : decode cX8_mean 22 = .ok (.getfield 98, 3) := by decide +kernel
theorem dX8_mean_25 : decode cX8_mean 25 = .ok (.i2d, 1) := by decide +kernel
theorem dX8_mean_26 : decode cX8_mean 26 = .ok (.ddiv, 1) := by decide +kernel
theorem dX8_mean_27 : decode cX8_mean 27 = .ok (.dreturn, 1) := by decide +kernel
theorem dX8_buffering_0 : decode cX8_buffering 0 = .ok (.aload_n 0, 1) := by decide +kernel
theorem dX8_buffering_1 : decode cX8_buffering 1 = .ok (.iload_n 1, 1) := by decide +kernel
theorem dX8_buffering_2 : decode cX8_buffering 2 = .ok (.invokevirtual 156, 3) := by decide +kernel
theorem dX8_buffering_5 : decode cX8_buffering 5 = .ok (.astore_n 2, 1) := by decide +kernel
theorem dX8_buffering_6 : decode cX8_buffering 6 = .ok (.aload_n 2, 1) := by decide +kernel
theorem dX8_buffering_7 : decode cX8_buffering 7 = .ok (.invokevirtual 213, 3) := by decide +kernel
theorem dX8_buffering_10 : decode cX8_buffering 10 = .ok (.istore_n 3, 1) := by decide +kernel
theorem dX8_buffering_11 : decode cX8_buffering 11 = .ok (.iload_n 3, 1) := by decide +kernel
theorem dX8_buffering_12 : decode cX8_buffering 12 = .ok (.ifCond .ne 13, 3) := by decide +kernel
theorem dX8_buffering_15 : decode cX8_buffering 15 = .ok (.new 220, 3) := by decide +kernel
theorem dX8_buffering_18 : decode cX8_buffering 18 = .ok (.dup, 1) := by decide +kernel
theorem dX8_buffering_19 : decode cX8_buffering 19 = .ok (.ldc 237, 2) := by decide +kernel
theorem dX8_buffering_21 : decode cX8_buffering 21 = .ok (.invokespecial 224, 3) := by decide +kernel
theorem dX8_buffering_24 : decode cX8_buffering 24 = .ok (.athrow, 1) := by decide +kernel
theorem dX8_buffering_25 : decode cX8_buffering 25 = .ok (.aload_n 2, 1) := by decide +kernel
theorem dX8_buffering_26 : decode cX8_buffering 26 = .ok (.invokevirtual 178, 3) := by decide +kernel
theorem dX8_buffering_29 : decode cX8_buffering 29 = .ok (.i2f, 1) := by decide +kernel
theorem dX8_buffering_30 : decode cX8_buffering 30 = .ok (.iload_n 3, 1) := by decide +kernel
theorem dX8_buffering_31 : decode cX8_buffering 31 = .ok (.i2f, 1) := by decide +kernel
theorem dX8_buffering_32 : decode cX8_buffering 32 = .ok (.fdiv, 1) := by decide +kernel
theorem dX8_buffering_33 : decode cX8_buffering 33 = .ok (.f2d, 1) := by decide +kernel
theorem dX8_buffering_34 : decode cX8_buffering 34 = .ok (.dreturn, 1) := by decide +kernel
theorem dX8_setLeak_0 : decode cX8_setLeak 0 = .ok (.aload_n 0, 1) := by decide +kernel
theorem dX8_setLeak_1 : decode cX8_setLeak 1 = .ok (.iload_n 1, 1) := by decide +kernel
theorem dX8_setLeak_2 : decode cX8_setLeak 2 = .ok (.invokevirtual 156, 3) := by decide +kernel
theorem dX8_setLeak_5 : decode cX8_setLeak 5 = .ok (.astore_n 3, 1) := by decide +kernel
theorem dX8_setLeak_6 : decode cX8_setLeak 6 = .ok (.iload_n 2, 1) := by decide +kernel
theorem dX8_setLeak_7 : decode cX8_setLeak 7 = .ok (.ifCond .lt 10, 3) := by decide +kernel
theorem dX8_setLeak_10 : decode cX8_setLeak 10 = .ok (.iload_n 2, 1) := by decide +kernel
theorem dX8_setLeak_11 : decode cX8_setLeak 11 = .ok (.sipush 1000, 3) := by decide +kernel
theorem dX8_setLeak_14 : decode cX8_setLeak 14 = .ok (.if_icmp .le 13, 3) := by decide +kernel
theorem dX8_setLeak_17 : decode cX8_setLeak 17 = .ok (.new 127, 3) := by decide +kernel
theorem dX8_setLeak_20 : decode cX8_setLeak 20 = .ok (.dup, 1) := by decide +kernel
theorem dX8_setLeak_21 : decode cX8_setLeak 21 = .ok (.ldc 239, 2) := by decide +kernel
theorem dX8_setLeak_23 : decode cX8_setLeak 23 = .ok (.invokespecial 131, 3) := by decide +kernel
theorem dX8_setLeak_26 : decode cX8_setLeak 26 = .ok (.athrow, 1) := by decide +kernel
theorem dX8_setLeak_27 : decode cX8_setLeak 27 = .ok (.aload_n 3, 1) := by decide +kernel
theorem dX8_setLeak_28 : decode cX8_setLeak 28 = .ok (.getfield 167, 3) := by decide +kernel
theorem dX8_setLeak_31 : decode cX8_setLeak 31 = .ok (.istore 4, 2) := by decide +kernel
theorem dX8_setLeak_33 : decode cX8_setLeak 33 = .ok (.aload_n 3, 1) := by decide +kernel
theorem dX8_setLeak_34 : decode cX8_setLeak 34 = .ok (.iload_n 2, 1) := by decide +kernel
theorem dX8_setLeak_35 : decode cX8_setLeak 35 = .ok (.putfield 167, 3) := by decide +kernel
theorem dX8_setLeak_38 : decode cX8_setLeak 38 = .ok (.iload 4, 2) := by decide +kernel
theorem dX8_setLeak_40 : decode cX8_setLeak 40 = .ok (.ireturn, 1) := by decide +kernel
theorem dX8_setSafe_0 : decode cX8_setSafe 0 = .ok (.aload_n 0, 1) := by decide +kernel
theorem dX8_setSafe_1 : decode cX8_setSafe 1 = .ok (.iload_n 1, 1) := by decide +kernel
theorem dX8_setSafe_2 : decode cX8_setSafe 2 = .ok (.invokevirtual 156, 3) := by decide +kernel
theorem dX8_setSafe_5 : decode cX8_setSafe 5 = .ok (.astore 4, 2) := by decide +kernel
theorem dX8_setSafe_7 : decode cX8_setSafe 7 = .ok (.aload_n 0, 1) := by decide +kernel
theorem dX8_setSafe_8 : decode cX8_setSafe 8 = .ok (.iload_n 2, 1) := by decide +kernel
theorem dX8_setSafe_9 : decode cX8_setSafe 9 = .ok (.invokevirtual 241, 3) := by decide +kernel
theorem dX8_setSafe_12 : decode cX8_setSafe 12 = .ok (.aload_n 0, 1) := by decide +kernel
theorem dX8_setSafe_13 : decode cX8_setSafe 13 = .ok (.iload_n 3, 1) := by decide +kernel
theorem dX8_setSafe_14 : decode cX8_setSafe 14 = .ok (.invokevirtual 241, 3) := by decide +kernel
theorem dX8_setSafe_17 : decode cX8_setSafe 17 = .ok (.iload_n 3, 1) := by decide +kernel
theorem dX8_setSafe_18 : decode cX8_setSafe 18 = .ok (.iload_n 2, 1) := by decide +kernel
theorem dX8_setSafe_19 : decode cX8_setSafe 19 = .ok (.if_icmp .ge 13, 3) := by decide +kernel
theorem dX8_setSafe_22 : decode cX8_setSafe 22 = .ok (.new 127, 3) := by decide +kernel
theorem dX8_setSafe_25 : decode cX8_setSafe 25 = .ok (.dup, 1) := by decide +kernel
theorem dX8_setSafe_26 : decode cX8_setSafe 26 = .ok (.ldc 244, 2) := by decide +kernel
theorem dX8_setSafe_28 : decode cX8_setSafe 28 = .ok (.invokespecial 131, 3) := by decide +kernel
theorem dX8_setSafe_31 : decode cX8_setSafe 31 = .ok (.athrow, 1) := by decide +kernel
theorem dX8_setSafe_32 : decode cX8_setSafe 32 = .ok (.aload 4, 2) := by decide +kernel
theorem dX8_setSafe_34 : decode cX8_setSafe 34 = .ok (.iload_n 2, 1) := by decide +kernel
theorem dX8_setSafe_35 : decode cX8_setSafe 35 = .ok (.putfield 181, 3) := by decide +kernel
theorem dX8_setSafe_38 : decode cX8_setSafe 38 = .ok (.aload 4, 2) := by decide +kernel
theorem dX8_setSafe_40 : decode cX8_setSafe 40 = .ok (.iload_n 3, 1) := by decide +kernel
theorem dX8_setSafe_41 : decode cX8_setSafe 41 = .ok (.putfield 184, 3) := by decide +kernel
theorem dX8_setSafe_44 : decode cX8_setSafe 44 = .ok (.return_, 1) := by decide +kernel
theorem dX8_open_0 : decode cX8_open 0 = .ok (.aload_n 0, 1) := by decide +kernel
theorem dX8_open_1 : decode cX8_open 1 = .ok (.iload_n 1, 1) := by decide +kernel
theorem dX8_open_2 : decode cX8_open 2 = .ok (.invokevirtual 156, 3) := by decide +kernel
theorem dX8_open_5 : decode cX8_open 5 = .ok (.astore_n 2, 1) := by decide +kernel
theorem dX8_open_6 : decode cX8_open 6 = .ok (.aload_n 2, 1) := by decide +kernel
theorem dX8_open_7 : decode cX8_open 7 = .ok (.getfield 170, 3) := by decide +kernel
theorem dX8_open_10 : decode cX8_open 10 = .ok (.istore_n 3, 1) := by decide +kernel
theorem dX8_open_11 : decode cX8_open 11 = .ok (.aload_n 2, 1) := by decide +kernel
theorem dX8_open_12 : decode cX8_open 12 = .ok (.aload_n 0, 1) := by decide +kernel
theorem dX8_open_13 : decode cX8_open 13 = .ok (.getfield 29, 3) := by decide +kernel
theorem dX8_open_16 : decode cX8_open 16 = .ok (.getfield 95, 3) := by decide +kernel
theorem dX8_open_19 : decode cX8_open 19 = .ok (.aload_n 0, 1) := by decide +kernel
theorem dX8_open_20 : decode cX8_open 20 = .ok (.getfield 19, 3) := by decide +kernel
theorem dX8_open_23 : decode cX8_open 23 = .ok (.invokevirtual 120, 3) := by decide +kernel
theorem dX8_open_26 : decode cX8_open 26 = .ok (.invokevirtual 246, 3) := by decide +kernel
theorem dX8_open_29 : decode cX8_open 29 = .ok (.aload_n 2, 1) := by decide +kernel
theorem dX8_open_30 : decode cX8_open 30 = .ok (.getfield 170, 3) := by decide +kernel
theorem dX8_open_33 : decode cX8_open 33 = .ok (.iload_n 3, 1) := by decide +kernel
theorem dX8_open_34 : decode cX8_open 34 = .ok (.isub, 1) := by decide +kernel
theorem dX8_open_35 : decode cX8_open 35 = .ok (.istore 4, 2) := by decide +kernel
theorem dX8_open_37 : decode cX8_open 37 = .ok (.aload_n 0, 1) := by decide +kernel
theorem dX8_open_38 : decode cX8_open 38 = .ok (.iload_n 1, 1) := by decide +kernel
theorem dX8_open_39 : decode cX8_open 39 = .ok (.invokevirtual 160, 3) := by decide +kernel
theorem dX8_open_42 : decode cX8_open 42 = .ok (.dup, 1) := by decide +kernel
theorem dX8_open_43 : decode cX8_open 43 = .ok (.getfield 204, 3) := by decide +kernel
theorem dX8_open_46 : decode cX8_open 46 = .ok (.iload 4, 2) := by decide +kernel
theorem dX8_open_48 : decode cX8_open 48 = .ok (.i2l, 1) := by decide +kernel
theorem dX8_open_49 : decode cX8_open 49 = .ok (.ladd, 1) := by decide +kernel
theorem dX8_open_50 : decode cX8_open 50 = .ok (.putfield 204, 3) := by decide +kernel
theorem dX8_open_53 : decode cX8_open 53 = .ok (.iload 4, 2) := by decide +kernel
theorem dX8_open_55 : decode cX8_open 55 = .ok (.ireturn, 1) := by decide +kernel
theorem dX8_cassette_0 : decode cX8_cassette 0 = .ok (.aload_n 0, 1) := by decide +kernel
theorem dX8_cassette_1 : decode cX8_cassette 1 = .ok (.iload_n 1, 1) := by decide +kernel
theorem dX8_cassette_2 : decode cX8_cassette 2 = .ok (.invokevirtual 156, 3) := by decide +kernel
theorem dX8_cassette_5 : decode cX8_cassette 5 = .ok (.astore 4, 2) := by decide +kernel
theorem dX8_cassette_7 : decode cX8_cassette 7 = .ok (.iload_n 2, 1) := by decide +kernel
theorem dX8_cassette_8 : decode cX8_cassette 8 = .ok (.ifCond .lt 12, 3) := by decide +kernel
theorem dX8_cassette_11 : decode cX8_cassette 11 = .ok (.iload_n 2, 1) := by decide +kernel
theorem dX8_cassette_12 : decode cX8_cassette 12 = .ok (.aload 4, 2) := by decide +kernel
theorem dX8_cassette_14 : decode cX8_cassette 14 = .ok (.getfield 175, 3) := by decide +kernel
theorem dX8_cassette_17 : decode cX8_cassette 17 = .ok (.if_icmp .lt 13, 3) := by decide +kernel
theorem dX8_cassette_20 : decode cX8_cassette 20 = .ok (.new 74, 3) := by decide +kernel
theorem dX8_cassette_23 : decode cX8_cassette 23 = .ok (.dup, 1) := by decide +kernel
theorem dX8_cassette_24 : decode cX8_cassette 24 = .ok (.ldc 249, 2) := by decide +kernel
theorem dX8_cassette_26 : decode cX8_cassette 26 = .ok (.invokespecial 78, 3) := by decide +kernel
theorem dX8_cassette_29 : decode cX8_cassette 29 = .ok (.athrow, 1) := by decide +kernel
theorem dX8_cassette_30 : decode cX8_cassette 30 = .ok (.aload 4, 2) := by decide +kernel
theorem dX8_cassette_32 : decode cX8_cassette 32 = .ok (.getfield 251, 3) := by decide +kernel
theorem dX8_cassette_35 : decode cX8_cassette 35 = .ok (.iload_n 2, 1) := by decide +kernel
theorem dX8_cassette_36 : decode cX8_cassette 36 = .ok (.aaload, 1) := by decide +kernel
theorem dX8_cassette_37 : decode cX8_cassette 37 = .ok (.astore 5, 2) := by decide +kernel
theorem dX8_cassette_39 : decode cX8_cassette 39 = .ok (.iload_n 3, 1) := by decide +kernel
theorem dX8_cassette_40 : decode cX8_cassette 40 = .ok (.tableswitch 66 0 4 #[36, 42, 48, 54, 60], 36) := by decide +kernel
theorem dX8_cassette_76 : decode cX8_cassette 76 = .ok (.aload 5, 2) := by decide +kernel
theorem dX8_cassette_78 : decode cX8_cassette 78 = .ok (.getfield 255, 3) := by decide +kernel
theorem dX8_cassette_81 : decode cX8_cassette 81 = .ok (.ireturn, 1) := by decide +kernel
theorem dX8_cassette_82 : decode cX8_cassette 82 = .ok (.aload 5, 2) := by decide +kernel
theorem dX8_cassette_84 : decode cX8_cassette 84 = .ok (.invokevirtual 260, 3) := by decide +kernel
theorem dX8_cassette_87 : decode cX8_cassette 87 = .ok (.ireturn, 1) := by decide +kernel
theorem dX8_cassette_88 : decode cX8_cassette 88 = .ok (.aload 5, 2) := by decide +kernel
theorem dX8_cassette_90 : decode cX8_cassette 90 = .ok (.getfield 263, 3) := by decide +kernel
theorem dX8_cassette_93 : decode cX8_cassette 93 = .ok (.ireturn, 1) := by decide +kernel
theorem dX8_cassette_94 : decode cX8_cassette 94 = .ok (.aload 5, 2) := by decide +kernel
theorem dX8_cassette_96 : decode cX8_cassette 96 = .ok (.getfield 266, 3) := by decide +kernel
theorem dX8_cassette_99 : decode cX8_cassette 99 = .ok (.ireturn, 1) := by decide +kernel
theorem dX8_cassette_100 : decode cX8_cassette 100 = .ok (.aload 5, 2) := by decide +kernel
theorem dX8_cassette_102 : decode cX8_cassette 102 = .ok (.invokevirtual 268, 3) := by decide +kernel
theorem dX8_cassette_105 : decode cX8_cassette 105 = .ok (.ireturn, 1) := by decide +kernel
theorem dX8_cassette_106 : decode cX8_cassette 106 = .ok (.new 127, 3) := by decide +kernel
theorem dX8_cassette_109 : decode cX8_cassette 109 = .ok (.dup, 1) := by decide +kernel
theorem dX8_cassette_110 : decode cX8_cassette 110 = .ok (.ldc 216, 2) := by decide +kernel
theorem dX8_cassette_112 : decode cX8_cassette 112 = .ok (.invokespecial 131, 3) := by decide +kernel
theorem dX8_cassette_115 : decode cX8_cassette 115 = .ok (.athrow, 1) := by decide +kernel
theorem dX8_caseOf_0 : decode cX8_caseOf 0 = .ok (.aload_n 0, 1) := by decide +kernel
theorem dX8_caseOf_1 : decode cX8_caseOf 1 = .ok (.getfield 29, 3) := by decide +kernel
theorem dX8_caseOf_4 : decode cX8_caseOf 4 = .ok (.iload_n 1, 1) := by decide +kernel
theorem dX8_caseOf_5 : decode cX8_caseOf 5 = .ok (.invokevirtual 271, 3) := by decide +kernel
theorem dX8_caseOf_8 : decode cX8_caseOf 8 = .ok (.istore_n 2, 1) := by decide +kernel
theorem dX8_caseOf_9 : decode cX8_caseOf 9 = .ok (.iload_n 2, 1) := by decide +kernel
theorem dX8_caseOf_10 : decode cX8_caseOf 10 = .ok (.iconst (-1), 1) := by decide +kernel
theorem dX8_caseOf_11 : decode cX8_caseOf 11 = .ok (.if_icmp .ne 14, 3) := by decide +kernel
theorem dX8_caseOf_14 : decode cX8_caseOf 14 = .ok (.new 220, 3) := by decide +kernel
theorem dX8_caseOf_17 : decode cX8_caseOf 17 = .ok (.dup, 1) := by decide +kernel
theorem dX8_caseOf_18 : decode cX8_caseOf 18 = .ok (.ldc_w 274, 3) := by decide +kernel
theorem dX8_caseOf_21 : decode cX8_caseOf 21 = .ok (.invokespecial 224, 3) := by decide +kernel
theorem dX8_caseOf_24 : decode cX8_caseOf 24 = .ok (.athrow, 1) := by decide +kernel
theorem dX8_caseOf_25 : decode cX8_caseOf 25 = .ok (.iload_n 2, 1) := by decide +kernel
theorem dX8_caseOf_26 : decode cX8_caseOf 26 = .ok (.ireturn, 1) := by decide +kernel
theorem dX8_add_0 : decode cX8_add 0 = .ok (.aload_n 0, 1) := by decide +kernel
theorem dX8_add_1 : decode cX8_add 1 = .ok (.iload_n 1, 1) := by decide +kernel
theorem dX8_add_2 : decode cX8_add 2 = .ok (.invokevirtual 156, 3) := by decide +kernel
theorem dX8_add_5 : decode cX8_add 5 = .ok (.astore 5, 2) := by decide +kernel
theorem dX8_add_7 : decode cX8_add 7 = .ok (.aload_n 0, 1) := by decide +kernel
theorem dX8_add_8 : decode cX8_add 8 = .ok (.iload_n 2, 1) := by decide +kernel
theorem dX8_add_9 : decode cX8_add 9 = .ok (.invokevirtual 143, 3) := by decide +kernel
theorem dX8_add_12 : decode cX8_add 12 = .ok (.astore 6, 2) := by decide +kernel
theorem dX8_add_14 : decode cX8_add 14 = .ok (.iload_n 3, 1) := by decide +kernel
theorem dX8_add_15 : decode cX8_add 15 = .ok (.iconst 1, 1) := by decide +kernel
theorem dX8_add_16 : decode cX8_add 16 = .ok (.if_icmp .lt 10, 3) := by decide +kernel
theorem dX8_add_19 : decode cX8_add 19 = .ok (.iload_n 3, 1) := by decide +kernel
theorem dX8_add_20 : decode cX8_add 20 = .ok (.sipush 999, 3) := by decide +kernel
theorem dX8_add_23 : decode cX8_add 23 = .ok (.if_icmp .le 14, 3) := by decide +kernel
theorem dX8_add_26 : decode cX8_add 26 = .ok (.new 127, 3) := by decide +kernel
theorem dX8_add_29 : decode cX8_add 29 = .ok (.dup, 1) := by decide +kernel
theorem dX8_add_30 : decode cX8_add 30 = .ok (.ldc_w 276, 3) := by decide +kernel
theorem dX8_add_33 : decode cX8_add 33 = .ok (.invokespecial 131, 3) := by decide +kernel
theorem dX8_add_36 : decode cX8_add 36 = .ok (.athrow, 1) := by decide +kernel
theorem dX8_add_37 : decode cX8_add 37 = .ok (.aload_n 0, 1) := by decide +kernel
theorem dX8_add_38 : decode cX8_add 38 = .ok (.iload 4, 2) := by decide +kernel
theorem dX8_add_40 : decode cX8_add 40 = .ok (.invokevirtual 241, 3) := by decide +kernel
theorem dX8_add_43 : decode cX8_add 43 = .ok (.aload 5, 2) := by decide +kernel
theorem dX8_add_45 : decode cX8_add 45 = .ok (.invokevirtual 278, 3) := by decide +kernel
theorem dX8_add_48 : decode cX8_add 48 = .ok (.ifCond .eq 14, 3) := by decide +kernel
theorem dX8_add_51 : decode cX8_add 51 = .ok (.new 63, 3) := by decide +kernel
theorem dX8_add_54 : decode cX8_add 54 = .ok (.dup, 1) := by decide +kernel
theorem dX8_add_55 : decode cX8_add 55 = .ok (.ldc_w 282, 3) := by decide +kernel
theorem dX8_add_58 : decode cX8_add 58 = .ok (.invokespecial 67, 3) := by decide +kernel
theorem dX8_add_61 : decode cX8_add 61 = .ok (.athrow, 1) := by decide +kernel
theorem dX8_add_62 : decode cX8_add 62 = .ok (.aload 6, 2) := by decide +kernel
theorem dX8_add_64 : decode cX8_add 64 = .ok (.iload 4, 2) := by decide +kernel
theorem dX8_add_66 : decode cX8_add 66 = .ok (.iload_n 3, 1) := by decide +kernel
theorem dX8_add_67 : decode cX8_add 67 = .ok (.invokevirtual 284, 3) := by decide +kernel
theorem dX8_add_70 : decode cX8_add 70 = .ok (.istore 7, 2) := by decide +kernel
theorem dX8_add_72 : decode cX8_add 72 = .ok (.aload 5, 2) := by decide +kernel
theorem dX8_add_74 : decode cX8_add 74 = .ok (.aload_n 0, 1) := by decide +kernel
theorem dX8_add_75 : decode cX8_add 75 = .ok (.getfield 29, 3) := by decide +kernel
theorem dX8_add_78 : decode cX8_add 78 = .ok (.getfield 114, 3) := by decide +kernel
theorem dX8_add_81 : decode cX8_add 81 = .ok (.aload 6, 2) := by decide +kernel
theorem dX8_add_83 : decode cX8_add 83 = .ok (.iload_n 3, 1) := by decide +kernel
theorem dX8_add_84 : decode cX8_add 84 = .ok (.iload 7, 2) := by decide +kernel
theorem dX8_add_86 : decode cX8_add 86 = .ok (.invokevirtual 288, 3) := by decide +kernel
theorem dX8_add_89 : decode cX8_add 89 = .ok (.aload_n 0, 1) := by decide +kernel
theorem dX8_add_90 : decode cX8_add 90 = .ok (.iload_n 1, 1) := by decide +kernel
theorem dX8_add_91 : decode cX8_add 91 = .ok (.invokevirtual 160, 3) := by decide +kernel
theorem dX8_add_94 : decode cX8_add 94 = .ok (.dup, 1) := by decide +kernel
theorem dX8_add_95 : decode cX8_add 95 = .ok (.getfield 207, 3) := by decide +kernel
theorem dX8_add_98 : decode cX8_add 98 = .ok (.iload 7, 2) := by decide +kernel
theorem dX8_add_100 : decode cX8_add 100 = .ok (.i2l, 1) := by decide +kernel
theorem dX8_add_101 : decode cX8_add 101 = .ok (.ladd, 1) := by decide +kernel
theorem dX8_add_102 : decode cX8_add 102 = .ok (.putfield 207, 3) := by decide +kernel
theorem dX8_add_105 : decode cX8_add 105 = .ok (.aload_n 0, 1) := by decide +kernel
theorem dX8_add_106 : decode cX8_add 106 = .ok (.getfield 29, 3) := by decide +kernel
theorem dX8_add_109 : decode cX8_add 109 = .ok (.invokevirtual 292, 3) := by decide +kernel
theorem dX8_add_112 : decode cX8_add 112 = .ok (.ireturn, 1) := by decide +kernel
theorem dX8_remove_0 : decode cX8_remove 0 = .ok (.aload_n 0, 1) := by decide +kernel
theorem dX8_remove_1 : decode cX8_remove 1 = .ok (.iload_n 1, 1) := by decide +kernel
theorem dX8_remove_2 : decode cX8_remove 2 = .ok (.invokevirtual 295, 3) := by decide +kernel
theorem dX8_remove_5 : decode cX8_remove 5 = .ok (.istore_n 2, 1) := by decide +kernel
theorem dX8_remove_6 : decode cX8_remove 6 = .ok (.aload_n 0, 1) := by decide +kernel
theorem dX8_remove_7 : decode cX8_remove 7 = .ok (.iload_n 2, 1) := by decide +kernel
theorem dX8_remove_8 : decode cX8_remove 8 = .ok (.invokevirtual 156, 3) := by decide +kernel
theorem dX8_remove_11 : decode cX8_remove 11 = .ok (.astore_n 3, 1) := by decide +kernel
theorem dX8_remove_12 : decode cX8_remove 12 = .ok (.aload_n 3, 1) := by decide +kernel
theorem dX8_remove_13 : decode cX8_remove 13 = .ok (.iload_n 1, 1) := by decide +kernel
theorem dX8_remove_14 : decode cX8_remove 14 = .ok (.invokevirtual 298, 3) := by decide +kernel
theorem dX8_remove_17 : decode cX8_remove 17 = .ok (.istore 4, 2) := by decide +kernel
theorem dX8_remove_19 : decode cX8_remove 19 = .ok (.aload_n 3, 1) := by decide +kernel
theorem dX8_remove_20 : decode cX8_remove 20 = .ok (.iload 4, 2) := by decide +kernel
theorem dX8_remove_22 : decode cX8_remove 22 = .ok (.invokevirtual 301, 3) := by decide +kernel
theorem dX8_remove_25 : decode cX8_remove 25 = .ok (.istore 5, 2) := by decide +kernel
theorem dX8_remove_27 : decode cX8_remove 27 = .ok (.aload_n 3, 1) := by decide +kernel
theorem dX8_remove_28 : decode cX8_remove 28 = .ok (.iload 4, 2) := by decide +kernel
theorem dX8_remove_30 : decode cX8_remove 30 = .ok (.invokevirtual 304, 3) := by decide +kernel
theorem dX8_remove_33 : decode cX8_remove 33 = .ok (.aload_n 0, 1) := by decide +kernel
theorem dX8_remove_34 : decode cX8_remove 34 = .ok (.iload_n 2, 1) := by decide +kernel
theorem dX8_remove_35 : decode cX8_remove 35 = .ok (.invokevirtual 160, 3) := by decide +kernel
theorem dX8_remove_38 : decode cX8_remove 38 = .ok (.dup, 1) := by decide +kernel
theorem dX8_remove_39 : decode cX8_remove 39 = .ok (.getfield 210, 3) := by decide +kernel
theorem dX8_remove_42 : decode cX8_remove 42 = .ok (.iload 5, 2) := by decide +kernel
theorem dX8_remove_44 : decode cX8_remove 44 = .ok (.i2l, 1) := by decide +kernel
theorem dX8_remove_45 : decode cX8_remove 45 = .ok (.ladd, 1) := by decide +kernel
theorem dX8_remove_46 : decode cX8_remove 46 = .ok (.putfield 210, 3) := by decide +kernel
theorem dX8_remove_49 : decode cX8_remove 49 = .ok (.iload 5, 2) := by decide +kernel
theorem dX8_remove_51 : decode cX8_remove 51 = .ok (.ireturn, 1) := by decide +kernel
theorem dX8_move_0 : decode cX8_move 0 = .ok (.aload_n 0, 1) := by decide +kernel
theorem dX8_move_1 : decode cX8_move 1 = .ok (.iload_n 1, 1) := by decide +kernel
theorem dX8_move_2 : decode cX8_move 2 = .ok (.invokevirtual 295, 3) := by decide +kernel
theorem dX8_move_5 : decode cX8_move 5 = .ok (.istore_n 3, 1) := by decide +kernel
theorem dX8_move_6 : decode cX8_move 6 = .ok (.aload_n 0, 1) := by decide +kernel
theorem dX8_move_7 : decode cX8_move 7 = .ok (.iload_n 2, 1) := by decide +kernel
theorem dX8_move_8 : decode cX8_move 8 = .ok (.invokevirtual 156, 3) := by decide +kernel
theorem dX8_move_11 : decode cX8_move 11 = .ok (.astore 4, 2) := by decide +kernel
theorem dX8_move_13 : decode cX8_move 13 = .ok (.iload_n 3, 1) := by decide +kernel
theorem dX8_move_14 : decode cX8_move 14 = .ok (.iload_n 2, 1) := by decide +kernel
theorem dX8_move_15 : decode cX8_move 15 = .ok (.if_icmp .eq 11, 3) := by decide +kernel
theorem dX8_move_18 : decode cX8_move 18 = .ok (.aload 4, 2) := by decide +kernel
theorem dX8_move_20 : decode cX8_move 20 = .ok (.invokevirtual 278, 3) := by decide +kernel
theorem dX8_move_23 : decode cX8_move 23 = .ok (.ifCond .eq 14, 3) := by decide +kernel
theorem dX8_move_26 : decode cX8_move 26 = .ok (.new 63, 3) := by decide +kernel
theorem dX8_move_29 : decode cX8_move 29 = .ok (.dup, 1) := by decide +kernel
theorem dX8_move_30 : decode cX8_move 30 = .ok (.ldc_w 307, 3) := by decide +kernel
theorem dX8_move_33 : decode cX8_move 33 = .ok (.invokespecial 67, 3) := by decide +kernel
theorem dX8_move_36 : decode cX8_move 36 = .ok (.athrow, 1) := by decide +kernel
theorem dX8_move_37 : decode cX8_move 37 = .ok (.aload_n 0, 1) := by decide +kernel
theorem dX8_move_38 : decode cX8_move 38 = .ok (.iload_n 3, 1) := by decide +kernel
theorem dX8_move_39 : decode cX8_move 39 = .ok (.invokevirtual 156, 3) := by decide +kernel
theorem dX8_move_42 : decode cX8_move 42 = .ok (.astore 5, 2) := by decide +kernel
theorem dX8_move_44 : decode cX8_move 44 = .ok (.aload 5, 2) := by decide +kernel
theorem dX8_move_46 : decode cX8_move 46 = .ok (.iload_n 1, 1) := by decide +kernel
theorem dX8_move_47 : decode cX8_move 47 = .ok (.invokevirtual 298, 3) := by decide +kernel
theorem dX8_move_50 : decode cX8_move 50 = .ok (.istore 6, 2) := by decide +kernel
theorem dX8_move_52 : decode cX8_move 52 = .ok (.aload 5, 2) := by decide +kernel
theorem dX8_move_54 : decode cX8_move 54 = .ok (.iload 6, 2) := by decide +kernel
theorem dX8_move_56 : decode cX8_move 56 = .ok (.invokevirtual 301, 3) := by decide +kernel
theorem dX8_move_59 : decode cX8_move 59 = .ok (.istore 7, 2) := by decide +kernel
theorem dX8_move_61 : decode cX8_move 61 = .ok (.aload 4, 2) := by decide +kernel
theorem dX8_move_63 : decode cX8_move 63 = .ok (.aload 5, 2) := by decide +kernel
theorem dX8_move_65 : decode cX8_move 65 = .ok (.iload 6, 2) := by decide +kernel
theorem dX8_move_67 : decode cX8_move 67 = .ok (.invokevirtual 309, 3) := by decide +kernel
theorem dX8_move_70 : decode cX8_move 70 = .ok (.aload 5, 2) := by decide +kernel
theorem dX8_move_72 : decode cX8_move 72 = .ok (.iload 6, 2) := by decide +kernel
theorem dX8_move_74 : decode cX8_move 74 = .ok (.invokevirtual 304, 3) := by decide +kernel
theorem dX8_move_77 : decode cX8_move 77 = .ok (.aload_n 0, 1) := by decide +kernel
theorem dX8_move_78 : decode cX8_move 78 = .ok (.iload_n 3, 1) := by decide +kernel
theorem dX8_move_79 : decode cX8_move 79 = .ok (.invokevirtual 160, 3) := by decide +kernel
theorem dX8_move_82 : decode cX8_move 82 = .ok (.dup, 1) := by decide +kernel
theorem dX8_move_83 : decode cX8_move 83 = .ok (.getfield 210, 3) := by decide +kernel
theorem dX8_move_86 : decode cX8_move 86 = .ok (.iload 7, 2) := by decide +kernel
theorem dX8_move_88 : decode cX8_move 88 = .ok (.i2l, 1) := by decide +kernel
theorem dX8_move_89 : decode cX8_move 89 = .ok (.ladd, 1) := by decide +kernel
theorem dX8_move_90 : decode cX8_move 90 = .ok (.putfield 210, 3) := by decide +kernel
theorem dX8_move_93 : decode cX8_move 93 = .ok (.aload_n 0, 1) := by decide +kernel
theorem dX8_move_94 : decode cX8_move 94 = .ok (.iload_n 2, 1) := by decide +kernel
theorem dX8_move_95 : decode cX8_move 95 = .ok (.invokevirtual 160, 3) := by decide +kernel
theorem dX8_move_98 : decode cX8_move 98 = .ok (.dup, 1) := by decide +kernel
theorem dX8_move_99 : decode cX8_move 99 = .ok (.getfield 207, 3) := by decide +kernel
theorem dX8_move_102 : decode cX8_move 102 = .ok (.iload 7, 2) := by decide +kernel
theorem dX8_move_104 : decode cX8_move 104 = .ok (.i2l, 1) := by decide +kernel
theorem dX8_move_105 : decode cX8_move 105 = .ok (.ladd, 1) := by decide +kernel
theorem dX8_move_106 : decode cX8_move 106 = .ok (.putfield 207, 3) := by decide +kernel
theorem dX8_move_109 : decode cX8_move 109 = .ok (.iload_n 3, 1) := by decide +kernel
theorem dX8_move_110 : decode cX8_move 110 = .ok (.ireturn, 1) := by decide +kernel
theorem dX8_exchange_0 : decode cX8_exchange 0 = .ok (.aload_n 0, 1) := by decide +kernel
theorem dX8_exchange_1 : decode cX8_exchange 1 = .ok (.iload_n 1, 1) := by decide +kernel
theorem dX8_exchange_2 : decode cX8_exchange 2 = .ok (.invokevirtual 295, 3) := by decide +kernel
theorem dX8_exchange_5 : decode cX8_exchange 5 = .ok (.istore_n 3, 1) := by decide +kernel
theorem dX8_exchange_6 : decode cX8_exchange 6 = .ok (.aload_n 0, 1) := by decide +kernel
theorem dX8_exchange_7 : decode cX8_exchange 7 = .ok (.iload_n 2, 1) := by decide +kernel
theorem dX8_exchange_8 : decode cX8_exchange 8 = .ok (.invokevirtual 241, 3) := by decide +kernel
theorem dX8_exchange_11 : decode cX8_exchange 11 = .ok (.aload_n 0, 1) := by decide +kernel
theorem dX8_exchange_12 : decode cX8_exchange 12 = .ok (.iload_n 3, 1) := by decide +kernel
theorem dX8_exchange_13 : decode cX8_exchange 13 = .ok (.invokevirtual 156, 3) := by decide +kernel
theorem dX8_exchange_16 : decode cX8_exchange 16 = .ok (.astore 4, 2) := by decide +kernel
theorem dX8_exchange_18 : decode cX8_exchange 18 = .ok (.aload_n 0, 1) := by decide +kernel
theorem dX8_exchange_19 : decode cX8_exchange 19 = .ok (.iload_n 3, 1) := by decide +kernel
theorem dX8_exchange_20 : decode cX8_exchange 20 = .ok (.invokevirtual 160, 3) := by decide +kernel
theorem dX8_exchange_23 : decode cX8_exchange 23 = .ok (.astore 5, 2) := by decide +kernel
theorem dX8_exchange_25 : decode cX8_exchange 25 = .ok (.aload 4, 2) := by decide +kernel
theorem dX8_exchange_27 : decode cX8_exchange 27 = .ok (.iload_n 1, 1) := by decide +kernel
theorem dX8_exchange_28 : decode cX8_exchange 28 = .ok (.invokevirtual 298, 3) := by decide +kernel
theorem dX8_exchange_31 : decode cX8_exchange 31 = .ok (.istore 6, 2) := by decide +kernel
theorem dX8_exchange_33 : decode cX8_exchange 33 = .ok (.aload 5, 2) := by decide +kernel
theorem dX8_exchange_35 : decode cX8_exchange 35 = .ok (.dup, 1) := by decide +kernel
theorem dX8_exchange_36 : decode cX8_exchange 36 = .ok (.getfield 210, 3) := by decide +kernel
theorem dX8_exchange_39 : decode cX8_exchange 39 = .ok (.aload 4, 2) := by decide +kernel
theorem dX8_exchange_41 : decode cX8_exchange 41 = .ok (.iload 6, 2) := by decide +kernel
theorem dX8_exchange_43 : decode cX8_exchange 43 = .ok (.invokevirtual 301, 3) := by decide +kernel
theorem dX8_exchange_46 : decode cX8_exchange 46 = .ok (.i2l, 1) := by decide +kernel
theorem dX8_exchange_47 : decode cX8_exchange 47 = .ok (.ladd, 1) := by decide +kernel
theorem dX8_exchange_48 : decode cX8_exchange 48 = .ok (.putfield 210, 3) := by decide +kernel
theorem dX8_exchange_51 : decode cX8_exchange 51 = .ok (.aload 4, 2) := by decide +kernel
theorem dX8_exchange_53 : decode cX8_exchange 53 = .ok (.iload 6, 2) := by decide +kernel
theorem dX8_exchange_55 : decode cX8_exchange 55 = .ok (.aload_n 0, 1) := by decide +kernel
theorem dX8_exchange_56 : decode cX8_exchange 56 = .ok (.getfield 29, 3) := by decide +kernel
theorem dX8_exchange_59 : decode cX8_exchange 59 = .ok (.getfield 114, 3) := by decide +kernel
theorem dX8_exchange_62 : decode cX8_exchange 62 = .ok (.iload_n 2, 1) := by decide +kernel
theorem dX8_exchange_63 : decode cX8_exchange 63 = .ok (.invokevirtual 313, 3) := by decide +kernel
theorem dX8_exchange_66 : decode cX8_exchange 66 = .ok (.aload 5, 2) := by decide +kernel
theorem dX8_exchange_68 : decode cX8_exchange 68 = .ok (.dup, 1) := by decide +kernel
theorem dX8_exchange_69 : decode cX8_exchange 69 = .ok (.getfield 207, 3) := by decide +kernel
theorem dX8_exchange_72 : decode cX8_exchange 72 = .ok (.aload 4, 2) := by decide +kernel
theorem dX8_exchange_74 : decode cX8_exchange 74 = .ok (.iload 6, 2) := by decide +kernel
theorem dX8_exchange_76 : decode cX8_exchange 76 = .ok (.invokevirtual 301, 3) := by decide +kernel
theorem dX8_exchange_79 : decode cX8_exchange 79 = .ok (.i2l, 1) := by decide +kernel
theorem dX8_exchange_80 : decode cX8_exchange 80 = .ok (.ladd, 1) := by decide +kernel
theorem dX8_exchange_81 : decode cX8_exchange 81 = .ok (.putfield 207, 3) := by decide +kernel
theorem dX8_exchange_84 : decode cX8_exchange 84 = .ok (.aload_n 0, 1) := by decide +kernel
theorem dX8_exchange_85 : decode cX8_exchange 85 = .ok (.getfield 29, 3) := by decide +kernel
theorem dX8_exchange_88 : decode cX8_exchange 88 = .ok (.invokevirtual 292, 3) := by decide +kernel
theorem dX8_exchange_91 : decode cX8_exchange 91 = .ok (.ireturn, 1) := by decide +kernel
theorem dX8_advance_0 : decode cX8_advance 0 = .ok (.aload_n 0, 1) := by decide +kernel
theorem dX8_advance_1 : decode cX8_advance 1 = .ok (.iload_n 1, 1) := by decide +kernel
theorem dX8_advance_2 : decode cX8_advance 2 = .ok (.iconst 1, 1) := by decide +kernel
theorem dX8_advance_3 : decode cX8_advance 3 = .ok (.sipush 2000, 3) := by decide +kernel
theorem dX8_advance_6 : decode cX8_advance 6 = .ok (.invokevirtual 317, 3) := by decide +kernel
theorem dX8_advance_9 : decode cX8_advance 9 = .ok (.iload_n 1, 1) := by decide +kernel
theorem dX8_advance_10 : decode cX8_advance 10 = .ok (.ldc_w 320, 3) := by decide +kernel
theorem dX8_advance_13 : decode cX8_advance 13 = .ok (.aload_n 0, 1) := by decide +kernel
theorem dX8_advance_14 : decode cX8_advance 14 = .ok (.getfield 29, 3) := by decide +kernel
theorem dX8_advance_17 : decode cX8_advance 17 = .ok (.getfield 95, 3) := by decide +kernel
theorem dX8_advance_20 : decode cX8_advance 20 = .ok (.getfield 98, 3) := by decide +kernel
theorem dX8_advance_23 : decode cX8_advance 23 = .ok (.isub, 1) := by decide +kernel
theorem dX8_advance_24 : decode cX8_advance 24 = .ok (.if_icmp .le 14, 3) := by decide +kernel
theorem dX8_advance_27 : decode cX8_advance 27 = .ok (.new 63, 3) := by decide +kernel
theorem dX8_advance_30 : decode cX8_advance 30 = .ok (.dup, 1) := by decide +kernel
theorem dX8_advance_31 : decode cX8_advance 31 = .ok (.ldc_w 321, 3) := by decide +kernel
theorem dX8_advance_34 : decode cX8_advance 34 = .ok (.invokespecial 67, 3) := by decide +kernel
theorem dX8_advance_37 : decode cX8_advance 37 = .ok (.athrow, 1) := by decide +kernel
theorem dX8_advance_38 : decode cX8_advance 38 = .ok (.iconst 0, 1) := by decide +kernel
theorem dX8_advance_39 : decode cX8_advance 39 = .ok (.istore_n 2, 1) := by decide +kernel
theorem dX8_advance_40 : decode cX8_advance 40 = .ok (.iconst 0, 1) := by decide +kernel
theorem dX8_advance_41 : decode cX8_advance 41 = .ok (.istore_n 3, 1) := by decide +kernel
theorem dX8_advance_42 : decode cX8_advance 42 = .ok (.iload_n 3, 1) := by decide +kernel
theorem dX8_advance_43 : decode cX8_advance 43 = .ok (.iload_n 1, 1) := by decide +kernel
theorem dX8_advance_44 : decode cX8_advance 44 = .ok (.if_icmp .ge 23, 3) := by decide +kernel
theorem dX8_advance_47 : decode cX8_advance 47 = .ok (.iload_n 2, 1) := by decide +kernel
theorem dX8_advance_48 : decode cX8_advance 48 = .ok (.aload_n 0, 1) := by decide +kernel
theorem dX8_advance_49 : decode cX8_advance 49 = .ok (.getfield 29, 3) := by decide +kernel
theorem dX8_advance_52 : decode cX8_advance 52 = .ok (.aload_n 0, 1) := by decide +kernel
theorem dX8_advance_53 : decode cX8_advance 53 = .ok (.getfield 19, 3) := by decide +kernel
theorem dX8_advance_56 : decode cX8_advance 56 = .ok (.invokevirtual 323, 3) := by decide +kernel
theorem dX8_advance_59 : decode cX8_advance 59 = .ok (.iadd, 1) := by decide +kernel
theorem dX8_advance_60 : decode cX8_advance 60 = .ok (.istore_n 2, 1) := by decide +kernel
theorem dX8_advance_61 : decode cX8_advance 61 = .ok (.iinc 3 1, 3) := by decide +kernel
theorem dX8_advance_64 : decode cX8_advance 64 = .ok (.goto (-22), 3) := by decide +kernel
theorem dX8_advance_67 : decode cX8_advance 67 = .ok (.iload_n 2, 1) := by decide +kernel
theorem dX8_advance_68 : decode cX8_advance 68 = .ok (.ireturn, 1) := by decide +kernel
theorem dX8_roomIn_0 : decode cX8_roomIn 0 = .ok (.aload_n 0, 1) := by decide +kernel
theorem dX8_roomIn_1 : decode cX8_roomIn 1 = .ok (.iload_n 1, 1) := by decide +kernel
theorem dX8_roomIn_2 : decode cX8_roomIn 2 = .ok (.iconst 1, 1) := by decide +kernel
theorem dX8_roomIn_3 : decode cX8_roomIn 3 = .ok (.sipush 2000, 3) := by decide +kernel
theorem dX8_roomIn_6 : decode cX8_roomIn 6 = .ok (.invokevirtual 317, 3) := by decide +kernel
theorem dX8_roomIn_9 : decode cX8_roomIn 9 = .ok (.aload_n 0, 1) := by decide +kernel
theorem dX8_roomIn_10 : decode cX8_roomIn 10 = .ok (.getfield 44, 3) := by decide +kernel
theorem dX8_roomIn_13 : decode cX8_roomIn 13 = .ok (.aload_n 0, 1) := by decide +kernel
theorem dX8_roomIn_14 : decode cX8_roomIn 14 = .ok (.getfield 29, 3) := by decide +kernel
theorem dX8_roomIn_17 : decode cX8_roomIn 17 = .ok (.getfield 95, 3) := by decide +kernel
theorem dX8_roomIn_20 : decode cX8_roomIn 20 = .ok (.invokevirtual 326, 3) := by decide +kernel
theorem dX8_roomIn_23 : decode cX8_roomIn 23 = .ok (.iconst 0, 1) := by decide +kernel
theorem dX8_roomIn_24 : decode cX8_roomIn 24 = .ok (.istore_n 2, 1) := by decide +kernel
theorem dX8_roomIn_25 : decode cX8_roomIn 25 = .ok (.iconst 0, 1) := by decide +kernel
theorem dX8_roomIn_26 : decode cX8_roomIn 26 = .ok (.istore_n 3, 1) := by decide +kernel
theorem dX8_roomIn_27 : decode cX8_roomIn 27 = .ok (.iload_n 3, 1) := by decide +kernel
theorem dX8_roomIn_28 : decode cX8_roomIn 28 = .ok (.iload_n 1, 1) := by decide +kernel
theorem dX8_roomIn_29 : decode cX8_roomIn 29 = .ok (.if_icmp .ge 21, 3) := by decide +kernel
theorem dX8_roomIn_32 : decode cX8_roomIn 32 = .ok (.aload_n 0, 1) := by decide +kernel
