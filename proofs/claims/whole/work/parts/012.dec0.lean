theorem dX0_isKind_0 : decode cX0_isKind 0 = .ok (.iload_n 0, 1) := by decide +kernel
theorem dX0_isKind_1 : decode cX0_isKind 1 = .ok (.iconst 0, 1) := by decide +kernel
theorem dX0_isKind_2 : decode cX0_isKind 2 = .ok (.iconst 5, 1) := by decide +kernel
theorem dX0_isKind_3 : decode cX0_isKind 3 = .ok (.invokestatic 11, 3) := by decide +kernel
theorem dX0_isKind_6 : decode cX0_isKind 6 = .ok (.ireturn, 1) := by decide +kernel
theorem dX0_isUnder_0 : decode cX0_isUnder 0 = .ok (.iload_n 0, 1) := by decide +kernel
theorem dX0_isUnder_1 : decode cX0_isUnder 1 = .ok (.istore_n 2, 1) := by decide +kernel
theorem dX0_isUnder_2 : decode cX0_isUnder 2 = .ok (.iconst 0, 1) := by decide +kernel
theorem dX0_isUnder_3 : decode cX0_isUnder 3 = .ok (.istore_n 3, 1) := by decide +kernel
theorem dX0_isUnder_4 : decode cX0_isUnder 4 = .ok (.iload_n 3, 1) := by decide +kernel
theorem dX0_isUnder_5 : decode cX0_isUnder 5 = .ok (.bipush 6, 2) := by decide +kernel
theorem dX0_isUnder_7 : decode cX0_isUnder 7 = .ok (.if_icmp .ge 29, 3) := by decide +kernel
theorem dX0_isUnder_10 : decode cX0_isUnder 10 = .ok (.iload_n 2, 1) := by decide +kernel
theorem dX0_isUnder_11 : decode cX0_isUnder 11 = .ok (.invokestatic 15, 3) := by decide +kernel
theorem dX0_isUnder_14 : decode cX0_isUnder 14 = .ok (.ifCond .eq 22, 3) := by decide +kernel
theorem dX0_isUnder_17 : decode cX0_isUnder 17 = .ok (.iload_n 2, 1) := by decide +kernel
theorem dX0_isUnder_18 : decode cX0_isUnder 18 = .ok (.iload_n 1, 1) := by decide +kernel
theorem dX0_isUnder_19 : decode cX0_isUnder 19 = .ok (.if_icmp .ne 5, 3) := by decide +kernel
theorem dX0_isUnder_22 : decode cX0_isUnder 22 = .ok (.iconst 1, 1) := by decide +kernel
theorem dX0_isUnder_23 : decode cX0_isUnder 23 = .ok (.ireturn, 1) := by decide +kernel
theorem dX0_isUnder_24 : decode cX0_isUnder 24 = .ok (.getstatic 19, 3) := by decide +kernel
theorem dX0_isUnder_27 : decode cX0_isUnder 27 = .ok (.iload_n 2, 1) := by decide +kernel
theorem dX0_isUnder_28 : decode cX0_isUnder 28 = .ok (.iaload, 1) := by decide +kernel
theorem dX0_isUnder_29 : decode cX0_isUnder 29 = .ok (.istore_n 2, 1) := by decide +kernel
theorem dX0_isUnder_30 : decode cX0_isUnder 30 = .ok (.iinc 3 1, 3) := by decide +kernel
theorem dX0_isUnder_33 : decode cX0_isUnder 33 = .ok (.goto (-29), 3) := by decide +kernel
theorem dX0_isUnder_36 : decode cX0_isUnder 36 = .ok (.iconst 0, 1) := by decide +kernel
theorem dX0_isUnder_37 : decode cX0_isUnder 37 = .ok (.ireturn, 1) := by decide +kernel
theorem dX0_risk_0 : decode cX0_risk 0 = .ok (.iload_n 0, 1) := by decide +kernel
theorem dX0_risk_1 : decode cX0_risk 1 = .ok (.tableswitch 63 1 5 #[35, 49, 41, 53, 59], 35) := by decide +kernel
theorem dX0_risk_36 : decode cX0_risk 36 = .ok (.iload_n 1, 1) := by decide +kernel
theorem dX0_risk_37 : decode cX0_risk 37 = .ok (.iload_n 2, 1) := by decide +kernel
theorem dX0_risk_38 : decode cX0_risk 38 = .ok (.iconst 2, 1) := by decide +kernel
theorem dX0_risk_39 : decode cX0_risk 39 = .ok (.idiv, 1) := by decide +kernel
theorem dX0_risk_40 : decode cX0_risk 40 = .ok (.iadd, 1) := by decide +kernel
theorem dX0_risk_41 : decode cX0_risk 41 = .ok (.ireturn, 1) := by decide +kernel
theorem dX0_risk_42 : decode cX0_risk 42 = .ok (.iconst 2, 1) := by decide +kernel
theorem dX0_risk_43 : decode cX0_risk 43 = .ok (.iload_n 1, 1) := by decide +kernel
theorem dX0_risk_44 : decode cX0_risk 44 = .ok (.iload_n 2, 1) := by decide +kernel
theorem dX0_risk_45 : decode cX0_risk 45 = .ok (.iconst 2, 1) := by decide +kernel
theorem dX0_risk_46 : decode cX0_risk 46 = .ok (.idiv, 1) := by decide +kernel
theorem dX0_risk_47 : decode cX0_risk 47 = .ok (.iadd, 1) := by decide +kernel
theorem dX0_risk_48 : decode cX0_risk 48 = .ok (.imul, 1) := by decide +kernel
theorem dX0_risk_49 : decode cX0_risk 49 = .ok (.ireturn, 1) := by decide +kernel
theorem dX0_risk_50 : decode cX0_risk 50 = .ok (.iload_n 1, 1) := by decide +kernel
theorem dX0_risk_51 : decode cX0_risk 51 = .ok (.iconst 2, 1) := by decide +kernel
theorem dX0_risk_52 : decode cX0_risk 52 = .ok (.idiv, 1) := by decide +kernel
theorem dX0_risk_53 : decode cX0_risk 53 = .ok (.ireturn, 1) := by decide +kernel
theorem dX0_risk_54 : decode cX0_risk 54 = .ok (.iload_n 1, 1) := by decide +kernel
theorem dX0_risk_55 : decode cX0_risk 55 = .ok (.iconst 2, 1) := by decide +kernel
theorem dX0_risk_56 : decode cX0_risk 56 = .ok (.idiv, 1) := by decide +kernel
theorem dX0_risk_57 : decode cX0_risk 57 = .ok (.iload_n 3, 1) := by decide +kernel
theorem dX0_risk_58 : decode cX0_risk 58 = .ok (.iadd, 1) := by decide +kernel
theorem dX0_risk_59 : decode cX0_risk 59 = .ok (.ireturn, 1) := by decide +kernel
theorem dX0_risk_60 : decode cX0_risk 60 = .ok (.iload_n 1, 1) := by decide +kernel
theorem dX0_risk_61 : decode cX0_risk 61 = .ok (.iconst 3, 1) := by decide +kernel
theorem dX0_risk_62 : decode cX0_risk 62 = .ok (.idiv, 1) := by decide +kernel
theorem dX0_risk_63 : decode cX0_risk 63 = .ok (.ireturn, 1) := by decide +kernel
theorem dX0_risk_64 : decode cX0_risk 64 = .ok (.iload_n 1, 1) := by decide +kernel
theorem dX0_risk_65 : decode cX0_risk 65 = .ok (.ireturn, 1) := by decide +kernel
theorem dX0_hold_0 : decode cX0_hold 0 = .ok (.iload_n 0, 1) := by decide +kernel
theorem dX0_hold_1 : decode cX0_hold 1 = .ok (.tableswitch 46 2 5 #[31, 46, 35, 41], 31) := by decide +kernel
theorem dX0_hold_32 : decode cX0_hold 32 = .ok (.iload_n 1, 1) := by decide +kernel
theorem dX0_hold_33 : decode cX0_hold 33 = .ok (.iconst 5, 1) := by decide +kernel
theorem dX0_hold_34 : decode cX0_hold 34 = .ok (.iadd, 1) := by decide +kernel
theorem dX0_hold_35 : decode cX0_hold 35 = .ok (.ireturn, 1) := by decide +kernel
theorem dX0_hold_36 : decode cX0_hold 36 = .ok (.iload_n 1, 1) := by decide +kernel
theorem dX0_hold_37 : decode cX0_hold 37 = .ok (.iconst 5, 1) := by decide +kernel
theorem dX0_hold_38 : decode cX0_hold 38 = .ok (.iadd, 1) := by decide +kernel
theorem dX0_hold_39 : decode cX0_hold 39 = .ok (.iload_n 2, 1) := by decide +kernel
theorem dX0_hold_40 : decode cX0_hold 40 = .ok (.isub, 1) := by decide +kernel
theorem dX0_hold_41 : decode cX0_hold 41 = .ok (.ireturn, 1) := by decide +kernel
theorem dX0_hold_42 : decode cX0_hold 42 = .ok (.iload_n 1, 1) := by decide +kernel
theorem dX0_hold_43 : decode cX0_hold 43 = .ok (.bipush 20, 2) := by decide +kernel
theorem dX0_hold_45 : decode cX0_hold 45 = .ok (.iadd, 1) := by decide +kernel
theorem dX0_hold_46 : decode cX0_hold 46 = .ok (.ireturn, 1) := by decide +kernel
theorem dX0_hold_47 : decode cX0_hold 47 = .ok (.iload_n 1, 1) := by decide +kernel
theorem dX0_hold_48 : decode cX0_hold 48 = .ok (.ireturn, 1) := by decide +kernel
theorem dX0_worth_0 : decode cX0_worth 0 = .ok (.iload_n 0, 1) := by decide +kernel
theorem dX0_worth_1 : decode cX0_worth 1 = .ok (.tableswitch 60 1 5 #[35, 45, 39, 50, 58], 35) := by decide +kernel
theorem dX0_worth_36 : decode cX0_worth 36 = .ok (.iload_n 1, 1) := by decide +kernel
theorem dX0_worth_37 : decode cX0_worth 37 = .ok (.iload_n 2, 1) := by decide +kernel
theorem dX0_worth_38 : decode cX0_worth 38 = .ok (.iadd, 1) := by decide +kernel
theorem dX0_worth_39 : decode cX0_worth 39 = .ok (.ireturn, 1) := by decide +kernel
theorem dX0_worth_40 : decode cX0_worth 40 = .ok (.iconst 2, 1) := by decide +kernel
theorem dX0_worth_41 : decode cX0_worth 41 = .ok (.iload_n 1, 1) := by decide +kernel
theorem dX0_worth_42 : decode cX0_worth 42 = .ok (.iload_n 2, 1) := by decide +kernel
theorem dX0_worth_43 : decode cX0_worth 43 = .ok (.iadd, 1) := by decide +kernel
theorem dX0_worth_44 : decode cX0_worth 44 = .ok (.imul, 1) := by decide +kernel
theorem dX0_worth_45 : decode cX0_worth 45 = .ok (.ireturn, 1) := by decide +kernel
theorem dX0_worth_46 : decode cX0_worth 46 = .ok (.bipush 60, 2) := by decide +kernel
theorem dX0_worth_48 : decode cX0_worth 48 = .ok (.iload_n 1, 1) := by decide +kernel
theorem dX0_worth_49 : decode cX0_worth 49 = .ok (.isub, 1) := by decide +kernel
theorem dX0_worth_50 : decode cX0_worth 50 = .ok (.ireturn, 1) := by decide +kernel
theorem dX0_worth_51 : decode cX0_worth 51 = .ok (.bipush 60, 2) := by decide +kernel
theorem dX0_worth_53 : decode cX0_worth 53 = .ok (.iload_n 1, 1) := by decide +kernel
theorem dX0_worth_54 : decode cX0_worth 54 = .ok (.isub, 1) := by decide +kernel
theorem dX0_worth_55 : decode cX0_worth 55 = .ok (.bipush 9, 2) := by decide +kernel
theorem dX0_worth_57 : decode cX0_worth 57 = .ok (.iadd, 1) := by decide +kernel
theorem dX0_worth_58 : decode cX0_worth 58 = .ok (.ireturn, 1) := by decide +kernel
theorem dX0_worth_59 : decode cX0_worth 59 = .ok (.iload_n 2, 1) := by decide +kernel
theorem dX0_worth_60 : decode cX0_worth 60 = .ok (.ireturn, 1) := by decide +kernel
theorem dX0_worth_61 : decode cX0_worth 61 = .ok (.iload_n 1, 1) := by decide +kernel
theorem dX0_worth_62 : decode cX0_worth 62 = .ok (.ireturn, 1) := by decide +kernel
theorem dX1_init_0 : decode cX1_init 0 = .ok (.aload_n 0, 1) := by decide +kernel
theorem dX1_init_1 : decode cX1_init 1 = .ok (.invokespecial 3, 3) := by decide +kernel
theorem dX1_init_4 : decode cX1_init 4 = .ok (.aload_n 0, 1) := by decide +kernel
theorem dX1_init_5 : decode cX1_init 5 = .ok (.bipush 96, 2) := by decide +kernel
theorem dX1_init_7 : decode cX1_init 7 = .ok (.newarray .int, 2) := by decide +kernel
theorem dX1_init_9 : decode cX1_init 9 = .ok (.putfield 9, 3) := by decide +kernel
theorem dX1_init_12 : decode cX1_init 12 = .ok (.return_, 1) := by decide +kernel
theorem dX1_begin_0 : decode cX1_begin 0 = .ok (.aload_n 0, 1) := by decide +kernel
theorem dX1_begin_1 : decode cX1_begin 1 = .ok (.iconst 0, 1) := by decide +kernel
theorem dX1_begin_2 : decode cX1_begin 2 = .ok (.putfield 15, 3) := by decide +kernel
theorem dX1_begin_5 : decode cX1_begin 5 = .ok (.aload_n 0, 1) := by decide +kernel
theorem dX1_begin_6 : decode cX1_begin 6 = .ok (.iconst 0, 1) := by decide +kernel
theorem dX1_begin_7 : decode cX1_begin 7 = .ok (.putfield 19, 3) := by decide +kernel
theorem dX1_begin_10 : decode cX1_begin 10 = .ok (.return_, 1) := by decide +kernel
theorem dX1_add_0 : decode cX1_add 0 = .ok (.aload_n 0, 1) := by decide +kernel
theorem dX1_add_1 : decode cX1_add 1 = .ok (.getfield 19, 3) := by decide +kernel
theorem dX1_add_4 : decode cX1_add 4 = .ok (.bipush 96, 2) := by decide +kernel
theorem dX1_add_6 : decode cX1_add 6 = .ok (.if_icmp .ge 23, 3) := by decide +kernel
theorem dX1_add_9 : decode cX1_add 9 = .ok (.aload_n 0, 1) := by decide +kernel
theorem dX1_add_10 : decode cX1_add 10 = .ok (.getfield 9, 3) := by decide +kernel
theorem dX1_add_13 : decode cX1_add 13 = .ok (.aload_n 0, 1) := by decide +kernel
theorem dX1_add_14 : decode cX1_add 14 = .ok (.getfield 19, 3) := by decide +kernel
theorem dX1_add_17 : decode cX1_add 17 = .ok (.iload_n 1, 1) := by decide +kernel
theorem dX1_add_18 : decode cX1_add 18 = .ok (.iastore, 1) := by decide +kernel
theorem dX1_add_19 : decode cX1_add 19 = .ok (.aload_n 0, 1) := by decide +kernel
theorem dX1_add_20 : decode cX1_add 20 = .ok (.dup, 1) := by decide +kernel
theorem dX1_add_21 : decode cX1_add 21 = .ok (.getfield 19, 3) := by decide +kernel
theorem dX1_add_24 : decode cX1_add 24 = .ok (.iconst 1, 1) := by decide +kernel
theorem dX1_add_25 : decode cX1_add 25 = .ok (.iadd, 1) := by decide +kernel
theorem dX1_add_26 : decode cX1_add 26 = .ok (.putfield 19, 3) := by decide +kernel
theorem dX1_add_29 : decode cX1_add 29 = .ok (.return_, 1) := by decide +kernel
theorem dX1_addPiece_0 : decode cX1_addPiece 0 = .ok (.aload_n 0, 1) := by decide +kernel
theorem dX1_addPiece_1 : decode cX1_addPiece 1 = .ok (.iload_n 1, 1) := by decide +kernel
theorem dX1_addPiece_2 : decode cX1_addPiece 2 = .ok (.invokevirtual 22, 3) := by decide +kernel
theorem dX1_addPiece_5 : decode cX1_addPiece 5 = .ok (.aload_n 0, 1) := by decide +kernel
theorem dX1_addPiece_6 : decode cX1_addPiece 6 = .ok (.dup, 1) := by decide +kernel
theorem dX1_addPiece_7 : decode cX1_addPiece 7 = .ok (.getfield 15, 3) := by decide +kernel
theorem dX1_addPiece_10 : decode cX1_addPiece 10 = .ok (.iconst 1, 1) := by decide +kernel
theorem dX1_addPiece_11 : decode cX1_addPiece 11 = .ok (.iadd, 1) := by decide +kernel
theorem dX1_addPiece_12 : decode cX1_addPiece 12 = .ok (.putfield 15, 3) := by decide +kernel
theorem dX1_addPiece_15 : decode cX1_addPiece 15 = .ok (.return_, 1) := by decide +kernel
theorem dX1_become_0 : decode cX1_become 0 = .ok (.aload_n 0, 1) := by decide +kernel
theorem dX1_become_1 : decode cX1_become 1 = .ok (.aload_n 1, 1) := by decide +kernel
theorem dX1_become_2 : decode cX1_become 2 = .ok (.getfield 26, 3) := by decide +kernel
theorem dX1_become_5 : decode cX1_become 5 = .ok (.putfield 26, 3) := by decide +kernel
theorem dX1_become_8 : decode cX1_become 8 = .ok (.aload_n 0, 1) := by decide +kernel
theorem dX1_become_9 : decode cX1_become 9 = .ok (.aload_n 1, 1) := by decide +kernel
theorem dX1_become_10 : decode cX1_become 10 = .ok (.getfield 15, 3) := by decide +kernel
theorem dX1_become_13 : decode cX1_become 13 = .ok (.putfield 15, 3) := by decide +kernel
theorem dX1_become_16 : decode cX1_become 16 = .ok (.aload_n 0, 1) := by decide +kernel
theorem dX1_become_17 : decode cX1_become 17 = .ok (.aload_n 1, 1) := by decide +kernel
theorem dX1_become_18 : decode cX1_become 18 = .ok (.getfield 19, 3) := by decide +kernel
theorem dX1_become_21 : decode cX1_become 21 = .ok (.putfield 19, 3) := by decide +kernel
theorem dX1_become_24 : decode cX1_become 24 = .ok (.aload_n 1, 1) := by decide +kernel
theorem dX1_become_25 : decode cX1_become 25 = .ok (.getfield 9, 3) := by decide +kernel
theorem dX1_become_28 : decode cX1_become 28 = .ok (.iconst 0, 1) := by decide +kernel
theorem dX1_become_29 : decode cX1_become 29 = .ok (.aload_n 0, 1) := by decide +kernel
theorem dX1_become_30 : decode cX1_become 30 = .ok (.getfield 9, 3) := by decide +kernel
theorem dX1_become_33 : decode cX1_become 33 = .ok (.iconst 0, 1) := by decide +kernel
theorem dX1_become_34 : decode cX1_become 34 = .ok (.bipush 96, 2) := by decide +kernel
theorem dX1_become_36 : decode cX1_become 36 = .ok (.invokestatic 29, 3) := by decide +kernel
theorem dX1_become_39 : decode cX1_become 39 = .ok (.return_, 1) := by decide +kernel
theorem dX2_init_0 : decode cX2_init 0 = .ok (.aload_n 0, 1) := by decide +kernel
theorem dX2_init_1 : decode cX2_init 1 = .ok (.invokespecial 3, 3) := by decide +kernel
theorem dX2_init_4 : decode cX2_init 4 = .ok (.aload_n 0, 1) := by decide +kernel
theorem dX2_init_5 : decode cX2_init 5 = .ok (.bipush 14, 2) := by decide +kernel
theorem dX2_init_7 : decode cX2_init 7 = .ok (.anewarray 9, 3) := by decide +kernel
theorem dX2_init_10 : decode cX2_init 10 = .ok (.putfield 11, 3) := by decide +kernel
theorem dX2_init_13 : decode cX2_init 13 = .ok (.aload_n 0, 1) := by decide +kernel
theorem dX2_init_14 : decode cX2_init 14 = .ok (.bipush 96, 2) := by decide +kernel
theorem dX2_init_16 : decode cX2_init 16 = .ok (.newarray .int, 2) := by decide +kernel
theorem dX2_init_18 : decode cX2_init 18 = .ok (.putfield 17, 3) := by decide +kernel
theorem dX2_init_21 : decode cX2_init 21 = .ok (.iconst 0, 1) := by decide +kernel
theorem dX2_init_22 : decode cX2_init 22 = .ok (.istore_n 1, 1) := by decide +kernel
theorem dX2_init_23 : decode cX2_init 23 = .ok (.iload_n 1, 1) := by decide +kernel
theorem dX2_init_24 : decode cX2_init 24 = .ok (.bipush 14, 2) := by decide +kernel
theorem dX2_init_26 : decode cX2_init 26 = .ok (.if_icmp .ge 22, 3) := by decide +kernel
theorem dX2_init_29 : decode cX2_init 29 = .ok (.aload_n 0, 1) := by decide +kernel
theorem dX2_init_30 : decode cX2_init 30 = .ok (.getfield 11, 3) := by decide +kernel
theorem dX2_init_33 : decode cX2_init 33 = .ok (.iload_n 1, 1) := by decide +kernel
theorem dX2_init_34 : decode cX2_init 34 = .ok (.new 9, 3) := by decide +kernel
theorem dX2_init_37 : decode cX2_init 37 = .ok (.dup, 1) := by decide +kernel
theorem dX2_init_38 : decode cX2_init 38 = .ok (.invokespecial 21, 3) := by decide +kernel
theorem dX2_init_41 : decode cX2_init 41 = .ok (.aastore, 1) := by decide +kernel
theorem dX2_init_42 : decode cX2_init 42 = .ok (.iinc 1 1, 3) := by decide +kernel
theorem dX2_init_45 : decode cX2_init 45 = .ok (.goto (-22), 3) := by decide +kernel
theorem dX2_init_48 : decode cX2_init 48 = .ok (.return_, 1) := by decide +kernel
theorem dX2_lastOf_0 : decode cX2_lastOf 0 = .ok (.iload_n 2, 1) := by decide +kernel
theorem dX2_lastOf_1 : decode cX2_lastOf 1 = .ok (.bipush 14, 2) := by decide +kernel
theorem dX2_lastOf_3 : decode cX2_lastOf 3 = .ok (.invokestatic 22, 3) := by decide +kernel
theorem dX2_lastOf_6 : decode cX2_lastOf 6 = .ok (.iconst 1, 1) := by decide +kernel
theorem dX2_lastOf_7 : decode cX2_lastOf 7 = .ok (.isub, 1) := by decide +kernel
theorem dX2_lastOf_8 : decode cX2_lastOf 8 = .ok (.istore_n 3, 1) := by decide +kernel
theorem dX2_lastOf_9 : decode cX2_lastOf 9 = .ok (.iload_n 3, 1) := by decide +kernel
theorem dX2_lastOf_10 : decode cX2_lastOf 10 = .ok (.ifCond .lt 24, 3) := by decide +kernel
theorem dX2_lastOf_13 : decode cX2_lastOf 13 = .ok (.aload_n 0, 1) := by decide +kernel
theorem dX2_lastOf_14 : decode cX2_lastOf 14 = .ok (.getfield 11, 3) := by decide +kernel
theorem dX2_lastOf_17 : decode cX2_lastOf 17 = .ok (.iload_n 3, 1) := by decide +kernel
theorem dX2_lastOf_18 : decode cX2_lastOf 18 = .ok (.aaload, 1) := by decide +kernel
theorem dX2_lastOf_19 : decode cX2_lastOf 19 = .ok (.getfield 28, 3) := by decide +kernel
theorem dX2_lastOf_22 : decode cX2_lastOf 22 = .ok (.iload_n 1, 1) := by decide +kernel
theorem dX2_lastOf_23 : decode cX2_lastOf 23 = .ok (.if_icmp .ne 5, 3) := by decide +kernel
theorem dX2_lastOf_26 : decode cX2_lastOf 26 = .ok (.iload_n 3, 1) := by decide +kernel
theorem dX2_lastOf_27 : decode cX2_lastOf 27 = .ok (.ireturn, 1) := by decide +kernel
theorem dX2_lastOf_28 : decode cX2_lastOf 28 = .ok (.iinc 3 (-1), 3) := by decide +kernel
theorem dX2_lastOf_31 : decode cX2_lastOf 31 = .ok (.goto (-22), 3) := by decide +kernel
theorem dX2_lastOf_34 : decode cX2_lastOf 34 = .ok (.ldc 32, 2) := by decide +kernel
theorem dX2_lastOf_36 : decode cX2_lastOf 36 = .ok (.ireturn, 1) := by decide +kernel
theorem dX2_worth_0 : decode cX2_worth 0 = .ok (.aload_n 0, 1) := by decide +kernel
theorem dX2_worth_1 : decode cX2_worth 1 = .ok (.getfield 11, 3) := by decide +kernel
theorem dX2_worth_4 : decode cX2_worth 4 = .ok (.iload_n 1, 1) := by decide +kernel
theorem dX2_worth_5 : decode cX2_worth 5 = .ok (.aaload, 1) := by decide +kernel
theorem dX2_worth_6 : decode cX2_worth 6 = .ok (.astore 5, 2) := by decide +kernel
theorem dX2_worth_8 : decode cX2_worth 8 = .ok (.iconst 0, 1) := by decide +kernel
theorem dX2_worth_9 : decode cX2_worth 9 = .ok (.istore 6, 2) := by decide +kernel
theorem dX2_worth_11 : decode cX2_worth 11 = .ok (.iconst 0, 1) := by decide +kernel
theorem dX2_worth_12 : decode cX2_worth 12 = .ok (.istore 7, 2) := by decide +kernel
theorem dX2_worth_14 : decode cX2_worth 14 = .ok (.iload 7, 2) := by decide +kernel
theorem dX2_worth_16 : decode cX2_worth 16 = .ok (.aload 5, 2) := by decide +kernel
theorem dX2_worth_18 : decode cX2_worth 18 = .ok (.getfield 33, 3) := by decide +kernel
theorem dX2_worth_21 : decode cX2_worth 21 = .ok (.if_icmp .ge 130, 3) := by decide +kernel
theorem dX2_worth_24 : decode cX2_worth 24 = .ok (.aload 5, 2) := by decide +kernel
theorem dX2_worth_26 : decode cX2_worth 26 = .ok (.getfield 36, 3) := by decide +kernel
theorem dX2_worth_29 : decode cX2_worth 29 = .ok (.iload 7, 2) := by decide +kernel
theorem dX2_worth_31 : decode cX2_worth 31 = .ok (.iaload, 1) := by decide +kernel
theorem dX2_worth_32 : decode cX2_worth 32 = .ok (.istore 8, 2) := by decide +kernel
theorem dX2_worth_34 : decode cX2_worth 34 = .ok (.iload 8, 2) := by decide +kernel
theorem dX2_worth_36 : decode cX2_worth 36 = .ok (.bipush (-33), 2) := by decide +kernel
theorem dX2_worth_38 : decode cX2_worth 38 = .ok (.if_icmp .ne 37, 3) := by decide +kernel
theorem dX2_worth_41 : decode cX2_worth 41 = .ok (.iload 6, 2) := by decide +kernel
theorem dX2_worth_43 : decode cX2_worth 43 = .ok (.ifCond .le 32, 3) := by decide +kernel
theorem dX2_worth_46 : decode cX2_worth 46 = .ok (.aload_n 0, 1) := by decide +kernel
theorem dX2_worth_47 : decode cX2_worth 47 = .ok (.getfield 17, 3) := by decide +kernel
theorem dX2_worth_50 : decode cX2_worth 50 = .ok (.iload 6, 2) := by decide +kernel
theorem dX2_worth_52 : decode cX2_worth 52 = .ok (.iconst 1, 1) := by decide +kernel
theorem dX2_worth_53 : decode cX2_worth 53 = .ok (.isub, 1) := by decide +kernel
theorem dX2_worth_54 : decode cX2_worth 54 = .ok (.aload_n 0, 1) := by decide +kernel
theorem dX2_worth_55 : decode cX2_worth 55 = .ok (.getfield 17, 3) := by decide +kernel
theorem dX2_worth_58 : decode cX2_worth 58 = .ok (.iload 6, 2) := by decide +kernel
theorem dX2_worth_60 : decode cX2_worth 60 = .ok (.iconst 1, 1) := by decide +kernel
theorem dX2_worth_61 : decode cX2_worth 61 = .ok (.isub, 1) := by decide +kernel
theorem dX2_worth_62 : decode cX2_worth 62 = .ok (.iaload, 1) := by decide +kernel
theorem dX2_worth_63 : decode cX2_worth 63 = .ok (.ifCond .ne 7, 3) := by decide +kernel
theorem dX2_worth_66 : decode cX2_worth 66 = .ok (.iconst 1, 1) := by decide +kernel
theorem dX2_worth_67 : decode cX2_worth 67 = .ok (.goto 4, 3) := by decide +kernel
theorem dX2_worth_70 : decode cX2_worth 70 = .ok (.iconst 0, 1) := by decide +kernel
theorem dX2_worth_71 : decode cX2_worth 71 = .ok (.iastore, 1) := by decide +kernel
theorem dX2_worth_72 : decode cX2_worth 72 = .ok (.goto 73, 3) := by decide +kernel
theorem dX2_worth_75 : decode cX2_worth 75 = .ok (.iload 8, 2) := by decide +kernel
theorem dX2_worth_77 : decode cX2_worth 77 = .ok (.invokestatic 39, 3) := by decide +kernel
theorem dX2_worth_80 : decode cX2_worth 80 = .ok (.ifCond .eq 25, 3) := by decide +kernel
theorem dX2_worth_83 : decode cX2_worth 83 = .ok (.aload_n 0, 1) := by decide +kernel
theorem dX2_worth_84 : decode cX2_worth 84 = .ok (.getfield 17, 3) := by decide +kernel
theorem dX2_worth_87 : decode cX2_worth 87 = .ok (.iload 6, 2) := by decide +kernel
theorem dX2_worth_89 : decode cX2_worth 89 = .ok (.iload 8, 2) := by decide +kernel
theorem dX2_worth_91 : decode cX2_worth 91 = .ok (.iload_n 2, 1) := by decide +kernel
theorem dX2_worth_92 : decode cX2_worth 92 = .ok (.iload_n 3, 1) := by decide +kernel
theorem dX2_worth_93 : decode cX2_worth 93 = .ok (.iload 4, 2) := by decide +kernel
theorem dX2_worth_95 : decode cX2_worth 95 = .ok (.invokestatic 43, 3) := by decide +kernel
theorem dX2_worth_98 : decode cX2_worth 98 = .ok (.iastore, 1) := by decide +kernel
theorem dX2_worth_99 : decode cX2_worth 99 = .ok (.iinc 6 1, 3) := by decide +kernel
theorem dX2_worth_102 : decode cX2_worth 102 = .ok (.goto 43, 3) := by decide +kernel
theorem dX2_worth_105 : decode cX2_worth 105 = .ok (.iload 6, 2) := by decide +kernel
theorem dX2_worth_107 : decode cX2_worth 107 = .ok (.iconst 1, 1) := by decide +kernel
theorem dX2_worth_108 : decode cX2_worth 108 = .ok (.if_icmp .le 37, 3) := by decide +kernel
theorem dX2_worth_111 : decode cX2_worth 111 = .ok (.iinc 6 (-1), 3) := by decide +kernel
theorem dX2_worth_114 : decode cX2_worth 114 = .ok (.aload_n 0, 1) := by decide +kernel
theorem dX2_worth_115 : decode cX2_worth 115 = .ok (.getfield 17, 3) := by decide +kernel
theorem dX2_worth_118 : decode cX2_worth 118 = .ok (.iload 6, 2) := by decide +kernel
theorem dX2_worth_120 : decode cX2_worth 120 = .ok (.iconst 1, 1) := by decide +kernel
theorem dX2_worth_121 : decode cX2_worth 121 = .ok (.isub, 1) := by decide +kernel
theorem dX2_worth_122 : decode cX2_worth 122 = .ok (.iload 8, 2) := by decide +kernel
theorem dX2_worth_124 : decode cX2_worth 124 = .ok (.ineg, 1) := by decide +kernel
theorem dX2_worth_125 : decode cX2_worth 125 = .ok (.aload_n 0, 1) := by decide +kernel
theorem dX2_worth_126 : decode cX2_worth 126 = .ok (.getfield 17, 3) := by decide +kernel
theorem dX2_worth_129 : decode cX2_worth 129 = .ok (.iload 6, 2) := by decide +kernel
theorem dX2_worth_131 : decode cX2_worth 131 = .ok (.iconst 1, 1) := by decide +kernel
theorem dX2_worth_132 : decode cX2_worth 132 = .ok (.isub, 1) := by decide +kernel
theorem dX2_worth_133 : decode cX2_worth 133 = .ok (.iaload, 1) := by decide +kernel
theorem dX2_worth_134 : decode cX2_worth 134 = .ok (.aload_n 0, 1) := by decide +kernel
theorem dX2_worth_135 : decode cX2_worth 135 = .ok (.getfield 17, 3) := by decide +kernel
theorem dX2_worth_138 : decode cX2_worth 138 = .ok (.iload 6, 2) := by decide +kernel
theorem dX2_worth_140 : decode cX2_worth 140 = .ok (.iaload, 1) := by decide +kernel
theorem dX2_worth_141 : decode cX2_worth 141 = .ok (.invokestatic 47, 3) := by decide +kernel
theorem dX2_worth_144 : decode cX2_worth 144 = .ok (.iastore, 1) := by decide +kernel
theorem dX2_worth_145 : decode cX2_worth 145 = .ok (.iinc 7 1, 3) := by decide +kernel
theorem dX2_worth_148 : decode cX2_worth 148 = .ok (.goto (-134), 3) := by decide +kernel
theorem dX2_worth_151 : decode cX2_worth 151 = .ok (.aload_n 0, 1) := by decide +kernel
theorem dX2_worth_152 : decode cX2_worth 152 = .ok (.getfield 17, 3) := by decide +kernel
theorem dX2_worth_155 : decode cX2_worth 155 = .ok (.iconst 0, 1) := by decide +kernel
theorem dX2_worth_156 : decode cX2_worth 156 = .ok (.iaload, 1) := by decide +kernel
theorem dX2_worth_157 : decode cX2_worth 157 = .ok (.ireturn, 1) := by decide +kernel
theorem dX2_isPiece_0 : decode cX2_isPiece 0 = .ok (.iload_n 0, 1) := by decide +kernel
theorem dX2_isPiece_1 : decode cX2_isPiece 1 = .ok (.ifCond .ge 15, 3) := by decide +kernel
theorem dX2_isPiece_4 : decode cX2_isPiece 4 = .ok (.iload_n 0, 1) := by decide +kernel
theorem dX2_isPiece_5 : decode cX2_isPiece 5 = .ok (.ineg, 1) := by decide +kernel
theorem dX2_isPiece_6 : decode cX2_isPiece 6 = .ok (.bipush 97, 2) := by decide +kernel
theorem dX2_isPiece_8 : decode cX2_isPiece 8 = .ok (.bipush 122, 2) := by decide +kernel
theorem dX2_isPiece_10 : decode cX2_isPiece 10 = .ok (.invokestatic 51, 3) := by decide +kernel
theorem dX2_isPiece_13 : decode cX2_isPiece 13 = .ok (.ifCond .eq 7, 3) := by decide +kernel
theorem dX2_isPiece_16 : decode cX2_isPiece 16 = .ok (.iconst 1, 1) := by decide +kernel
theorem dX2_isPiece_17 : decode cX2_isPiece 17 = .ok (.goto 4, 3) := by decide +kernel
theorem dX2_isPiece_20 : decode cX2_isPiece 20 = .ok (.iconst 0, 1) := by decide +kernel
theorem dX2_isPiece_21 : decode cX2_isPiece 21 = .ok (.ireturn, 1) := by decide +kernel
theorem dX2_pieceWorth_0 : decode cX2_pieceWorth 0 = .ok (.iload_n 0, 1) := by decide +kernel
theorem dX2_pieceWorth_1 : decode cX2_pieceWorth 1 = .ok (.ifCond .lt 5, 3) := by decide +kernel
theorem dX2_pieceWorth_4 : decode cX2_pieceWorth 4 = .ok (.iload_n 0, 1) := by decide +kernel
theorem dX2_pieceWorth_5 : decode cX2_pieceWorth 5 = .ok (.ireturn, 1) := by decide +kernel
theorem dX2_pieceWorth_6 : decode cX2_pieceWorth 6 = .ok (.iload_n 0, 1) := by decide +kernel
theorem dX2_pieceWorth_7 : decode cX2_pieceWorth 7 = .ok (.bipush (-115), 2) := by decide +kernel
theorem dX2_pieceWorth_9 : decode cX2_pieceWorth 9 = .ok (.if_icmp .ne 5, 3) := by decide +kernel
theorem dX2_pieceWorth_12 : decode cX2_pieceWorth 12 = .ok (.iload_n 1, 1) := by decide +kernel
theorem dX2_pieceWorth_13 : decode cX2_pieceWorth 13 = .ok (.ireturn, 1) := by decide +kernel
theorem dX2_pieceWorth_14 : decode cX2_pieceWorth 14 = .ok (.iload_n 0, 1) := by decide +kernel
theorem dX2_pieceWorth_15 : decode cX2_pieceWorth 15 = .ok (.bipush (-100), 2) := by decide +kernel
theorem dX2_pieceWorth_17 : decode cX2_pieceWorth 17 = .ok (.if_icmp .ne 7, 3) := by decide +kernel
theorem dX2_pieceWorth_20 : decode cX2_pieceWorth 20 = .ok (.iload_n 3, 1) := by decide +kernel
theorem dX2_pieceWorth_21 : decode cX2_pieceWorth 21 = .ok (.goto 4, 3) := by decide +kernel
theorem dX2_pieceWorth_24 : decode cX2_pieceWorth 24 = .ok (.iload_n 2, 1) := by decide +kernel
theorem dX2_pieceWorth_25 : decode cX2_pieceWorth 25 = .ok (.ireturn, 1) := by decide +kernel
theorem dX2_joined_0 : decode cX2_joined 0 = .ok (.iload_n 0, 1) := by decide +kernel
theorem dX2_joined_1 : decode cX2_joined 1 = .ok (.lookupswitch 148 #[(38, 89), (42, 144), (43, 136), (45, 140), (60, 103), (61, 114), (62, 125), (124, 75)], 75) := by decide +kernel
theorem dX2_joined_76 : decode cX2_joined 76 = .ok (.iload_n 1, 1) := by decide +kernel
theorem dX2_joined_77 : decode cX2_joined 77 = .ok (.ifCond .ne 7, 3) := by decide +kernel
theorem dX2_joined_80 : decode cX2_joined 80 = .ok (.iload_n 2, 1) := by decide +kernel
theorem dX2_joined_81 : decode cX2_joined 81 = .ok (.ifCond .eq 7, 3) := by decide +kernel
theorem dX2_joined_84 : decode cX2_joined 84 = .ok (.iconst 1, 1) := by decide +kernel
theorem dX2_joined_85 : decode cX2_joined 85 = .ok (.goto 4, 3) := by decide +kernel
theorem dX2_joined_88 : decode cX2_joined 88 = .ok (.iconst 0, 1) := by decide +kernel
theorem dX2_joined_89 : decode cX2_joined 89 = .ok (.ireturn, 1) := by decide +kernel
theorem dX2_joined_90 : decode cX2_joined 90 = .ok (.iload_n 1, 1) := by decide +kernel
theorem dX2_joined_91 : decode cX2_joined 91 = .ok (.ifCond .eq 11, 3) := by decide +kernel
theorem dX2_joined_94 : decode cX2_joined 94 = .ok (.iload_n 2, 1) := by decide +kernel
theorem dX2_joined_95 : decode cX2_joined 95 = .ok (.ifCond .eq 7, 3) := by decide +kernel
theorem dX2_joined_98 : decode cX2_joined 98 = .ok (.iconst 1, 1) := by decide +kernel
theorem dX2_joined_99 : decode cX2_joined 99 = .ok (.goto 4, 3) := by decide +kernel
theorem dX2_joined_102 : decode cX2_joined 102 = .ok (.iconst 0, 1) := by decide +kernel
theorem dX2_joined_103 : decode cX2_joined 103 = .ok (.ireturn, 1) := by decide +kernel
theorem dX2_joined_104 : decode cX2_joined 104 = .ok (.iload_n 1, 1) := by decide +kernel
theorem dX2_joined_105 : decode cX2_joined 105 = .ok (.iload_n 2, 1) := by decide +kernel
theorem dX2_joined_106 : decode cX2_joined 106 = .ok (.if_icmp .ge 7, 3) := by decide +kernel
theorem dX2_joined_109 : decode cX2_joined 109 = .ok (.iconst 1, 1) := by decide +kernel
theorem dX2_joined_110 : decode cX2_joined 110 = .ok (.goto 4, 3) := by decide +kernel
theorem dX2_joined_113 : decode cX2_joined 113 = .ok (.iconst 0, 1) := by decide +kernel
theorem dX2_joined_114 : decode cX2_joined 114 = .ok (.ireturn, 1) := by decide +kernel
theorem dX2_joined_115 : decode cX2_joined 115 = .ok (.iload_n 1, 1) := by decide +kernel
theorem dX2_joined_116 : decode cX2_joined 116 = .ok (.iload_n 2, 1) := by decide +kernel
theorem dX2_joined_117 : decode cX2_joined 117 = .ok (.if_icmp .ne 7, 3) := by decide +kernel
theorem dX2_joined_120 : decode cX2_joined 120 = .ok (.iconst 1, 1) := by decide +kernel
theorem dX2_joined_121 : decode cX2_joined 121 = .ok (.goto 4, 3) := by decide +kernel
theorem dX2_joined_124 : decode cX2_joined 124 = .ok (.iconst 0, 1) := by decide +kernel
theorem dX2_joined_125 : decode cX2_joined 125 = .ok (.ireturn, 1) := by decide +kernel
theorem dX2_joined_126 : decode cX2_joined 126 = .ok (.iload_n 1, 1) := by decide +kernel
theorem dX2_joined_127 : decode cX2_joined 127 = .ok (.iload_n 2, 1) := by decide +kernel
theorem dX2_joined_128 : decode cX2_joined 128 = .ok (.if_icmp .le 7, 3) := by decide +kernel
theorem dX2_joined_131 : decode cX2_joined 131 = .ok (.iconst 1, 1) := by decide +kernel
theorem dX2_joined_132 : decode cX2_joined 132 = .ok (.goto 4, 3) := by decide +kernel
theorem dX2_joined_135 : decode cX2_joined 135 = .ok (.iconst 0, 1) := by decide +kernel
theorem dX2_joined_136 : decode cX2_joined 136 = .ok (.ireturn, 1) := by decide +kernel
theorem dX2_joined_137 : decode cX2_joined 137 = .ok (.iload_n 1, 1) := by decide +kernel
theorem dX2_joined_138 : decode cX2_joined 138 = .ok (.iload_n 2, 1) := by decide +kernel
theorem dX2_joined_139 : decode cX2_joined 139 = .ok (.iadd, 1) := by decide +kernel
theorem dX2_joined_140 : decode cX2_joined 140 = .ok (.ireturn, 1) := by decide +kernel
theorem dX2_joined_141 : decode cX2_joined 141 = .ok (.iload_n 1, 1) := by decide +kernel
theorem dX2_joined_142 : decode cX2_joined 142 = .ok (.iload_n 2, 1) := by decide +kernel
theorem dX2_joined_143 : decode cX2_joined 143 = .ok (.isub, 1) := by decide +kernel
theorem dX2_joined_144 : decode cX2_joined 144 = .ok (.ireturn, 1) := by decide +kernel
theorem dX2_joined_145 : decode cX2_joined 145 = .ok (.iload_n 1, 1) := by decide +kernel
theorem dX2_joined_146 : decode cX2_joined 146 = .ok (.iload_n 2, 1) := by decide +kernel
theorem dX2_joined_147 : decode cX2_joined 147 = .ok (.imul, 1) := by decide +kernel
theorem dX2_joined_148 : decode cX2_joined 148 = .ok (.ireturn, 1) := by decide +kernel
theorem dX2_joined_149 : decode cX2_joined 149 = .ok (.iload_n 2, 1) := by decide +kernel
theorem dX2_joined_150 : decode cX2_joined 150 = .ok (.ifCond .ne 7, 3) := by decide +kernel
theorem dX2_joined_153 : decode cX2_joined 153 = .ok (.iconst 0, 1) := by decide +kernel
theorem dX2_joined_154 : decode cX2_joined 154 = .ok (.goto 6, 3) := by decide +kernel
theorem dX2_joined_157 : decode cX2_joined 157 = .ok (.iload_n 1, 1) := by decide +kernel
theorem dX2_joined_158 : decode cX2_joined 158 = .ok (.iload_n 2, 1) := by decide +kernel
theorem dX2_joined_159 : decode cX2_joined 159 = .ok (.idiv, 1) := by decide +kernel
theorem dX2_joined_160 : decode cX2_joined 160 = .ok (.ireturn, 1) := by decide +kernel
theorem dX3_init_0 : decode cX3_init 0 = .ok (.aload_n 0, 1) := by decide +kernel
theorem dX3_init_1 : decode cX3_init 1 = .ok (.invokespecial 3, 3) := by decide +kernel
theorem dX3_init_4 : decode cX3_init 4 = .ok (.aload_n 0, 1) := by decide +kernel
theorem dX3_init_5 : decode cX3_init 5 = .ok (.bipush 30, 2) := by decide +kernel
theorem dX3_init_7 : decode cX3_init 7 = .ok (.newarray .int, 2) := by decide +kernel
theorem dX3_init_9 : decode cX3_init 9 = .ok (.putfield 9, 3) := by decide +kernel
theorem dX3_init_12 : decode cX3_init 12 = .ok (.aload_n 0, 1) := by decide +kernel
theorem dX3_init_13 : decode cX3_init 13 = .ok (.bipush 30, 2) := by decide +kernel
theorem dX3_init_15 : decode cX3_init 15 = .ok (.newarray .int, 2) := by decide +kernel
theorem dX3_init_17 : decode cX3_init 17 = .ok (.putfield 15, 3) := by decide +kernel
theorem dX3_init_20 : decode cX3_init 20 = .ok (.aload_n 0, 1) := by decide +kernel
theorem dX3_init_21 : decode cX3_init 21 = .ok (.bipush 30, 2) := by decide +kernel
theorem dX3_init_23 : decode cX3_init 23 = .ok (.newarray .int, 2) := by decide +kernel
theorem dX3_init_25 : decode cX3_init 25 = .ok (.putfield 18, 3) := by decide +kernel
theorem dX3_init_28 : decode cX3_init 28 = .ok (.aload_n 0, 1) := by decide +kernel
theorem dX3_init_29 : decode cX3_init 29 = .ok (.bipush 24, 2) := by decide +kernel
theorem dX3_init_31 : decode cX3_init 31 = .ok (.newarray .int, 2) := by decide +kernel
theorem dX3_init_33 : decode cX3_init 33 = .ok (.putfield 21, 3) := by decide +kernel
theorem dX3_init_36 : decode cX3_init 36 = .ok (.aload_n 0, 1) := by decide +kernel
theorem dX3_init_37 : decode cX3_init 37 = .ok (.bipush 30, 2) := by decide +kernel
theorem dX3_init_39 : decode cX3_init 39 = .ok (.newarray .int, 2) := by decide +kernel
theorem dX3_init_41 : decode cX3_init 41 = .ok (.putfield 24, 3) := by decide +kernel
theorem dX3_init_44 : decode cX3_init 44 = .ok (.aload_n 0, 1) := by decide +kernel
theorem dX3_init_45 : decode cX3_init 45 = .ok (.bipush 30, 2) := by decide +kernel
theorem dX3_init_47 : decode cX3_init 47 = .ok (.newarray .int, 2) := by decide +kernel
theorem dX3_init_49 : decode cX3_init 49 = .ok (.putfield 27, 3) := by decide +kernel
theorem dX3_init_52 : decode cX3_init 52 = .ok (.aload_n 0, 1) := by decide +kernel
theorem dX3_init_53 : decode cX3_init 53 = .ok (.iconst 2, 1) := by decide +kernel
theorem dX3_init_54 : decode cX3_init 54 = .ok (.putfield 30, 3) := by decide +kernel
theorem dX3_init_57 : decode cX3_init 57 = .ok (.aload_n 0, 1) := by decide +kernel
theorem dX3_init_58 : decode cX3_init 58 = .ok (.bipush 6, 2) := by decide +kernel
theorem dX3_init_60 : decode cX3_init 60 = .ok (.putfield 34, 3) := by decide +kernel
theorem dX3_init_63 : decode cX3_init 63 = .ok (.aload_n 0, 1) := by decide +kernel
theorem dX3_init_64 : decode cX3_init 64 = .ok (.iconst 3, 1) := by decide +kernel
theorem dX3_init_65 : decode cX3_init 65 = .ok (.putfield 37, 3) := by decide +kernel
theorem dX3_init_68 : decode cX3_init 68 = .ok (.aload_n 0, 1) := by decide +kernel
theorem dX3_init_69 : decode cX3_init 69 = .ok (.iconst 1, 1) := by decide +kernel
theorem dX3_init_70 : decode cX3_init 70 = .ok (.putfield 40, 3) := by decide +kernel
theorem dX3_init_73 : decode cX3_init 73 = .ok (.aload_n 0, 1) := by decide +kernel
theorem dX3_init_74 : decode cX3_init 74 = .ok (.aload_n 1, 1) := by decide +kernel
theorem dX3_init_75 : decode cX3_init 75 = .ok (.putfield 43, 3) := by decide +kernel
theorem dX3_init_78 : decode cX3_init 78 = .ok (.return_, 1) := by decide +kernel
theorem dX3_become_0 : decode cX3_become 0 = .ok (.aload_n 1, 1) := by decide +kernel
theorem dX3_become_1 : decode cX3_become 1 = .ok (.getfield 9, 3) := by decide +kernel
theorem dX3_become_4 : decode cX3_become 4 = .ok (.iconst 0, 1) := by decide +kernel
theorem dX3_become_5 : decode cX3_become 5 = .ok (.aload_n 0, 1) := by decide +kernel
theorem dX3_become_6 : decode cX3_become 6 = .ok (.getfield 9, 3) := by decide +kernel
theorem dX3_become_9 : decode cX3_become 9 = .ok (.iconst 0, 1) := by decide +kernel
theorem dX3_become_10 : decode cX3_become 10 = .ok (.bipush 30, 2) := by decide +kernel
theorem dX3_become_12 : decode cX3_become 12 = .ok (.invokestatic 47, 3) := by decide +kernel
theorem dX3_become_15 : decode cX3_become 15 = .ok (.aload_n 1, 1) := by decide +kernel
theorem dX3_become_16 : decode cX3_become 16 = .ok (.getfield 15, 3) := by decide +kernel
theorem dX3_become_19 : decode cX3_become 19 = .ok (.iconst 0, 1) := by decide +kernel
theorem dX3_become_20 : decode cX3_become 20 = .ok (.aload_n 0, 1) := by decide +kernel
theorem dX3_become_21 : decode cX3_become 21 = .ok (.getfield 15, 3) := by decide +kernel
theorem dX3_become_24 : decode cX3_become 24 = .ok (.iconst 0, 1) := by decide +kernel
theorem dX3_become_25 : decode cX3_become 25 = .ok (.bipush 30, 2) := by decide +kernel
theorem dX3_become_27 : decode cX3_become 27 = .ok (.invokestatic 47, 3) := by decide +kernel
theorem dX3_become_30 : decode cX3_become 30 = .ok (.aload_n 1, 1) := by decide +kernel
theorem dX3_become_31 : decode cX3_become 31 = .ok (.getfield 18, 3) := by decide +kernel
theorem dX3_become_34 : decode cX3_become 34 = .ok (.iconst 0, 1) := by decide +kernel
theorem dX3_become_35 : decode cX3_become 35 = .ok (.aload_n 0, 1) := by decide +kernel
theorem dX3_become_36 : decode cX3_become 36 = .ok (.getfield 18, 3) := by decide +kernel
theorem dX3_become_39 : decode cX3_become 39 = .ok (.iconst 0, 1) := by decide +kernel
theorem dX3_become_40 : decode cX3_become 40 = .ok (.bipush 30, 2) := by decide +kernel
theorem dX3_become_42 : decode cX3_become 42 = .ok (.invokestatic 47, 3) := by decide +kernel
theorem dX3_become_45 : decode cX3_become 45 = .ok (.aload_n 1, 1) := by decide +kernel
theorem dX3_become_46 : decode cX3_become 46 = .ok (.getfield 21, 3) := by decide +kernel
theorem dX3_become_49 : decode cX3_become 49 = .ok (.iconst 0, 1) := by decide +kernel
theorem dX3_become_50 : decode cX3_become 50 = .ok (.aload_n 0, 1) := by decide +kernel
theorem dX3_become_51 : decode cX3_become 51 = .ok (.getfield 21, 3) := by decide +kernel
theorem dX3_become_54 : decode cX3_become 54 = .ok (.iconst 0, 1) := by decide +kernel
theorem dX3_become_55 : decode cX3_become 55 = .ok (.bipush 24, 2) := by decide +kernel
theorem dX3_become_57 : decode cX3_become 57 = .ok (.invokestatic 47, 3) := by decide +kernel
theorem dX3_become_60 : decode cX3_become 60 = .ok (.aload_n 0, 1) := by decide +kernel
theorem dX3_become_61 : decode cX3_become 61 = .ok (.aload_n 1, 1) := by decide +kernel
theorem dX3_become_62 : decode cX3_become 62 = .ok (.getfield 53, 3) := by decide +kernel
theorem dX3_become_65 : decode cX3_become 65 = .ok (.putfield 53, 3) := by decide +kernel
theorem dX3_become_68 : decode cX3_become 68 = .ok (.aload_n 0, 1) := by decide +kernel
theorem dX3_become_69 : decode cX3_become 69 = .ok (.aload_n 1, 1) := by decide +kernel
theorem dX3_become_70 : decode cX3_become 70 = .ok (.getfield 30, 3) := by decide +kernel
theorem dX3_become_73 : decode cX3_become 73 = .ok (.putfield 30, 3) := by decide +kernel
theorem dX3_become_76 : decode cX3_become 76 = .ok (.aload_n 0, 1) := by decide +kernel
theorem dX3_become_77 : decode cX3_become 77 = .ok (.aload_n 1, 1) := by decide +kernel
theorem dX3_become_78 : decode cX3_become 78 = .ok (.getfield 34, 3) := by decide +kernel
theorem dX3_become_81 : decode cX3_become 81 = .ok (.putfield 34, 3) := by decide +kernel
theorem dX3_become_84 : decode cX3_become 84 = .ok (.aload_n 0, 1) := by decide +kernel
theorem dX3_become_85 : decode cX3_become 85 = .ok (.aload_n 1, 1) := by decide +kernel
theorem dX3_become_86 : decode cX3_become 86 = .ok (.getfield 37, 3) := by decide +kernel
theorem dX3_become_89 : decode cX3_become 89 = .ok (.putfield 37, 3) := by decide +kernel
theorem dX3_become_92 : decode cX3_become 92 = .ok (.aload_n 0, 1) := by decide +kernel
theorem dX3_become_93 : decode cX3_become 93 = .ok (.aload_n 1, 1) := by decide +kernel
theorem dX3_become_94 : decode cX3_become 94 = .ok (.getfield 40, 3) := by decide +kernel
theorem dX3_become_97 : decode cX3_become 97 = .ok (.putfield 40, 3) := by decide +kernel
theorem dX3_become_100 : decode cX3_become 100 = .ok (.aload_n 0, 1) := by decide +kernel
theorem dX3_become_101 : decode cX3_become 101 = .ok (.aload_n 1, 1) := by decide +kernel
theorem dX3_become_102 : decode cX3_become 102 = .ok (.getfield 56, 3) := by decide +kernel
theorem dX3_become_105 : decode cX3_become 105 = .ok (.putfield 56, 3) := by decide +kernel
theorem dX3_become_108 : decode cX3_become 108 = .ok (.aload_n 0, 1) := by decide +kernel
theorem dX3_become_109 : decode cX3_become 109 = .ok (.aload_n 1, 1) := by decide +kernel
theorem dX3_become_110 : decode cX3_become 110 = .ok (.getfield 59, 3) := by decide +kernel
theorem dX3_become_113 : decode cX3_become 113 = .ok (.putfield 59, 3) := by decide +kernel
theorem dX3_become_116 : decode cX3_become 116 = .ok (.return_, 1) := by decide +kernel
theorem dX3_sun_0 : decode cX3_sun 0 = .ok (.iconst 0, 1) := by decide +kernel
theorem dX3_sun_1 : decode cX3_sun 1 = .ok (.aload_n 0, 1) := by decide +kernel
theorem dX3_sun_2 : decode cX3_sun 2 = .ok (.getfield 34, 3) := by decide +kernel
theorem dX3_sun_5 : decode cX3_sun 5 = .ok (.bipush 9, 2) := by decide +kernel
theorem dX3_sun_7 : decode cX3_sun 7 = .ok (.isub, 1) := by decide +kernel
theorem dX3_sun_8 : decode cX3_sun 8 = .ok (.invokestatic 62, 3) := by decide +kernel
theorem dX3_sun_11 : decode cX3_sun 11 = .ok (.ireturn, 1) := by decide +kernel
theorem dX3_allLoad_0 : decode cX3_allLoad 0 = .ok (.iconst 0, 1) := by decide +kernel
theorem dX3_allLoad_1 : decode cX3_allLoad 1 = .ok (.istore_n 1, 1) := by decide +kernel
theorem dX3_allLoad_2 : decode cX3_allLoad 2 = .ok (.iconst 0, 1) := by decide +kernel
theorem dX3_allLoad_3 : decode cX3_allLoad 3 = .ok (.istore_n 2, 1) := by decide +kernel
theorem dX3_allLoad_4 : decode cX3_allLoad 4 = .ok (.iload_n 2, 1) := by decide +kernel
theorem dX3_allLoad_5 : decode cX3_allLoad 5 = .ok (.bipush 30, 2) := by decide +kernel
theorem dX3_allLoad_7 : decode cX3_allLoad 7 = .ok (.if_icmp .ge 18, 3) := by decide +kernel
theorem dX3_allLoad_10 : decode cX3_allLoad 10 = .ok (.iload_n 1, 1) := by decide +kernel
theorem dX3_allLoad_11 : decode cX3_allLoad 11 = .ok (.aload_n 0, 1) := by decide +kernel
theorem dX3_allLoad_12 : decode cX3_allLoad 12 = .ok (.getfield 18, 3) := by decide +kernel
theorem dX3_allLoad_15 : decode cX3_allLoad 15 = .ok (.iload_n 2, 1) := by decide +kernel
theorem dX3_allLoad_16 : decode cX3_allLoad 16 = .ok (.iaload, 1) := by decide +kernel
theorem dX3_allLoad_17 : decode cX3_allLoad 17 = .ok (.iadd, 1) := by decide +kernel
theorem dX3_allLoad_18 : decode cX3_allLoad 18 = .ok (.istore_n 1, 1) := by decide +kernel
theorem dX3_allLoad_19 : decode cX3_allLoad 19 = .ok (.iinc 2 1, 3) := by decide +kernel
theorem dX3_allLoad_22 : decode cX3_allLoad 22 = .ok (.goto (-18), 3) := by decide +kernel
theorem dX3_allLoad_25 : decode cX3_allLoad 25 = .ok (.iload_n 1, 1) := by decide +kernel
theorem dX3_allLoad_26 : decode cX3_allLoad 26 = .ok (.ireturn, 1) := by decide +kernel
theorem dX3_mostLoaded_0 : decode cX3_mostLoaded 0 = .ok (.iconst 0, 1) := by decide +kernel
theorem dX3_mostLoaded_1 : decode cX3_mostLoaded 1 = .ok (.istore_n 1, 1) := by decide +kernel
theorem dX3_mostLoaded_2 : decode cX3_mostLoaded 2 = .ok (.iconst 1, 1) := by decide +kernel
theorem dX3_mostLoaded_3 : decode cX3_mostLoaded 3 = .ok (.istore_n 2, 1) := by decide +kernel
theorem dX3_mostLoaded_4 : decode cX3_mostLoaded 4 = .ok (.iload_n 2, 1) := by decide +kernel
theorem dX3_mostLoaded_5 : decode cX3_mostLoaded 5 = .ok (.bipush 30, 2) := by decide +kernel
theorem dX3_mostLoaded_7 : decode cX3_mostLoaded 7 = .ok (.if_icmp .ge 26, 3) := by decide +kernel
theorem dX3_mostLoaded_10 : decode cX3_mostLoaded 10 = .ok (.aload_n 0, 1) := by decide +kernel
theorem dX3_mostLoaded_11 : decode cX3_mostLoaded 11 = .ok (.getfield 18, 3) := by decide +kernel
theorem dX3_mostLoaded_14 : decode cX3_mostLoaded 14 = .ok (.iload_n 2, 1) := by decide +kernel
theorem dX3_mostLoaded_15 : decode cX3_mostLoaded 15 = .ok (.iaload, 1) := by decide +kernel
theorem dX3_mostLoaded_16 : decode cX3_mostLoaded 16 = .ok (.aload_n 0, 1) := by decide +kernel
theorem dX3_mostLoaded_17 : decode cX3_mostLoaded 17 = .ok (.getfield 18, 3) := by decide +kernel
theorem dX3_mostLoaded_20 : decode cX3_mostLoaded 20 = .ok (.iload_n 1, 1) := by decide +kernel
theorem dX3_mostLoaded_21 : decode cX3_mostLoaded 21 = .ok (.iaload, 1) := by decide +kernel
theorem dX3_mostLoaded_22 : decode cX3_mostLoaded 22 = .ok (.if_icmp .le 5, 3) := by decide +kernel
theorem dX3_mostLoaded_25 : decode cX3_mostLoaded 25 = .ok (.iload_n 2, 1) := by decide +kernel
theorem dX3_mostLoaded_26 : decode cX3_mostLoaded 26 = .ok (.istore_n 1, 1) := by decide +kernel
theorem dX3_mostLoaded_27 : decode cX3_mostLoaded 27 = .ok (.iinc 2 1, 3) := by decide +kernel
theorem dX3_mostLoaded_30 : decode cX3_mostLoaded 30 = .ok (.goto (-26), 3) := by decide +kernel
theorem dX3_mostLoaded_33 : decode cX3_mostLoaded 33 = .ok (.iload_n 1, 1) := by decide +kernel
theorem dX3_mostLoaded_34 : decode cX3_mostLoaded 34 = .ok (.ireturn, 1) := by decide +kernel
theorem dX3_plainRisk_0 : decode cX3_plainRisk 0 = .ok (.aload_n 0, 1) := by decide +kernel
theorem dX3_plainRisk_1 : decode cX3_plainRisk 1 = .ok (.getfield 43, 3) := by decide +kernel
theorem dX3_plainRisk_4 : decode cX3_plainRisk 4 = .ok (.iconst 0, 1) := by decide +kernel
theorem dX3_plainRisk_5 : decode cX3_plainRisk 5 = .ok (.aload_n 0, 1) := by decide +kernel
theorem dX3_plainRisk_6 : decode cX3_plainRisk 6 = .ok (.getfield 59, 3) := by decide +kernel
theorem dX3_plainRisk_9 : decode cX3_plainRisk 9 = .ok (.invokevirtual 68, 3) := by decide +kernel
theorem dX3_plainRisk_12 : decode cX3_plainRisk 12 = .ok (.istore_n 2, 1) := by decide +kernel
theorem dX3_plainRisk_13 : decode cX3_plainRisk 13 = .ok (.iload_n 2, 1) := by decide +kernel
theorem dX3_plainRisk_14 : decode cX3_plainRisk 14 = .ok (.ldc 73, 2) := by decide +kernel
theorem dX3_plainRisk_16 : decode cX3_plainRisk 16 = .ok (.if_icmp .eq 35, 3) := by decide +kernel
theorem dX3_plainRisk_19 : decode cX3_plainRisk 19 = .ok (.aload_n 0, 1) := by decide +kernel
theorem dX3_plainRisk_20 : decode cX3_plainRisk 20 = .ok (.getfield 43, 3) := by decide +kernel
theorem dX3_plainRisk_23 : decode cX3_plainRisk 23 = .ok (.iload_n 2, 1) := by decide +kernel
theorem dX3_plainRisk_24 : decode cX3_plainRisk 24 = .ok (.aload_n 0, 1) := by decide +kernel
theorem dX3_plainRisk_25 : decode cX3_plainRisk 25 = .ok (.getfield 15, 3) := by decide +kernel
theorem dX3_plainRisk_28 : decode cX3_plainRisk 28 = .ok (.iload_n 1, 1) := by decide +kernel
theorem dX3_plainRisk_29 : decode cX3_plainRisk 29 = .ok (.iaload, 1) := by decide +kernel
theorem dX3_plainRisk_30 : decode cX3_plainRisk 30 = .ok (.aload_n 0, 1) := by decide +kernel
theorem dX3_plainRisk_31 : decode cX3_plainRisk 31 = .ok (.getfield 18, 3) := by decide +kernel
theorem dX3_plainRisk_34 : decode cX3_plainRisk 34 = .ok (.iload_n 1, 1) := by decide +kernel
theorem dX3_plainRisk_35 : decode cX3_plainRisk 35 = .ok (.iaload, 1) := by decide +kernel
theorem dX3_plainRisk_36 : decode cX3_plainRisk 36 = .ok (.aload_n 0, 1) := by decide +kernel
theorem dX3_plainRisk_37 : decode cX3_plainRisk 37 = .ok (.getfield 30, 3) := by decide +kernel
theorem dX3_plainRisk_40 : decode cX3_plainRisk 40 = .ok (.invokevirtual 74, 3) := by decide +kernel
theorem dX3_plainRisk_43 : decode cX3_plainRisk 43 = .ok (.iconst 0, 1) := by decide +kernel
theorem dX3_plainRisk_44 : decode cX3_plainRisk 44 = .ok (.sipush 999, 3) := by decide +kernel
theorem dX3_plainRisk_47 : decode cX3_plainRisk 47 = .ok (.invokestatic 78, 3) := by decide +kernel
theorem dX3_plainRisk_50 : decode cX3_plainRisk 50 = .ok (.ireturn, 1) := by decide +kernel
theorem dX3_plainRisk_51 : decode cX3_plainRisk 51 = .ok (.aload_n 0, 1) := by decide +kernel
theorem dX3_plainRisk_52 : decode cX3_plainRisk 52 = .ok (.getfield 15, 3) := by decide +kernel
theorem dX3_plainRisk_55 : decode cX3_plainRisk 55 = .ok (.iload_n 1, 1) := by decide +kernel
theorem dX3_plainRisk_56 : decode cX3_plainRisk 56 = .ok (.iaload, 1) := by decide +kernel
theorem dX3_plainRisk_57 : decode cX3_plainRisk 57 = .ok (.bipush 30, 2) := by decide +kernel
theorem dX3_plainRisk_59 : decode cX3_plainRisk 59 = .ok (.if_icmp .ge 7, 3) := by decide +kernel
theorem dX3_plainRisk_62 : decode cX3_plainRisk 62 = .ok (.iconst 0, 1) := by decide +kernel
theorem dX3_plainRisk_63 : decode cX3_plainRisk 63 = .ok (.goto 27, 3) := by decide +kernel
theorem dX3_plainRisk_66 : decode cX3_plainRisk 66 = .ok (.aload_n 0, 1) := by decide +kernel
theorem dX3_plainRisk_67 : decode cX3_plainRisk 67 = .ok (.getfield 15, 3) := by decide +kernel
theorem dX3_plainRisk_70 : decode cX3_plainRisk 70 = .ok (.iload_n 1, 1) := by decide +kernel
theorem dX3_plainRisk_71 : decode cX3_plainRisk 71 = .ok (.iaload, 1) := by decide +kernel
theorem dX3_plainRisk_72 : decode cX3_plainRisk 72 = .ok (.bipush 29, 2) := by decide +kernel
theorem dX3_plainRisk_74 : decode cX3_plainRisk 74 = .ok (.isub, 1) := by decide +kernel
theorem dX3_plainRisk_75 : decode cX3_plainRisk 75 = .ok (.aload_n 0, 1) := by decide +kernel
theorem dX3_plainRisk_76 : decode cX3_plainRisk 76 = .ok (.getfield 30, 3) := by decide +kernel
theorem dX3_plainRisk_79 : decode cX3_plainRisk 79 = .ok (.imul, 1) := by decide +kernel
theorem dX3_plainRisk_80 : decode cX3_plainRisk 80 = .ok (.aload_n 0, 1) := by decide +kernel
theorem dX3_plainRisk_81 : decode cX3_plainRisk 81 = .ok (.getfield 18, 3) := by decide +kernel
theorem dX3_plainRisk_84 : decode cX3_plainRisk 84 = .ok (.iload_n 1, 1) := by decide +kernel
theorem dX3_plainRisk_85 : decode cX3_plainRisk 85 = .ok (.iaload, 1) := by decide +kernel
theorem dX3_plainRisk_86 : decode cX3_plainRisk 86 = .ok (.bipush 10, 2) := by decide +kernel
theorem dX3_plainRisk_88 : decode cX3_plainRisk 88 = .ok (.idiv, 1) := by decide +kernel
theorem dX3_plainRisk_89 : decode cX3_plainRisk 89 = .ok (.iadd, 1) := by decide +kernel
theorem dX3_plainRisk_90 : decode cX3_plainRisk 90 = .ok (.ireturn, 1) := by decide +kernel
theorem dX3_riskAbove_0 : decode cX3_riskAbove 0 = .ok (.iconst 0, 1) := by decide +kernel
theorem dX3_riskAbove_1 : decode cX3_riskAbove 1 = .ok (.istore_n 2, 1) := by decide +kernel
theorem dX3_riskAbove_2 : decode cX3_riskAbove 2 = .ok (.iload_n 1, 1) := by decide +kernel
theorem dX3_riskAbove_3 : decode cX3_riskAbove 3 = .ok (.bipush 6, 2) := by decide +kernel
theorem dX3_riskAbove_5 : decode cX3_riskAbove 5 = .ok (.iadd, 1) := by decide +kernel
theorem dX3_riskAbove_6 : decode cX3_riskAbove 6 = .ok (.istore_n 3, 1) := by decide +kernel
theorem dX3_riskAbove_7 : decode cX3_riskAbove 7 = .ok (.iload_n 3, 1) := by decide +kernel
theorem dX3_riskAbove_8 : decode cX3_riskAbove 8 = .ok (.bipush 30, 2) := by decide +kernel
theorem dX3_riskAbove_10 : decode cX3_riskAbove 10 = .ok (.if_icmp .ge 19, 3) := by decide +kernel
theorem dX3_riskAbove_13 : decode cX3_riskAbove 13 = .ok (.iload_n 2, 1) := by decide +kernel
theorem dX3_riskAbove_14 : decode cX3_riskAbove 14 = .ok (.aload_n 0, 1) := by decide +kernel
theorem dX3_riskAbove_15 : decode cX3_riskAbove 15 = .ok (.iload_n 3, 1) := by decide +kernel
theorem dX3_riskAbove_16 : decode cX3_riskAbove 16 = .ok (.invokevirtual 82, 3) := by decide +kernel
theorem dX3_riskAbove_19 : decode cX3_riskAbove 19 = .ok (.invokestatic 62, 3) := by decide +kernel
theorem dX3_riskAbove_22 : decode cX3_riskAbove 22 = .ok (.istore_n 2, 1) := by decide +kernel
theorem dX3_riskAbove_23 : decode cX3_riskAbove 23 = .ok (.iinc 3 6, 3) := by decide +kernel
theorem dX3_riskAbove_26 : decode cX3_riskAbove 26 = .ok (.goto (-19), 3) := by decide +kernel
theorem dX3_riskAbove_29 : decode cX3_riskAbove 29 = .ok (.iload_n 2, 1) := by decide +kernel
theorem dX3_riskAbove_30 : decode cX3_riskAbove 30 = .ok (.ireturn, 1) := by decide +kernel
theorem dX3_risk_0 : decode cX3_risk 0 = .ok (.aload_n 0, 1) := by decide +kernel
theorem dX3_risk_1 : decode cX3_risk 1 = .ok (.getfield 9, 3) := by decide +kernel
theorem dX3_risk_4 : decode cX3_risk 4 = .ok (.iload_n 1, 1) := by decide +kernel
theorem dX3_risk_5 : decode cX3_risk 5 = .ok (.iaload, 1) := by decide +kernel
theorem dX3_risk_6 : decode cX3_risk 6 = .ok (.aload_n 0, 1) := by decide +kernel
theorem dX3_risk_7 : decode cX3_risk 7 = .ok (.iload_n 1, 1) := by decide +kernel
theorem dX3_risk_8 : decode cX3_risk 8 = .ok (.invokevirtual 82, 3) := by decide +kernel
theorem dX3_risk_11 : decode cX3_risk 11 = .ok (.aload_n 0, 1) := by decide +kernel
theorem dX3_risk_12 : decode cX3_risk 12 = .ok (.iload_n 1, 1) := by decide +kernel
theorem dX3_risk_13 : decode cX3_risk 13 = .ok (.invokevirtual 86, 3) := by decide +kernel
theorem dX3_risk_16 : decode cX3_risk 16 = .ok (.aload_n 0, 1) := by decide +kernel
theorem dX3_risk_17 : decode cX3_risk 17 = .ok (.invokevirtual 89, 3) := by decide +kernel
theorem dX3_risk_20 : decode cX3_risk 20 = .ok (.invokestatic 93, 3) := by decide +kernel
theorem dX3_risk_23 : decode cX3_risk 23 = .ok (.ireturn, 1) := by decide +kernel
theorem dX3_weighRisks_0 : decode cX3_weighRisks 0 = .ok (.aload_n 0, 1) := by decide +kernel
theorem dX3_weighRisks_1 : decode cX3_weighRisks 1 = .ok (.invokevirtual 89, 3) := by decide +kernel
theorem dX3_weighRisks_4 : decode cX3_weighRisks 4 = .ok (.istore_n 1, 1) := by decide +kernel
theorem dX3_weighRisks_5 : decode cX3_weighRisks 5 = .ok (.iconst 0, 1) := by decide +kernel
theorem dX3_weighRisks_6 : decode cX3_weighRisks 6 = .ok (.istore_n 2, 1) := by decide +kernel
theorem dX3_weighRisks_7 : decode cX3_weighRisks 7 = .ok (.iload_n 2, 1) := by decide +kernel
theorem dX3_weighRisks_8 : decode cX3_weighRisks 8 = .ok (.bipush 6, 2) := by decide +kernel
theorem dX3_weighRisks_10 : decode cX3_weighRisks 10 = .ok (.if_icmp .ge 70, 3) := by decide +kernel
theorem dX3_weighRisks_13 : decode cX3_weighRisks 13 = .ok (.iconst 0, 1) := by decide +kernel
theorem dX3_weighRisks_14 : decode cX3_weighRisks 14 = .ok (.istore_n 3, 1) := by decide +kernel
theorem dX3_weighRisks_15 : decode cX3_weighRisks 15 = .ok (.iconst 4, 1) := by decide +kernel
theorem dX3_weighRisks_16 : decode cX3_weighRisks 16 = .ok (.istore 4, 2) := by decide +kernel
theorem dX3_weighRisks_18 : decode cX3_weighRisks 18 = .ok (.iload 4, 2) := by decide +kernel
theorem dX3_weighRisks_20 : decode cX3_weighRisks 20 = .ok (.ifCond .lt 54, 3) := by decide +kernel
theorem dX3_weighRisks_23 : decode cX3_weighRisks 23 = .ok (.iload 4, 2) := by decide +kernel
theorem dX3_weighRisks_25 : decode cX3_weighRisks 25 = .ok (.bipush 6, 2) := by decide +kernel
theorem dX3_weighRisks_27 : decode cX3_weighRisks 27 = .ok (.imul, 1) := by decide +kernel
theorem dX3_weighRisks_28 : decode cX3_weighRisks 28 = .ok (.iload_n 2, 1) := by decide +kernel
theorem dX3_weighRisks_29 : decode cX3_weighRisks 29 = .ok (.iadd, 1) := by decide +kernel
theorem dX3_weighRisks_30 : decode cX3_weighRisks 30 = .ok (.istore 5, 2) := by decide +kernel
theorem dX3_weighRisks_32 : decode cX3_weighRisks 32 = .ok (.aload_n 0, 1) := by decide +kernel
theorem dX3_weighRisks_33 : decode cX3_weighRisks 33 = .ok (.iload 5, 2) := by decide +kernel
theorem dX3_weighRisks_35 : decode cX3_weighRisks 35 = .ok (.invokevirtual 82, 3) := by decide +kernel
theorem dX3_weighRisks_38 : decode cX3_weighRisks 38 = .ok (.istore 6, 2) := by decide +kernel
theorem dX3_weighRisks_40 : decode cX3_weighRisks 40 = .ok (.aload_n 0, 1) := by decide +kernel
theorem dX3_weighRisks_41 : decode cX3_weighRisks 41 = .ok (.getfield 24, 3) := by decide +kernel
theorem dX3_weighRisks_44 : decode cX3_weighRisks 44 = .ok (.iload 5, 2) := by decide +kernel
theorem dX3_weighRisks_46 : decode cX3_weighRisks 46 = .ok (.aload_n 0, 1) := by decide +kernel
theorem dX3_weighRisks_47 : decode cX3_weighRisks 47 = .ok (.getfield 9, 3) := by decide +kernel
theorem dX3_weighRisks_50 : decode cX3_weighRisks 50 = .ok (.iload 5, 2) := by decide +kernel
theorem dX3_weighRisks_52 : decode cX3_weighRisks 52 = .ok (.iaload, 1) := by decide +kernel
theorem dX3_weighRisks_53 : decode cX3_weighRisks 53 = .ok (.iload 6, 2) := by decide +kernel
theorem dX3_weighRisks_55 : decode cX3_weighRisks 55 = .ok (.iload_n 3, 1) := by decide +kernel
theorem dX3_weighRisks_56 : decode cX3_weighRisks 56 = .ok (.iload_n 1, 1) := by decide +kernel
theorem dX3_weighRisks_57 : decode cX3_weighRisks 57 = .ok (.invokestatic 93, 3) := by decide +kernel
theorem dX3_weighRisks_60 : decode cX3_weighRisks 60 = .ok (.iastore, 1) := by decide +kernel
theorem dX3_weighRisks_61 : decode cX3_weighRisks 61 = .ok (.iload_n 3, 1) := by decide +kernel
theorem dX3_weighRisks_62 : decode cX3_weighRisks 62 = .ok (.iload 6, 2) := by decide +kernel
theorem dX3_weighRisks_64 : decode cX3_weighRisks 64 = .ok (.invokestatic 62, 3) := by decide +kernel
theorem dX3_weighRisks_67 : decode cX3_weighRisks 67 = .ok (.istore_n 3, 1) := by decide +kernel
theorem dX3_weighRisks_68 : decode cX3_weighRisks 68 = .ok (.iinc 4 (-1), 3) := by decide +kernel
theorem dX3_weighRisks_71 : decode cX3_weighRisks 71 = .ok (.goto (-53), 3) := by decide +kernel
theorem dX3_weighRisks_74 : decode cX3_weighRisks 74 = .ok (.iinc 2 1, 3) := by decide +kernel
theorem dX3_weighRisks_77 : decode cX3_weighRisks 77 = .ok (.goto (-70), 3) := by decide +kernel
theorem dX3_weighRisks_80 : decode cX3_weighRisks 80 = .ok (.return_, 1) := by decide +kernel
theorem dX3_plainHold_0 : decode cX3_plainHold 0 = .ok (.aload_n 0, 1) := by decide +kernel
theorem dX3_plainHold_1 : decode cX3_plainHold 1 = .ok (.getfield 43, 3) := by decide +kernel
theorem dX3_plainHold_4 : decode cX3_plainHold 4 = .ok (.iconst 1, 1) := by decide +kernel
theorem dX3_plainHold_5 : decode cX3_plainHold 5 = .ok (.aload_n 0, 1) := by decide +kernel
theorem dX3_plainHold_6 : decode cX3_plainHold 6 = .ok (.getfield 59, 3) := by decide +kernel
theorem dX3_plainHold_9 : decode cX3_plainHold 9 = .ok (.invokevirtual 68, 3) := by decide +kernel
theorem dX3_plainHold_12 : decode cX3_plainHold 12 = .ok (.istore_n 2, 1) := by decide +kernel
theorem dX3_plainHold_13 : decode cX3_plainHold 13 = .ok (.iload_n 2, 1) := by decide +kernel
theorem dX3_plainHold_14 : decode cX3_plainHold 14 = .ok (.ldc 73, 2) := by decide +kernel
theorem dX3_plainHold_16 : decode cX3_plainHold 16 = .ok (.if_icmp .ne 15, 3) := by decide +kernel
theorem dX3_plainHold_19 : decode cX3_plainHold 19 = .ok (.bipush 70, 2) := by decide +kernel
theorem dX3_plainHold_21 : decode cX3_plainHold 21 = .ok (.aload_n 0, 1) := by decide +kernel
theorem dX3_plainHold_22 : decode cX3_plainHold 22 = .ok (.getfield 15, 3) := by decide +kernel
theorem dX3_plainHold_25 : decode cX3_plainHold 25 = .ok (.iload_n 1, 1) := by decide +kernel
theorem dX3_plainHold_26 : decode cX3_plainHold 26 = .ok (.iaload, 1) := by decide +kernel
theorem dX3_plainHold_27 : decode cX3_plainHold 27 = .ok (.isub, 1) := by decide +kernel
theorem dX3_plainHold_28 : decode cX3_plainHold 28 = .ok (.goto 22, 3) := by decide +kernel
theorem dX3_plainHold_31 : decode cX3_plainHold 31 = .ok (.aload_n 0, 1) := by decide +kernel
theorem dX3_plainHold_32 : decode cX3_plainHold 32 = .ok (.getfield 43, 3) := by decide +kernel
theorem dX3_plainHold_35 : decode cX3_plainHold 35 = .ok (.iload_n 2, 1) := by decide +kernel
theorem dX3_plainHold_36 : decode cX3_plainHold 36 = .ok (.aload_n 0, 1) := by decide +kernel
theorem dX3_plainHold_37 : decode cX3_plainHold 37 = .ok (.getfield 15, 3) := by decide +kernel
theorem dX3_plainHold_40 : decode cX3_plainHold 40 = .ok (.iload_n 1, 1) := by decide +kernel
theorem dX3_plainHold_41 : decode cX3_plainHold 41 = .ok (.iaload, 1) := by decide +kernel
theorem dX3_plainHold_42 : decode cX3_plainHold 42 = .ok (.iload_n 1, 1) := by decide +kernel
theorem dX3_plainHold_43 : decode cX3_plainHold 43 = .ok (.bipush 6, 2) := by decide +kernel
theorem dX3_plainHold_45 : decode cX3_plainHold 45 = .ok (.idiv, 1) := by decide +kernel
theorem dX3_plainHold_46 : decode cX3_plainHold 46 = .ok (.iconst 0, 1) := by decide +kernel
theorem dX3_plainHold_47 : decode cX3_plainHold 47 = .ok (.invokevirtual 74, 3) := by decide +kernel
theorem dX3_plainHold_50 : decode cX3_plainHold 50 = .ok (.istore_n 3, 1) := by decide +kernel
theorem dX3_plainHold_51 : decode cX3_plainHold 51 = .ok (.iload_n 3, 1) := by decide +kernel
theorem dX3_plainHold_52 : decode cX3_plainHold 52 = .ok (.iconst 0, 1) := by decide +kernel
theorem dX3_plainHold_53 : decode cX3_plainHold 53 = .ok (.bipush 99, 2) := by decide +kernel
theorem dX3_plainHold_55 : decode cX3_plainHold 55 = .ok (.invokestatic 78, 3) := by decide +kernel
theorem dX3_plainHold_58 : decode cX3_plainHold 58 = .ok (.ireturn, 1) := by decide +kernel
theorem dX3_stepInto_0 : decode cX3_stepInto 0 = .ok (.iload_n 2, 1) := by decide +kernel
theorem dX3_stepInto_1 : decode cX3_stepInto 1 = .ok (.bipush 6, 2) := by decide +kernel
theorem dX3_stepInto_3 : decode cX3_stepInto 3 = .ok (.idiv, 1) := by decide +kernel
theorem dX3_stepInto_4 : decode cX3_stepInto 4 = .ok (.iload_n 1, 1) := by decide +kernel
theorem dX3_stepInto_5 : decode cX3_stepInto 5 = .ok (.bipush 6, 2) := by decide +kernel
theorem dX3_stepInto_7 : decode cX3_stepInto 7 = .ok (.idiv, 1) := by decide +kernel
theorem dX3_stepInto_8 : decode cX3_stepInto 8 = .ok (.if_icmp .le 7, 3) := by decide +kernel
theorem dX3_stepInto_11 : decode cX3_stepInto 11 = .ok (.iconst 1, 1) := by decide +kernel
theorem dX3_stepInto_12 : decode cX3_stepInto 12 = .ok (.goto 4, 3) := by decide +kernel
theorem dX3_stepInto_15 : decode cX3_stepInto 15 = .ok (.iconst 0, 1) := by decide +kernel
theorem dX3_stepInto_16 : decode cX3_stepInto 16 = .ok (.istore_n 3, 1) := by decide +kernel
theorem dX3_stepInto_17 : decode cX3_stepInto 17 = .ok (.aload_n 0, 1) := by decide +kernel
theorem dX3_stepInto_18 : decode cX3_stepInto 18 = .ok (.getfield 43, 3) := by decide +kernel
theorem dX3_stepInto_21 : decode cX3_stepInto 21 = .ok (.iconst 2, 1) := by decide +kernel
theorem dX3_stepInto_22 : decode cX3_stepInto 22 = .ok (.aload_n 0, 1) := by decide +kernel
theorem dX3_stepInto_23 : decode cX3_stepInto 23 = .ok (.getfield 59, 3) := by decide +kernel
theorem dX3_stepInto_26 : decode cX3_stepInto 26 = .ok (.invokevirtual 68, 3) := by decide +kernel
theorem dX3_stepInto_29 : decode cX3_stepInto 29 = .ok (.istore 4, 2) := by decide +kernel
theorem dX3_stepInto_31 : decode cX3_stepInto 31 = .ok (.iload 4, 2) := by decide +kernel
theorem dX3_stepInto_33 : decode cX3_stepInto 33 = .ok (.ldc 73, 2) := by decide +kernel
theorem dX3_stepInto_35 : decode cX3_stepInto 35 = .ok (.if_icmp .ne 21, 3) := by decide +kernel
theorem dX3_stepInto_38 : decode cX3_stepInto 38 = .ok (.iconst 1, 1) := by decide +kernel
theorem dX3_stepInto_39 : decode cX3_stepInto 39 = .ok (.aload_n 0, 1) := by decide +kernel
theorem dX3_stepInto_40 : decode cX3_stepInto 40 = .ok (.getfield 15, 3) := by decide +kernel
theorem dX3_stepInto_43 : decode cX3_stepInto 43 = .ok (.iload_n 2, 1) := by decide +kernel
theorem dX3_stepInto_44 : decode cX3_stepInto 44 = .ok (.iaload, 1) := by decide +kernel
theorem dX3_stepInto_45 : decode cX3_stepInto 45 = .ok (.bipush 10, 2) := by decide +kernel
theorem dX3_stepInto_47 : decode cX3_stepInto 47 = .ok (.idiv, 1) := by decide +kernel
theorem dX3_stepInto_48 : decode cX3_stepInto 48 = .ok (.iadd, 1) := by decide +kernel
theorem dX3_stepInto_49 : decode cX3_stepInto 49 = .ok (.iconst 2, 1) := by decide +kernel
theorem dX3_stepInto_50 : decode cX3_stepInto 50 = .ok (.iload_n 3, 1) := by decide +kernel
theorem dX3_stepInto_51 : decode cX3_stepInto 51 = .ok (.imul, 1) := by decide +kernel
theorem dX3_stepInto_52 : decode cX3_stepInto 52 = .ok (.iadd, 1) := by decide +kernel
theorem dX3_stepInto_53 : decode cX3_stepInto 53 = .ok (.goto 20, 3) := by decide +kernel
theorem dX3_stepInto_56 : decode cX3_stepInto 56 = .ok (.aload_n 0, 1) := by decide +kernel
theorem dX3_stepInto_57 : decode cX3_stepInto 57 = .ok (.getfield 43, 3) := by decide +kernel
theorem dX3_stepInto_60 : decode cX3_stepInto 60 = .ok (.iload 4, 2) := by decide +kernel
theorem dX3_stepInto_62 : decode cX3_stepInto 62 = .ok (.aload_n 0, 1) := by decide +kernel
theorem dX3_stepInto_63 : decode cX3_stepInto 63 = .ok (.getfield 15, 3) := by decide +kernel
theorem dX3_stepInto_66 : decode cX3_stepInto 66 = .ok (.iload_n 2, 1) := by decide +kernel
theorem dX3_stepInto_67 : decode cX3_stepInto 67 = .ok (.iaload, 1) := by decide +kernel
theorem dX3_stepInto_68 : decode cX3_stepInto 68 = .ok (.iload_n 3, 1) := by decide +kernel
theorem dX3_stepInto_69 : decode cX3_stepInto 69 = .ok (.iconst 0, 1) := by decide +kernel
theorem dX3_stepInto_70 : decode cX3_stepInto 70 = .ok (.invokevirtual 74, 3) := by decide +kernel
theorem dX3_stepInto_73 : decode cX3_stepInto 73 = .ok (.istore 5, 2) := by decide +kernel
theorem dX3_stepInto_75 : decode cX3_stepInto 75 = .ok (.iload 5, 2) := by decide +kernel
theorem dX3_stepInto_77 : decode cX3_stepInto 77 = .ok (.iconst 0, 1) := by decide +kernel
theorem dX3_stepInto_78 : decode cX3_stepInto 78 = .ok (.bipush 99, 2) := by decide +kernel
theorem dX3_stepInto_80 : decode cX3_stepInto 80 = .ok (.invokestatic 78, 3) := by decide +kernel
theorem dX3_stepInto_83 : decode cX3_stepInto 83 = .ok (.ireturn, 1) := by decide +kernel
theorem dX3_draw_0 : decode cX3_draw 0 = .ok (.aload_n 0, 1) := by decide +kernel
theorem dX3_draw_1 : decode cX3_draw 1 = .ok (.aload_n 0, 1) := by decide +kernel
theorem dX3_draw_2 : decode cX3_draw 2 = .ok (.getfield 40, 3) := by decide +kernel
theorem dX3_draw_5 : decode cX3_draw 5 = .ok (.ldc 98, 2) := by decide +kernel
theorem dX3_draw_7 : decode cX3_draw 7 = .ok (.imul, 1) := by decide +kernel
theorem dX3_draw_8 : decode cX3_draw 8 = .ok (.sipush 12345, 3) := by decide +kernel
theorem dX3_draw_11 : decode cX3_draw 11 = .ok (.iadd, 1) := by decide +kernel
theorem dX3_draw_12 : decode cX3_draw 12 = .ok (.putfield 40, 3) := by decide +kernel
theorem dX3_draw_15 : decode cX3_draw 15 = .ok (.aload_n 0, 1) := by decide +kernel
theorem dX3_draw_16 : decode cX3_draw 16 = .ok (.getfield 40, 3) := by decide +kernel
theorem dX3_draw_19 : decode cX3_draw 19 = .ok (.bipush 8, 2) := by decide +kernel
theorem dX3_draw_21 : decode cX3_draw 21 = .ok (.iushr, 1) := by decide +kernel
theorem dX3_draw_22 : decode cX3_draw 22 = .ok (.ireturn, 1) := by decide +kernel
theorem dX3_drawByLot_0 : decode cX3_drawByLot 0 = .ok (.iconst 0, 1) := by decide +kernel
theorem dX3_drawByLot_1 : decode cX3_drawByLot 1 = .ok (.istore_n 1, 1) := by decide +kernel
theorem dX3_drawByLot_2 : decode cX3_drawByLot 2 = .ok (.iload_n 1, 1) := by decide +kernel
theorem dX3_drawByLot_3 : decode cX3_drawByLot 3 = .ok (.bipush 30, 2) := by decide +kernel
theorem dX3_drawByLot_5 : decode cX3_drawByLot 5 = .ok (.if_icmp .ge 48, 3) := by decide +kernel
theorem dX3_drawByLot_8 : decode cX3_drawByLot 8 = .ok (.aload_n 0, 1) := by decide +kernel
theorem dX3_drawByLot_9 : decode cX3_drawByLot 9 = .ok (.getfield 9, 3) := by decide +kernel
theorem dX3_drawByLot_12 : decode cX3_drawByLot 12 = .ok (.iload_n 1, 1) := by decide +kernel
theorem dX3_drawByLot_13 : decode cX3_drawByLot 13 = .ok (.aload_n 0, 1) := by decide +kernel
theorem dX3_drawByLot_14 : decode cX3_drawByLot 14 = .ok (.invokevirtual 99, 3) := by decide +kernel
theorem dX3_drawByLot_17 : decode cX3_drawByLot 17 = .ok (.bipush 6, 2) := by decide +kernel
theorem dX3_drawByLot_19 : decode cX3_drawByLot 19 = .ok (.irem, 1) := by decide +kernel
theorem dX3_drawByLot_20 : decode cX3_drawByLot 20 = .ok (.iastore, 1) := by decide +kernel
theorem dX3_drawByLot_21 : decode cX3_drawByLot 21 = .ok (.aload_n 0, 1) := by decide +kernel
theorem dX3_drawByLot_22 : decode cX3_drawByLot 22 = .ok (.getfield 15, 3) := by decide +kernel
theorem dX3_drawByLot_25 : decode cX3_drawByLot 25 = .ok (.iload_n 1, 1) := by decide +kernel
theorem dX3_drawByLot_26 : decode cX3_drawByLot 26 = .ok (.aload_n 0, 1) := by decide +kernel
theorem dX3_drawByLot_27 : decode cX3_drawByLot 27 = .ok (.invokevirtual 99, 3) := by decide +kernel
theorem dX3_drawByLot_30 : decode cX3_drawByLot 30 = .ok (.bipush 50, 2) := by decide +kernel
theorem dX3_drawByLot_32 : decode cX3_drawByLot 32 = .ok (.irem, 1) := by decide +kernel
theorem dX3_drawByLot_33 : decode cX3_drawByLot 33 = .ok (.iastore, 1) := by decide +kernel
theorem dX3_drawByLot_34 : decode cX3_drawByLot 34 = .ok (.aload_n 0, 1) := by decide +kernel
theorem dX3_drawByLot_35 : decode cX3_drawByLot 35 = .ok (.getfield 18, 3) := by decide +kernel
theorem dX3_drawByLot_38 : decode cX3_drawByLot 38 = .ok (.iload_n 1, 1) := by decide +kernel
theorem dX3_drawByLot_39 : decode cX3_drawByLot 39 = .ok (.aload_n 0, 1) := by decide +kernel
theorem dX3_drawByLot_40 : decode cX3_drawByLot 40 = .ok (.invokevirtual 99, 3) := by decide +kernel
theorem dX3_drawByLot_43 : decode cX3_drawByLot 43 = .ok (.bipush 40, 2) := by decide +kernel
theorem dX3_drawByLot_45 : decode cX3_drawByLot 45 = .ok (.irem, 1) := by decide +kernel
theorem dX3_drawByLot_46 : decode cX3_drawByLot 46 = .ok (.iastore, 1) := by decide +kernel
theorem dX3_drawByLot_47 : decode cX3_drawByLot 47 = .ok (.iinc 1 1, 3) := by decide +kernel
theorem dX3_drawByLot_50 : decode cX3_drawByLot 50 = .ok (.goto (-48), 3) := by decide +kernel
theorem dX3_drawByLot_53 : decode cX3_drawByLot 53 = .ok (.return_, 1) := by decide +kernel
theorem dX3_tickOften_0 : decode cX3_tickOften 0 = .ok (.aload_n 0, 1) := by decide +kernel
theorem dX3_tickOften_1 : decode cX3_tickOften 1 = .ok (.invokevirtual 102, 3) := by decide +kernel
theorem dX3_tickOften_4 : decode cX3_tickOften 4 = .ok (.iconst 0, 1) := by decide +kernel
theorem dX3_tickOften_5 : decode cX3_tickOften 5 = .ok (.istore_n 2, 1) := by decide +kernel
theorem dX3_tickOften_6 : decode cX3_tickOften 6 = .ok (.iconst 0, 1) := by decide +kernel
theorem dX3_tickOften_7 : decode cX3_tickOften 7 = .ok (.istore_n 3, 1) := by decide +kernel
theorem dX3_tickOften_8 : decode cX3_tickOften 8 = .ok (.iload_n 3, 1) := by decide +kernel
theorem dX3_tickOften_9 : decode cX3_tickOften 9 = .ok (.iload_n 1, 1) := by decide +kernel
theorem dX3_tickOften_10 : decode cX3_tickOften 10 = .ok (.if_icmp .ge 16, 3) := by decide +kernel
theorem dX3_tickOften_13 : decode cX3_tickOften 13 = .ok (.iload_n 2, 1) := by decide +kernel
theorem dX3_tickOften_14 : decode cX3_tickOften 14 = .ok (.aload_n 0, 1) := by decide +kernel
theorem dX3_tickOften_15 : decode cX3_tickOften 15 = .ok (.invokevirtual 105, 3) := by decide +kernel
theorem dX3_tickOften_18 : decode cX3_tickOften 18 = .ok (.iadd, 1) := by decide +kernel
theorem dX3_tickOften_19 : decode cX3_tickOften 19 = .ok (.istore_n 2, 1) := by decide +kernel
theorem dX3_tickOften_20 : decode cX3_tickOften 20 = .ok (.iinc 3 1, 3) := by decide +kernel
theorem dX3_tickOften_23 : decode cX3_tickOften 23 = .ok (.goto (-15), 3) := by decide +kernel
theorem dX3_tickOften_26 : decode cX3_tickOften 26 = .ok (.iload_n 2, 1) := by decide +kernel
theorem dX3_tickOften_27 : decode cX3_tickOften 27 = .ok (.ireturn, 1) := by decide +kernel
theorem dX3_brace_0 : decode cX3_brace 0 = .ok (.iconst 0, 1) := by decide +kernel
theorem dX3_brace_1 : decode cX3_brace 1 = .ok (.istore_n 1, 1) := by decide +kernel
theorem dX3_brace_2 : decode cX3_brace 2 = .ok (.iload_n 1, 1) := by decide +kernel
theorem dX3_brace_3 : decode cX3_brace 3 = .ok (.bipush 30, 2) := by decide +kernel
theorem dX3_brace_5 : decode cX3_brace 5 = .ok (.if_icmp .ge 20, 3) := by decide +kernel
theorem dX3_brace_8 : decode cX3_brace 8 = .ok (.aload_n 0, 1) := by decide +kernel
theorem dX3_brace_9 : decode cX3_brace 9 = .ok (.getfield 27, 3) := by decide +kernel
theorem dX3_brace_12 : decode cX3_brace 12 = .ok (.iload_n 1, 1) := by decide +kernel
theorem dX3_brace_13 : decode cX3_brace 13 = .ok (.aload_n 0, 1) := by decide +kernel
theorem dX3_brace_14 : decode cX3_brace 14 = .ok (.iload_n 1, 1) := by decide +kernel
theorem dX3_brace_15 : decode cX3_brace 15 = .ok (.invokevirtual 108, 3) := by decide +kernel
theorem dX3_brace_18 : decode cX3_brace 18 = .ok (.iastore, 1) := by decide +kernel
theorem dX3_brace_19 : decode cX3_brace 19 = .ok (.iinc 1 1, 3) := by decide +kernel
theorem dX3_brace_22 : decode cX3_brace 22 = .ok (.goto (-20), 3) := by decide +kernel
theorem dX3_brace_25 : decode cX3_brace 25 = .ok (.return_, 1) := by decide +kernel
theorem dX3_tick_0 : decode cX3_tick 0 = .ok (.aload_n 0, 1) := by decide +kernel
theorem dX3_tick_1 : decode cX3_tick 1 = .ok (.invokevirtual 111, 3) := by decide +kernel
theorem dX3_tick_4 : decode cX3_tick 4 = .ok (.aload_n 0, 1) := by decide +kernel
theorem dX3_tick_5 : decode cX3_tick 5 = .ok (.invokevirtual 114, 3) := by decide +kernel
theorem dX3_tick_8 : decode cX3_tick 8 = .ok (.aload_n 0, 1) := by decide +kernel
theorem dX3_tick_9 : decode cX3_tick 9 = .ok (.invokevirtual 117, 3) := by decide +kernel
theorem dX3_tick_12 : decode cX3_tick 12 = .ok (.istore_n 1, 1) := by decide +kernel
theorem dX3_tick_13 : decode cX3_tick 13 = .ok (.aload_n 0, 1) := by decide +kernel
theorem dX3_tick_14 : decode cX3_tick 14 = .ok (.dup, 1) := by decide +kernel
theorem dX3_tick_15 : decode cX3_tick 15 = .ok (.getfield 56, 3) := by decide +kernel
theorem dX3_tick_18 : decode cX3_tick 18 = .ok (.iload_n 1, 1) := by decide +kernel
theorem dX3_tick_19 : decode cX3_tick 19 = .ok (.iadd, 1) := by decide +kernel
theorem dX3_tick_20 : decode cX3_tick 20 = .ok (.putfield 56, 3) := by decide +kernel
theorem dX3_tick_23 : decode cX3_tick 23 = .ok (.aload_n 0, 1) := by decide +kernel
theorem dX3_tick_24 : decode cX3_tick 24 = .ok (.aload_n 0, 1) := by decide +kernel
theorem dX3_tick_25 : decode cX3_tick 25 = .ok (.getfield 34, 3) := by decide +kernel
theorem dX3_tick_28 : decode cX3_tick 28 = .ok (.bipush 23, 2) := by decide +kernel
theorem dX3_tick_30 : decode cX3_tick 30 = .ok (.if_icmp .lt 7, 3) := by decide +kernel
theorem dX3_tick_33 : decode cX3_tick 33 = .ok (.iconst 0, 1) := by decide +kernel
theorem dX3_tick_34 : decode cX3_tick 34 = .ok (.goto 9, 3) := by decide +kernel
theorem dX3_tick_37 : decode cX3_tick 37 = .ok (.aload_n 0, 1) := by decide +kernel
theorem dX3_tick_38 : decode cX3_tick 38 = .ok (.getfield 34, 3) := by decide +kernel
theorem dX3_tick_41 : decode cX3_tick 41 = .ok (.iconst 1, 1) := by decide +kernel
theorem dX3_tick_42 : decode cX3_tick 42 = .ok (.iadd, 1) := by decide +kernel
theorem dX3_tick_43 : decode cX3_tick 43 = .ok (.putfield 34, 3) := by decide +kernel
theorem dX3_tick_46 : decode cX3_tick 46 = .ok (.iload_n 1, 1) := by decide +kernel
theorem dX3_tick_47 : decode cX3_tick 47 = .ok (.ireturn, 1) := by decide +kernel
theorem dX3_snow_0 : decode cX3_snow 0 = .ok (.aload_n 0, 1) := by decide +kernel
theorem dX3_snow_1 : decode cX3_snow 1 = .ok (.getfield 37, 3) := by decide +kernel
theorem dX3_snow_4 : decode cX3_snow 4 = .ok (.aload_n 0, 1) := by decide +kernel
theorem dX3_snow_5 : decode cX3_snow 5 = .ok (.invokevirtual 99, 3) := by decide +kernel
theorem dX3_snow_8 : decode cX3_snow 8 = .ok (.iconst 3, 1) := by decide +kernel
theorem dX3_snow_9 : decode cX3_snow 9 = .ok (.irem, 1) := by decide +kernel
theorem dX3_snow_10 : decode cX3_snow 10 = .ok (.iadd, 1) := by decide +kernel
theorem dX3_snow_11 : decode cX3_snow 11 = .ok (.istore_n 1, 1) := by decide +kernel
theorem dX3_snow_12 : decode cX3_snow 12 = .ok (.iconst 0, 1) := by decide +kernel
theorem dX3_snow_13 : decode cX3_snow 13 = .ok (.istore_n 2, 1) := by decide +kernel
theorem dX3_snow_14 : decode cX3_snow 14 = .ok (.iload_n 2, 1) := by decide +kernel
theorem dX3_snow_15 : decode cX3_snow 15 = .ok (.bipush 30, 2) := by decide +kernel
theorem dX3_snow_17 : decode cX3_snow 17 = .ok (.if_icmp .ge 15, 3) := by decide +kernel
theorem dX3_snow_20 : decode cX3_snow 20 = .ok (.aload_n 0, 1) := by decide +kernel
theorem dX3_snow_21 : decode cX3_snow 21 = .ok (.iload_n 2, 1) := by decide +kernel
theorem dX3_snow_22 : decode cX3_snow 22 = .ok (.iload_n 1, 1) := by decide +kernel
theorem dX3_snow_23 : decode cX3_snow 23 = .ok (.invokevirtual 120, 3) := by decide +kernel
theorem dX3_snow_26 : decode cX3_snow 26 = .ok (.iinc 2 1, 3) := by decide +kernel
theorem dX3_snow_29 : decode cX3_snow 29 = .ok (.goto (-15), 3) := by decide +kernel
theorem dX3_snow_32 : decode cX3_snow 32 = .ok (.return_, 1) := by decide +kernel
theorem dX3_addLoad_0 : decode cX3_addLoad 0 = .ok (.aload_n 0, 1) := by decide +kernel
theorem dX3_addLoad_1 : decode cX3_addLoad 1 = .ok (.getfield 18, 3) := by decide +kernel
theorem dX3_addLoad_4 : decode cX3_addLoad 4 = .ok (.iload_n 1, 1) := by decide +kernel
theorem dX3_addLoad_5 : decode cX3_addLoad 5 = .ok (.aload_n 0, 1) := by decide +kernel
theorem dX3_addLoad_6 : decode cX3_addLoad 6 = .ok (.getfield 18, 3) := by decide +kernel
theorem dX3_addLoad_9 : decode cX3_addLoad 9 = .ok (.iload_n 1, 1) := by decide +kernel
theorem dX3_addLoad_10 : decode cX3_addLoad 10 = .ok (.iaload, 1) := by decide +kernel
theorem dX3_addLoad_11 : decode cX3_addLoad 11 = .ok (.iload_n 2, 1) := by decide +kernel
theorem dX3_addLoad_12 : decode cX3_addLoad 12 = .ok (.iadd, 1) := by decide +kernel
theorem dX3_addLoad_13 : decode cX3_addLoad 13 = .ok (.sipush 999, 3) := by decide +kernel
theorem dX3_addLoad_16 : decode cX3_addLoad 16 = .ok (.invokestatic 124, 3) := by decide +kernel
theorem dX3_addLoad_19 : decode cX3_addLoad 19 = .ok (.iastore, 1) := by decide +kernel
theorem dX3_addLoad_20 : decode cX3_addLoad 20 = .ok (.return_, 1) := by decide +kernel
theorem dX3_drift_0 : decode cX3_drift 0 = .ok (.bipush 29, 2) := by decide +kernel
theorem dX3_drift_2 : decode cX3_drift 2 = .ok (.istore_n 1, 1) := by decide +kernel
theorem dX3_drift_3 : decode cX3_drift 3 = .ok (.iload_n 1, 1) := by decide +kernel
theorem dX3_drift_4 : decode cX3_drift 4 = .ok (.ifCond .lt 71, 3) := by decide +kernel
theorem dX3_drift_7 : decode cX3_drift 7 = .ok (.aload_n 0, 1) := by decide +kernel
theorem dX3_drift_8 : decode cX3_drift 8 = .ok (.getfield 9, 3) := by decide +kernel
theorem dX3_drift_11 : decode cX3_drift 11 = .ok (.iload_n 1, 1) := by decide +kernel
theorem dX3_drift_12 : decode cX3_drift 12 = .ok (.iaload, 1) := by decide +kernel
theorem dX3_drift_13 : decode cX3_drift 13 = .ok (.iconst 5, 1) := by decide +kernel
theorem dX3_drift_14 : decode cX3_drift 14 = .ok (.if_icmp .eq 55, 3) := by decide +kernel
theorem dX3_drift_17 : decode cX3_drift 17 = .ok (.aload_n 0, 1) := by decide +kernel
theorem dX3_drift_18 : decode cX3_drift 18 = .ok (.getfield 18, 3) := by decide +kernel
theorem dX3_drift_21 : decode cX3_drift 21 = .ok (.iload_n 1, 1) := by decide +kernel
theorem dX3_drift_22 : decode cX3_drift 22 = .ok (.iaload, 1) := by decide +kernel
theorem dX3_drift_23 : decode cX3_drift 23 = .ok (.bipush 20, 2) := by decide +kernel
theorem dX3_drift_25 : decode cX3_drift 25 = .ok (.if_icmp .le 44, 3) := by decide +kernel
theorem dX3_drift_28 : decode cX3_drift 28 = .ok (.aload_n 0, 1) := by decide +kernel
theorem dX3_drift_29 : decode cX3_drift 29 = .ok (.getfield 18, 3) := by decide +kernel
theorem dX3_drift_32 : decode cX3_drift 32 = .ok (.iload_n 1, 1) := by decide +kernel
theorem dX3_drift_33 : decode cX3_drift 33 = .ok (.iaload, 1) := by decide +kernel
theorem dX3_drift_34 : decode cX3_drift 34 = .ok (.bipush 20, 2) := by decide +kernel
theorem dX3_drift_36 : decode cX3_drift 36 = .ok (.isub, 1) := by decide +kernel
theorem dX3_drift_37 : decode cX3_drift 37 = .ok (.bipush 10, 2) := by decide +kernel
theorem dX3_drift_39 : decode cX3_drift 39 = .ok (.idiv, 1) := by decide +kernel
theorem dX3_drift_40 : decode cX3_drift 40 = .ok (.istore_n 2, 1) := by decide +kernel
theorem dX3_drift_41 : decode cX3_drift 41 = .ok (.aload_n 0, 1) := by decide +kernel
theorem dX3_drift_42 : decode cX3_drift 42 = .ok (.getfield 18, 3) := by decide +kernel
theorem dX3_drift_45 : decode cX3_drift 45 = .ok (.iload_n 1, 1) := by decide +kernel
theorem dX3_drift_46 : decode cX3_drift 46 = .ok (.dup2, 1) := by decide +kernel
theorem dX3_drift_47 : decode cX3_drift 47 = .ok (.iaload, 1) := by decide +kernel
theorem dX3_drift_48 : decode cX3_drift 48 = .ok (.iload_n 2, 1) := by decide +kernel
theorem dX3_drift_49 : decode cX3_drift 49 = .ok (.isub, 1) := by decide +kernel
theorem dX3_drift_50 : decode cX3_drift 50 = .ok (.iastore, 1) := by decide +kernel
theorem dX3_drift_51 : decode cX3_drift 51 = .ok (.iload_n 1, 1) := by decide +kernel
theorem dX3_drift_52 : decode cX3_drift 52 = .ok (.iconst 1, 1) := by decide +kernel
theorem dX3_drift_53 : decode cX3_drift 53 = .ok (.invokestatic 127, 3) := by decide +kernel
theorem dX3_drift_56 : decode cX3_drift 56 = .ok (.istore_n 3, 1) := by decide +kernel
theorem dX3_drift_57 : decode cX3_drift 57 = .ok (.iload_n 3, 1) := by decide +kernel
theorem dX3_drift_58 : decode cX3_drift 58 = .ok (.ldc 73, 2) := by decide +kernel
theorem dX3_drift_60 : decode cX3_drift 60 = .ok (.if_icmp .eq 9, 3) := by decide +kernel
theorem dX3_drift_63 : decode cX3_drift 63 = .ok (.aload_n 0, 1) := by decide +kernel
theorem dX3_drift_64 : decode cX3_drift 64 = .ok (.iload_n 3, 1) := by decide +kernel
theorem dX3_drift_65 : decode cX3_drift 65 = .ok (.iload_n 2, 1) := by decide +kernel
theorem dX3_drift_66 : decode cX3_drift 66 = .ok (.invokevirtual 120, 3) := by decide +kernel
theorem dX3_drift_69 : decode cX3_drift 69 = .ok (.iinc 1 (-1), 3) := by decide +kernel
theorem dX3_drift_72 : decode cX3_drift 72 = .ok (.goto (-69), 3) := by decide +kernel
theorem dX3_drift_75 : decode cX3_drift 75 = .ok (.return_, 1) := by decide +kernel
theorem dX3_slide_0 : decode cX3_slide 0 = .ok (.iconst 0, 1) := by decide +kernel
theorem dX3_slide_1 : decode cX3_slide 1 = .ok (.istore_n 1, 1) := by decide +kernel
theorem dX3_slide_2 : decode cX3_slide 2 = .ok (.aload_n 0, 1) := by decide +kernel
theorem dX3_slide_3 : decode cX3_slide 3 = .ok (.invokevirtual 89, 3) := by decide +kernel
theorem dX3_slide_6 : decode cX3_slide 6 = .ok (.istore_n 2, 1) := by decide +kernel
theorem dX3_slide_7 : decode cX3_slide 7 = .ok (.iconst 4, 1) := by decide +kernel
theorem dX3_slide_8 : decode cX3_slide 8 = .ok (.istore_n 3, 1) := by decide +kernel
theorem dX3_slide_9 : decode cX3_slide 9 = .ok (.iload_n 3, 1) := by decide +kernel
theorem dX3_slide_10 : decode cX3_slide 10 = .ok (.ifCond .lt 109, 3) := by decide +kernel
theorem dX3_slide_13 : decode cX3_slide 13 = .ok (.iconst 0, 1) := by decide +kernel
theorem dX3_slide_14 : decode cX3_slide 14 = .ok (.istore 4, 2) := by decide +kernel
theorem dX3_slide_16 : decode cX3_slide 16 = .ok (.iload 4, 2) := by decide +kernel
theorem dX3_slide_18 : decode cX3_slide 18 = .ok (.bipush 6, 2) := by decide +kernel
theorem dX3_slide_20 : decode cX3_slide 20 = .ok (.if_icmp .ge 93, 3) := by decide +kernel
theorem dX3_slide_23 : decode cX3_slide 23 = .ok (.iload_n 3, 1) := by decide +kernel
theorem dX3_slide_24 : decode cX3_slide 24 = .ok (.bipush 6, 2) := by decide +kernel
theorem dX3_slide_26 : decode cX3_slide 26 = .ok (.imul, 1) := by decide +kernel
theorem dX3_slide_27 : decode cX3_slide 27 = .ok (.iload 4, 2) := by decide +kernel
theorem dX3_slide_29 : decode cX3_slide 29 = .ok (.iadd, 1) := by decide +kernel
theorem dX3_slide_30 : decode cX3_slide 30 = .ok (.istore 5, 2) := by decide +kernel
theorem dX3_slide_32 : decode cX3_slide 32 = .ok (.aload_n 0, 1) := by decide +kernel
theorem dX3_slide_33 : decode cX3_slide 33 = .ok (.getfield 15, 3) := by decide +kernel
theorem dX3_slide_36 : decode cX3_slide 36 = .ok (.iload 5, 2) := by decide +kernel
theorem dX3_slide_38 : decode cX3_slide 38 = .ok (.iaload, 1) := by decide +kernel
theorem dX3_slide_39 : decode cX3_slide 39 = .ok (.bipush 30, 2) := by decide +kernel
theorem dX3_slide_41 : decode cX3_slide 41 = .ok (.if_icmp .lt 66, 3) := by decide +kernel
theorem dX3_slide_44 : decode cX3_slide 44 = .ok (.aload_n 0, 1) := by decide +kernel
theorem dX3_slide_45 : decode cX3_slide 45 = .ok (.getfield 18, 3) := by decide +kernel
theorem dX3_slide_48 : decode cX3_slide 48 = .ok (.iload 5, 2) := by decide +kernel
theorem dX3_slide_50 : decode cX3_slide 50 = .ok (.iaload, 1) := by decide +kernel
theorem dX3_slide_51 : decode cX3_slide 51 = .ok (.aload_n 0, 1) := by decide +kernel
theorem dX3_slide_52 : decode cX3_slide 52 = .ok (.getfield 9, 3) := by decide +kernel
theorem dX3_slide_55 : decode cX3_slide 55 = .ok (.iload 5, 2) := by decide +kernel
theorem dX3_slide_57 : decode cX3_slide 57 = .ok (.iaload, 1) := by decide +kernel
theorem dX3_slide_58 : decode cX3_slide 58 = .ok (.aload_n 0, 1) := by decide +kernel
theorem dX3_slide_59 : decode cX3_slide 59 = .ok (.getfield 27, 3) := by decide +kernel
theorem dX3_slide_62 : decode cX3_slide 62 = .ok (.iload 5, 2) := by decide +kernel
theorem dX3_slide_64 : decode cX3_slide 64 = .ok (.iaload, 1) := by decide +kernel
theorem dX3_slide_65 : decode cX3_slide 65 = .ok (.iload_n 2, 1) := by decide +kernel
theorem dX3_slide_66 : decode cX3_slide 66 = .ok (.invokestatic 130, 3) := by decide +kernel
theorem dX3_slide_69 : decode cX3_slide 69 = .ok (.if_icmp .le 38, 3) := by decide +kernel
theorem dX3_slide_72 : decode cX3_slide 72 = .ok (.iinc 1 1, 3) := by decide +kernel
theorem dX3_slide_75 : decode cX3_slide 75 = .ok (.iload_n 3, 1) := by decide +kernel
theorem dX3_slide_76 : decode cX3_slide 76 = .ok (.ifCond .le 23, 3) := by decide +kernel
theorem dX3_slide_79 : decode cX3_slide 79 = .ok (.aload_n 0, 1) := by decide +kernel
theorem dX3_slide_80 : decode cX3_slide 80 = .ok (.getfield 18, 3) := by decide +kernel
theorem dX3_slide_83 : decode cX3_slide 83 = .ok (.iload 5, 2) := by decide +kernel
theorem dX3_slide_85 : decode cX3_slide 85 = .ok (.bipush 6, 2) := by decide +kernel
theorem dX3_slide_87 : decode cX3_slide 87 = .ok (.isub, 1) := by decide +kernel
theorem dX3_slide_88 : decode cX3_slide 88 = .ok (.dup2, 1) := by decide +kernel
theorem dX3_slide_89 : decode cX3_slide 89 = .ok (.iaload, 1) := by decide +kernel
theorem dX3_slide_90 : decode cX3_slide 90 = .ok (.aload_n 0, 1) := by decide +kernel
theorem dX3_slide_91 : decode cX3_slide 91 = .ok (.getfield 18, 3) := by decide +kernel
theorem dX3_slide_94 : decode cX3_slide 94 = .ok (.iload 5, 2) := by decide +kernel
theorem dX3_slide_96 : decode cX3_slide 96 = .ok (.iaload, 1) := by decide +kernel
theorem dX3_slide_97 : decode cX3_slide 97 = .ok (.iadd, 1) := by decide +kernel
theorem dX3_slide_98 : decode cX3_slide 98 = .ok (.iastore, 1) := by decide +kernel
theorem dX3_slide_99 : decode cX3_slide 99 = .ok (.aload_n 0, 1) := by decide +kernel
theorem dX3_slide_100 : decode cX3_slide 100 = .ok (.getfield 18, 3) := by decide +kernel
theorem dX3_slide_103 : decode cX3_slide 103 = .ok (.iload 5, 2) := by decide +kernel
theorem dX3_slide_105 : decode cX3_slide 105 = .ok (.iconst 0, 1) := by decide +kernel
theorem dX3_slide_106 : decode cX3_slide 106 = .ok (.iastore, 1) := by decide +kernel
theorem dX3_slide_107 : decode cX3_slide 107 = .ok (.iinc 4 1, 3) := by decide +kernel
theorem dX3_slide_110 : decode cX3_slide 110 = .ok (.goto (-94), 3) := by decide +kernel
theorem dX3_slide_113 : decode cX3_slide 113 = .ok (.iinc 3 (-1), 3) := by decide +kernel
theorem dX3_slide_116 : decode cX3_slide 116 = .ok (.goto (-107), 3) := by decide +kernel
theorem dX3_slide_119 : decode cX3_slide 119 = .ok (.iconst 0, 1) := by decide +kernel
theorem dX3_slide_120 : decode cX3_slide 120 = .ok (.istore_n 3, 1) := by decide +kernel
theorem dX3_slide_121 : decode cX3_slide 121 = .ok (.iload_n 3, 1) := by decide +kernel
theorem dX3_slide_122 : decode cX3_slide 122 = .ok (.bipush 30, 2) := by decide +kernel
theorem dX3_slide_124 : decode cX3_slide 124 = .ok (.if_icmp .ge 15, 3) := by decide +kernel
theorem dX3_slide_127 : decode cX3_slide 127 = .ok (.aload_n 0, 1) := by decide +kernel
theorem dX3_slide_128 : decode cX3_slide 128 = .ok (.iload_n 3, 1) := by decide +kernel
theorem dX3_slide_129 : decode cX3_slide 129 = .ok (.iconst 0, 1) := by decide +kernel
theorem dX3_slide_130 : decode cX3_slide 130 = .ok (.invokevirtual 120, 3) := by decide +kernel
theorem dX3_slide_133 : decode cX3_slide 133 = .ok (.iinc 3 1, 3) := by decide +kernel
theorem dX3_slide_136 : decode cX3_slide 136 = .ok (.goto (-15), 3) := by decide +kernel
theorem dX3_slide_139 : decode cX3_slide 139 = .ok (.iload_n 1, 1) := by decide +kernel
theorem dX3_slide_140 : decode cX3_slide 140 = .ok (.ireturn, 1) := by decide +kernel
theorem dX3_trackRisk_0 : decode cX3_trackRisk 0 = .ok (.aload_n 0, 1) := by decide +kernel
theorem dX3_trackRisk_1 : decode cX3_trackRisk 1 = .ok (.invokevirtual 133, 3) := by decide +kernel
theorem dX3_trackRisk_4 : decode cX3_trackRisk 4 = .ok (.iconst 0, 1) := by decide +kernel
theorem dX3_trackRisk_5 : decode cX3_trackRisk 5 = .ok (.istore_n 1, 1) := by decide +kernel
theorem dX3_trackRisk_6 : decode cX3_trackRisk 6 = .ok (.iconst 1, 1) := by decide +kernel
theorem dX3_trackRisk_7 : decode cX3_trackRisk 7 = .ok (.istore_n 2, 1) := by decide +kernel
theorem dX3_trackRisk_8 : decode cX3_trackRisk 8 = .ok (.iload_n 2, 1) := by decide +kernel
theorem dX3_trackRisk_9 : decode cX3_trackRisk 9 = .ok (.aload_n 0, 1) := by decide +kernel
theorem dX3_trackRisk_10 : decode cX3_trackRisk 10 = .ok (.getfield 53, 3) := by decide +kernel
theorem dX3_trackRisk_13 : decode cX3_trackRisk 13 = .ok (.if_icmp .ge 23, 3) := by decide +kernel
theorem dX3_trackRisk_16 : decode cX3_trackRisk 16 = .ok (.iload_n 1, 1) := by decide +kernel
theorem dX3_trackRisk_17 : decode cX3_trackRisk 17 = .ok (.aload_n 0, 1) := by decide +kernel
theorem dX3_trackRisk_18 : decode cX3_trackRisk 18 = .ok (.getfield 24, 3) := by decide +kernel
theorem dX3_trackRisk_21 : decode cX3_trackRisk 21 = .ok (.aload_n 0, 1) := by decide +kernel
theorem dX3_trackRisk_22 : decode cX3_trackRisk 22 = .ok (.getfield 21, 3) := by decide +kernel
theorem dX3_trackRisk_25 : decode cX3_trackRisk 25 = .ok (.iload_n 2, 1) := by decide +kernel
theorem dX3_trackRisk_26 : decode cX3_trackRisk 26 = .ok (.iaload, 1) := by decide +kernel
theorem dX3_trackRisk_27 : decode cX3_trackRisk 27 = .ok (.iaload, 1) := by decide +kernel
theorem dX3_trackRisk_28 : decode cX3_trackRisk 28 = .ok (.iadd, 1) := by decide +kernel
theorem dX3_trackRisk_29 : decode cX3_trackRisk 29 = .ok (.istore_n 1, 1) := by decide +kernel
theorem dX3_trackRisk_30 : decode cX3_trackRisk 30 = .ok (.iinc 2 1, 3) := by decide +kernel
theorem dX3_trackRisk_33 : decode cX3_trackRisk 33 = .ok (.goto (-25), 3) := by decide +kernel
theorem dX3_trackRisk_36 : decode cX3_trackRisk 36 = .ok (.iload_n 1, 1) := by decide +kernel
theorem dX3_trackRisk_37 : decode cX3_trackRisk 37 = .ok (.ireturn, 1) := by decide +kernel
theorem dX3_trackBreath_0 : decode cX3_trackBreath 0 = .ok (.iconst 0, 1) := by decide +kernel
theorem dX3_trackBreath_1 : decode cX3_trackBreath 1 = .ok (.istore_n 1, 1) := by decide +kernel
theorem dX3_trackBreath_2 : decode cX3_trackBreath 2 = .ok (.iconst 1, 1) := by decide +kernel
theorem dX3_trackBreath_3 : decode cX3_trackBreath 3 = .ok (.istore_n 2, 1) := by decide +kernel
theorem dX3_trackBreath_4 : decode cX3_trackBreath 4 = .ok (.iload_n 2, 1) := by decide +kernel
theorem dX3_trackBreath_5 : decode cX3_trackBreath 5 = .ok (.aload_n 0, 1) := by decide +kernel
theorem dX3_trackBreath_6 : decode cX3_trackBreath 6 = .ok (.getfield 53, 3) := by decide +kernel
theorem dX3_trackBreath_9 : decode cX3_trackBreath 9 = .ok (.if_icmp .ge 30, 3) := by decide +kernel
theorem dX3_trackBreath_12 : decode cX3_trackBreath 12 = .ok (.iload_n 1, 1) := by decide +kernel
theorem dX3_trackBreath_13 : decode cX3_trackBreath 13 = .ok (.aload_n 0, 1) := by decide +kernel
theorem dX3_trackBreath_14 : decode cX3_trackBreath 14 = .ok (.aload_n 0, 1) := by decide +kernel
theorem dX3_trackBreath_15 : decode cX3_trackBreath 15 = .ok (.getfield 21, 3) := by decide +kernel
theorem dX3_trackBreath_18 : decode cX3_trackBreath 18 = .ok (.iload_n 2, 1) := by decide +kernel
theorem dX3_trackBreath_19 : decode cX3_trackBreath 19 = .ok (.iconst 1, 1) := by decide +kernel
theorem dX3_trackBreath_20 : decode cX3_trackBreath 20 = .ok (.isub, 1) := by decide +kernel
theorem dX3_trackBreath_21 : decode cX3_trackBreath 21 = .ok (.iaload, 1) := by decide +kernel
theorem dX3_trackBreath_22 : decode cX3_trackBreath 22 = .ok (.aload_n 0, 1) := by decide +kernel
theorem dX3_trackBreath_23 : decode cX3_trackBreath 23 = .ok (.getfield 21, 3) := by decide +kernel
theorem dX3_trackBreath_26 : decode cX3_trackBreath 26 = .ok (.iload_n 2, 1) := by decide +kernel
theorem dX3_trackBreath_27 : decode cX3_trackBreath 27 = .ok (.iaload, 1) := by decide +kernel
theorem dX3_trackBreath_28 : decode cX3_trackBreath 28 = .ok (.invokevirtual 136, 3) := by decide +kernel
theorem dX3_trackBreath_31 : decode cX3_trackBreath 31 = .ok (.iadd, 1) := by decide +kernel
theorem dX3_trackBreath_32 : decode cX3_trackBreath 32 = .ok (.istore_n 1, 1) := by decide +kernel
theorem dX3_trackBreath_33 : decode cX3_trackBreath 33 = .ok (.iinc 2 1, 3) := by decide +kernel
theorem dX3_trackBreath_36 : decode cX3_trackBreath 36 = .ok (.goto (-32), 3) := by decide +kernel
theorem dX3_trackBreath_39 : decode cX3_trackBreath 39 = .ok (.iload_n 1, 1) := by decide +kernel
theorem dX3_trackBreath_40 : decode cX3_trackBreath 40 = .ok (.ireturn, 1) := by decide +kernel
theorem dX3_trackTurns_0 : decode cX3_trackTurns 0 = .ok (.iconst 0, 1) := by decide +kernel
theorem dX3_trackTurns_1 : decode cX3_trackTurns 1 = .ok (.istore_n 1, 1) := by decide +kernel
theorem dX3_trackTurns_2 : decode cX3_trackTurns 2 = .ok (.iconst 2, 1) := by decide +kernel
theorem dX3_trackTurns_3 : decode cX3_trackTurns 3 = .ok (.istore_n 2, 1) := by decide +kernel
theorem dX3_trackTurns_4 : decode cX3_trackTurns 4 = .ok (.iload_n 2, 1) := by decide +kernel
theorem dX3_trackTurns_5 : decode cX3_trackTurns 5 = .ok (.aload_n 0, 1) := by decide +kernel
theorem dX3_trackTurns_6 : decode cX3_trackTurns 6 = .ok (.getfield 53, 3) := by decide +kernel
theorem dX3_trackTurns_9 : decode cX3_trackTurns 9 = .ok (.if_icmp .ge 47, 3) := by decide +kernel
theorem dX3_trackTurns_12 : decode cX3_trackTurns 12 = .ok (.aload_n 0, 1) := by decide +kernel
theorem dX3_trackTurns_13 : decode cX3_trackTurns 13 = .ok (.getfield 21, 3) := by decide +kernel
theorem dX3_trackTurns_16 : decode cX3_trackTurns 16 = .ok (.iload_n 2, 1) := by decide +kernel
theorem dX3_trackTurns_17 : decode cX3_trackTurns 17 = .ok (.iaload, 1) := by decide +kernel
theorem dX3_trackTurns_18 : decode cX3_trackTurns 18 = .ok (.aload_n 0, 1) := by decide +kernel
theorem dX3_trackTurns_19 : decode cX3_trackTurns 19 = .ok (.getfield 21, 3) := by decide +kernel
theorem dX3_trackTurns_22 : decode cX3_trackTurns 22 = .ok (.iload_n 2, 1) := by decide +kernel
theorem dX3_trackTurns_23 : decode cX3_trackTurns 23 = .ok (.iconst 1, 1) := by decide +kernel
theorem dX3_trackTurns_24 : decode cX3_trackTurns 24 = .ok (.isub, 1) := by decide +kernel
theorem dX3_trackTurns_25 : decode cX3_trackTurns 25 = .ok (.iaload, 1) := by decide +kernel
theorem dX3_trackTurns_26 : decode cX3_trackTurns 26 = .ok (.isub, 1) := by decide +kernel
theorem dX3_trackTurns_27 : decode cX3_trackTurns 27 = .ok (.aload_n 0, 1) := by decide +kernel
theorem dX3_trackTurns_28 : decode cX3_trackTurns 28 = .ok (.getfield 21, 3) := by decide +kernel
theorem dX3_trackTurns_31 : decode cX3_trackTurns 31 = .ok (.iload_n 2, 1) := by decide +kernel
theorem dX3_trackTurns_32 : decode cX3_trackTurns 32 = .ok (.iconst 1, 1) := by decide +kernel
theorem dX3_trackTurns_33 : decode cX3_trackTurns 33 = .ok (.isub, 1) := by decide +kernel
theorem dX3_trackTurns_34 : decode cX3_trackTurns 34 = .ok (.iaload, 1) := by decide +kernel
theorem dX3_trackTurns_35 : decode cX3_trackTurns 35 = .ok (.aload_n 0, 1) := by decide +kernel
theorem dX3_trackTurns_36 : decode cX3_trackTurns 36 = .ok (.getfield 21, 3) := by decide +kernel
theorem dX3_trackTurns_39 : decode cX3_trackTurns 39 = .ok (.iload_n 2, 1) := by decide +kernel
theorem dX3_trackTurns_40 : decode cX3_trackTurns 40 = .ok (.iconst 2, 1) := by decide +kernel
theorem dX3_trackTurns_41 : decode cX3_trackTurns 41 = .ok (.isub, 1) := by decide +kernel
theorem dX3_trackTurns_42 : decode cX3_trackTurns 42 = .ok (.iaload, 1) := by decide +kernel
theorem dX3_trackTurns_43 : decode cX3_trackTurns 43 = .ok (.isub, 1) := by decide +kernel
theorem dX3_trackTurns_44 : decode cX3_trackTurns 44 = .ok (.if_icmp .eq 6, 3) := by decide +kernel
theorem dX3_trackTurns_47 : decode cX3_trackTurns 47 = .ok (.iinc 1 1, 3) := by decide +kernel
theorem dX3_trackTurns_50 : decode cX3_trackTurns 50 = .ok (.iinc 2 1, 3) := by decide +kernel
theorem dX3_trackTurns_53 : decode cX3_trackTurns 53 = .ok (.goto (-49), 3) := by decide +kernel
theorem dX3_trackTurns_56 : decode cX3_trackTurns 56 = .ok (.iload_n 1, 1) := by decide +kernel
theorem dX3_trackTurns_57 : decode cX3_trackTurns 57 = .ok (.ireturn, 1) := by decide +kernel
theorem dX3_trackSteepest_0 : decode cX3_trackSteepest 0 = .ok (.iconst 0, 1) := by decide +kernel
theorem dX3_trackSteepest_1 : decode cX3_trackSteepest 1 = .ok (.istore_n 1, 1) := by decide +kernel
theorem dX3_trackSteepest_2 : decode cX3_trackSteepest 2 = .ok (.iconst 0, 1) := by decide +kernel
theorem dX3_trackSteepest_3 : decode cX3_trackSteepest 3 = .ok (.istore_n 2, 1) := by decide +kernel
theorem dX3_trackSteepest_4 : decode cX3_trackSteepest 4 = .ok (.iload_n 2, 1) := by decide +kernel
theorem dX3_trackSteepest_5 : decode cX3_trackSteepest 5 = .ok (.aload_n 0, 1) := by decide +kernel
theorem dX3_trackSteepest_6 : decode cX3_trackSteepest 6 = .ok (.getfield 53, 3) := by decide +kernel
theorem dX3_trackSteepest_9 : decode cX3_trackSteepest 9 = .ok (.if_icmp .ge 25, 3) := by decide +kernel
theorem dX3_trackSteepest_12 : decode cX3_trackSteepest 12 = .ok (.iload_n 1, 1) := by decide +kernel
theorem dX3_trackSteepest_13 : decode cX3_trackSteepest 13 = .ok (.aload_n 0, 1) := by decide +kernel
theorem dX3_trackSteepest_14 : decode cX3_trackSteepest 14 = .ok (.getfield 15, 3) := by decide +kernel
theorem dX3_trackSteepest_17 : decode cX3_trackSteepest 17 = .ok (.aload_n 0, 1) := by decide +kernel
theorem dX3_trackSteepest_18 : decode cX3_trackSteepest 18 = .ok (.getfield 21, 3) := by decide +kernel
theorem dX3_trackSteepest_21 : decode cX3_trackSteepest 21 = .ok (.iload_n 2, 1) := by decide +kernel
theorem dX3_trackSteepest_22 : decode cX3_trackSteepest 22 = .ok (.iaload, 1) := by decide +kernel
theorem dX3_trackSteepest_23 : decode cX3_trackSteepest 23 = .ok (.iaload, 1) := by decide +kernel
theorem dX3_trackSteepest_24 : decode cX3_trackSteepest 24 = .ok (.invokestatic 62, 3) := by decide +kernel
theorem dX3_trackSteepest_27 : decode cX3_trackSteepest 27 = .ok (.istore_n 1, 1) := by decide +kernel
theorem dX3_trackSteepest_28 : decode cX3_trackSteepest 28 = .ok (.iinc 2 1, 3) := by decide +kernel
theorem dX3_trackSteepest_31 : decode cX3_trackSteepest 31 = .ok (.goto (-27), 3) := by decide +kernel
theorem dX3_trackSteepest_34 : decode cX3_trackSteepest 34 = .ok (.iload_n 1, 1) := by decide +kernel
theorem dX3_trackSteepest_35 : decode cX3_trackSteepest 35 = .ok (.ireturn, 1) := by decide +kernel
theorem dX3_trackRiskiest_0 : decode cX3_trackRiskiest 0 = .ok (.aload_n 0, 1) := by decide +kernel
theorem dX3_trackRiskiest_1 : decode cX3_trackRiskiest 1 = .ok (.invokevirtual 133, 3) := by decide +kernel
theorem dX3_trackRiskiest_4 : decode cX3_trackRiskiest 4 = .ok (.iconst 0, 1) := by decide +kernel
theorem dX3_trackRiskiest_5 : decode cX3_trackRiskiest 5 = .ok (.istore_n 1, 1) := by decide +kernel
theorem dX3_trackRiskiest_6 : decode cX3_trackRiskiest 6 = .ok (.iconst 0, 1) := by decide +kernel
theorem dX3_trackRiskiest_7 : decode cX3_trackRiskiest 7 = .ok (.istore_n 2, 1) := by decide +kernel
theorem dX3_trackRiskiest_8 : decode cX3_trackRiskiest 8 = .ok (.iload_n 2, 1) := by decide +kernel
theorem dX3_trackRiskiest_9 : decode cX3_trackRiskiest 9 = .ok (.aload_n 0, 1) := by decide +kernel
theorem dX3_trackRiskiest_10 : decode cX3_trackRiskiest 10 = .ok (.getfield 53, 3) := by decide +kernel
theorem dX3_trackRiskiest_13 : decode cX3_trackRiskiest 13 = .ok (.if_icmp .ge 25, 3) := by decide +kernel
theorem dX3_trackRiskiest_16 : decode cX3_trackRiskiest 16 = .ok (.iload_n 1, 1) := by decide +kernel
theorem dX3_trackRiskiest_17 : decode cX3_trackRiskiest 17 = .ok (.aload_n 0, 1) := by decide +kernel
theorem dX3_trackRiskiest_18 : decode cX3_trackRiskiest 18 = .ok (.getfield 24, 3) := by decide +kernel
theorem dX3_trackRiskiest_21 : decode cX3_trackRiskiest 21 = .ok (.aload_n 0, 1) := by decide +kernel
theorem dX3_trackRiskiest_22 : decode cX3_trackRiskiest 22 = .ok (.getfield 21, 3) := by decide +kernel
theorem dX3_trackRiskiest_25 : decode cX3_trackRiskiest 25 = .ok (.iload_n 2, 1) := by decide +kernel
theorem dX3_trackRiskiest_26 : decode cX3_trackRiskiest 26 = .ok (.iaload, 1) := by decide +kernel
theorem dX3_trackRiskiest_27 : decode cX3_trackRiskiest 27 = .ok (.iaload, 1) := by decide +kernel
theorem dX3_trackRiskiest_28 : decode cX3_trackRiskiest 28 = .ok (.invokestatic 62, 3) := by decide +kernel
theorem dX3_trackRiskiest_31 : decode cX3_trackRiskiest 31 = .ok (.istore_n 1, 1) := by decide +kernel
theorem dX3_trackRiskiest_32 : decode cX3_trackRiskiest 32 = .ok (.iinc 2 1, 3) := by decide +kernel
theorem dX3_trackRiskiest_35 : decode cX3_trackRiskiest 35 = .ok (.goto (-27), 3) := by decide +kernel
theorem dX3_trackRiskiest_38 : decode cX3_trackRiskiest 38 = .ok (.iload_n 1, 1) := by decide +kernel
theorem dX3_trackRiskiest_39 : decode cX3_trackRiskiest 39 = .ok (.ireturn, 1) := by decide +kernel
theorem dX4_init_0 : decode cX4_init 0 = .ok (.aload_n 0, 1) := by decide +kernel
theorem dX4_init_1 : decode cX4_init 1 = .ok (.invokespecial 3, 3) := by decide +kernel
theorem dX4_init_4 : decode cX4_init 4 = .ok (.aload_n 0, 1) := by decide +kernel
theorem dX4_init_5 : decode cX4_init 5 = .ok (.new 9, 3) := by decide +kernel
theorem dX4_init_8 : decode cX4_init 8 = .ok (.dup, 1) := by decide +kernel
theorem dX4_init_9 : decode cX4_init 9 = .ok (.invokespecial 11, 3) := by decide +kernel
theorem dX4_init_12 : decode cX4_init 12 = .ok (.putfield 12, 3) := by decide +kernel
theorem dX4_init_15 : decode cX4_init 15 = .ok (.aload_n 0, 1) := by decide +kernel
theorem dX4_init_16 : decode cX4_init 16 = .ok (.aload_n 1, 1) := by decide +kernel
theorem dX4_init_17 : decode cX4_init 17 = .ok (.putfield 18, 3) := by decide +kernel
theorem dX4_init_20 : decode cX4_init 20 = .ok (.return_, 1) := by decide +kernel
theorem dX4_faultOfTape_0 : decode cX4_faultOfTape 0 = .ok (.aload_n 0, 1) := by decide +kernel
theorem dX4_faultOfTape_1 : decode cX4_faultOfTape 1 = .ok (.getfield 12, 3) := by decide +kernel
theorem dX4_faultOfTape_4 : decode cX4_faultOfTape 4 = .ok (.invokevirtual 22, 3) := by decide +kernel
theorem dX4_faultOfTape_7 : decode cX4_faultOfTape 7 = .ok (.aload_n 0, 1) := by decide +kernel
theorem dX4_faultOfTape_8 : decode cX4_faultOfTape 8 = .ok (.iconst 0, 1) := by decide +kernel
theorem dX4_faultOfTape_9 : decode cX4_faultOfTape 9 = .ok (.putfield 25, 3) := by decide +kernel
theorem dX4_faultOfTape_12 : decode cX4_faultOfTape 12 = .ok (.aload_n 0, 1) := by decide +kernel
theorem dX4_faultOfTape_13 : decode cX4_faultOfTape 13 = .ok (.ldc 29, 2) := by decide +kernel
theorem dX4_faultOfTape_15 : decode cX4_faultOfTape 15 = .ok (.putfield 30, 3) := by decide +kernel
theorem dX4_faultOfTape_18 : decode cX4_faultOfTape 18 = .ok (.aload_n 0, 1) := by decide +kernel
theorem dX4_faultOfTape_19 : decode cX4_faultOfTape 19 = .ok (.invokevirtual 33, 3) := by decide +kernel
theorem dX4_faultOfTape_22 : decode cX4_faultOfTape 22 = .ok (.aload_n 0, 1) := by decide +kernel
theorem dX4_faultOfTape_23 : decode cX4_faultOfTape 23 = .ok (.iconst 0, 1) := by decide +kernel
theorem dX4_faultOfTape_24 : decode cX4_faultOfTape 24 = .ok (.iconst 0, 1) := by decide +kernel
theorem dX4_faultOfTape_25 : decode cX4_faultOfTape 25 = .ok (.iconst 0, 1) := by decide +kernel
theorem dX4_faultOfTape_26 : decode cX4_faultOfTape 26 = .ok (.invokevirtual 36, 3) := by decide +kernel
theorem dX4_faultOfTape_29 : decode cX4_faultOfTape 29 = .ok (.aload_n 0, 1) := by decide +kernel
theorem dX4_faultOfTape_30 : decode cX4_faultOfTape 30 = .ok (.getfield 30, 3) := by decide +kernel
theorem dX4_faultOfTape_33 : decode cX4_faultOfTape 33 = .ok (.ldc 29, 2) := by decide +kernel
theorem dX4_faultOfTape_35 : decode cX4_faultOfTape 35 = .ok (.if_icmp .ne 20, 3) := by decide +kernel
theorem dX4_faultOfTape_38 : decode cX4_faultOfTape 38 = .ok (.aload_n 0, 1) := by decide +kernel
theorem dX4_faultOfTape_39 : decode cX4_faultOfTape 39 = .ok (.invokevirtual 40, 3) := by decide +kernel
theorem dX4_faultOfTape_42 : decode cX4_faultOfTape 42 = .ok (.ldc 29, 2) := by decide +kernel
theorem dX4_faultOfTape_44 : decode cX4_faultOfTape 44 = .ok (.if_icmp .eq 11, 3) := by decide +kernel
theorem dX4_faultOfTape_47 : decode cX4_faultOfTape 47 = .ok (.aload_n 0, 1) := by decide +kernel
theorem dX4_faultOfTape_48 : decode cX4_faultOfTape 48 = .ok (.aload_n 0, 1) := by decide +kernel
theorem dX4_faultOfTape_49 : decode cX4_faultOfTape 49 = .ok (.getfield 25, 3) := by decide +kernel
theorem dX4_faultOfTape_52 : decode cX4_faultOfTape 52 = .ok (.putfield 30, 3) := by decide +kernel
theorem dX4_faultOfTape_55 : decode cX4_faultOfTape 55 = .ok (.aload_n 0, 1) := by decide +kernel
theorem dX4_faultOfTape_56 : decode cX4_faultOfTape 56 = .ok (.getfield 30, 3) := by decide +kernel
theorem dX4_faultOfTape_59 : decode cX4_faultOfTape 59 = .ok (.ireturn, 1) := by decide +kernel
theorem dX4_nextByte_0 : decode cX4_nextByte 0 = .ok (.aload_n 0, 1) := by decide +kernel
theorem dX4_nextByte_1 : decode cX4_nextByte 1 = .ok (.getfield 25, 3) := by decide +kernel
theorem dX4_nextByte_4 : decode cX4_nextByte 4 = .ok (.aload_n 0, 1) := by decide +kernel
theorem dX4_nextByte_5 : decode cX4_nextByte 5 = .ok (.getfield 18, 3) := by decide +kernel
theorem dX4_nextByte_8 : decode cX4_nextByte 8 = .ok (.getfield 44, 3) := by decide +kernel
theorem dX4_nextByte_11 : decode cX4_nextByte 11 = .ok (.if_icmp .ge 33, 3) := by decide +kernel
theorem dX4_nextByte_14 : decode cX4_nextByte 14 = .ok (.aload_n 0, 1) := by decide +kernel
theorem dX4_nextByte_15 : decode cX4_nextByte 15 = .ok (.getfield 18, 3) := by decide +kernel
theorem dX4_nextByte_18 : decode cX4_nextByte 18 = .ok (.getfield 49, 3) := by decide +kernel
theorem dX4_nextByte_21 : decode cX4_nextByte 21 = .ok (.aload_n 0, 1) := by decide +kernel
theorem dX4_nextByte_22 : decode cX4_nextByte 22 = .ok (.getfield 25, 3) := by decide +kernel
theorem dX4_nextByte_25 : decode cX4_nextByte 25 = .ok (.iaload, 1) := by decide +kernel
theorem dX4_nextByte_26 : decode cX4_nextByte 26 = .ok (.bipush 32, 2) := by decide +kernel
theorem dX4_nextByte_28 : decode cX4_nextByte 28 = .ok (.if_icmp .ne 16, 3) := by decide +kernel
theorem dX4_nextByte_31 : decode cX4_nextByte 31 = .ok (.aload_n 0, 1) := by decide +kernel
theorem dX4_nextByte_32 : decode cX4_nextByte 32 = .ok (.dup, 1) := by decide +kernel
theorem dX4_nextByte_33 : decode cX4_nextByte 33 = .ok (.getfield 25, 3) := by decide +kernel
theorem dX4_nextByte_36 : decode cX4_nextByte 36 = .ok (.iconst 1, 1) := by decide +kernel
theorem dX4_nextByte_37 : decode cX4_nextByte 37 = .ok (.iadd, 1) := by decide +kernel
theorem dX4_nextByte_38 : decode cX4_nextByte 38 = .ok (.putfield 25, 3) := by decide +kernel
theorem dX4_nextByte_41 : decode cX4_nextByte 41 = .ok (.goto (-41), 3) := by decide +kernel
theorem dX4_nextByte_44 : decode cX4_nextByte 44 = .ok (.aload_n 0, 1) := by decide +kernel
theorem dX4_nextByte_45 : decode cX4_nextByte 45 = .ok (.getfield 18, 3) := by decide +kernel
theorem dX4_nextByte_48 : decode cX4_nextByte 48 = .ok (.aload_n 0, 1) := by decide +kernel
theorem dX4_nextByte_49 : decode cX4_nextByte 49 = .ok (.getfield 25, 3) := by decide +kernel
theorem dX4_nextByte_52 : decode cX4_nextByte 52 = .ok (.invokevirtual 53, 3) := by decide +kernel
theorem dX4_nextByte_55 : decode cX4_nextByte 55 = .ok (.ireturn, 1) := by decide +kernel
theorem dX4_readKey_0 : decode cX4_readKey 0 = .ok (.aload_n 0, 1) := by decide +kernel
theorem dX4_readKey_1 : decode cX4_readKey 1 = .ok (.invokevirtual 40, 3) := by decide +kernel
theorem dX4_readKey_4 : decode cX4_readKey 4 = .ok (.pop, 1) := by decide +kernel
theorem dX4_readKey_5 : decode cX4_readKey 5 = .ok (.aload_n 0, 1) := by decide +kernel
theorem dX4_readKey_6 : decode cX4_readKey 6 = .ok (.aload_n 0, 1) := by decide +kernel
theorem dX4_readKey_7 : decode cX4_readKey 7 = .ok (.getfield 18, 3) := by decide +kernel
theorem dX4_readKey_10 : decode cX4_readKey 10 = .ok (.aload_n 0, 1) := by decide +kernel
theorem dX4_readKey_11 : decode cX4_readKey 11 = .ok (.getfield 25, 3) := by decide +kernel
theorem dX4_readKey_14 : decode cX4_readKey 14 = .ok (.invokevirtual 57, 3) := by decide +kernel
theorem dX4_readKey_17 : decode cX4_readKey 17 = .ok (.putfield 60, 3) := by decide +kernel
theorem dX4_readKey_20 : decode cX4_readKey 20 = .ok (.aload_n 0, 1) := by decide +kernel
theorem dX4_readKey_21 : decode cX4_readKey 21 = .ok (.ldc 63, 2) := by decide +kernel
theorem dX4_readKey_23 : decode cX4_readKey 23 = .ok (.invokevirtual 65, 3) := by decide +kernel
theorem dX4_readKey_26 : decode cX4_readKey 26 = .ok (.ifCond .eq 14, 3) := by decide +kernel
theorem dX4_readKey_29 : decode cX4_readKey 29 = .ok (.aload_n 0, 1) := by decide +kernel
theorem dX4_readKey_30 : decode cX4_readKey 30 = .ok (.getfield 12, 3) := by decide +kernel
theorem dX4_readKey_33 : decode cX4_readKey 33 = .ok (.iconst 0, 1) := by decide +kernel
theorem dX4_readKey_34 : decode cX4_readKey 34 = .ok (.putfield 69, 3) := by decide +kernel
theorem dX4_readKey_37 : decode cX4_readKey 37 = .ok (.goto 52, 3) := by decide +kernel
theorem dX4_readKey_40 : decode cX4_readKey 40 = .ok (.aload_n 0, 1) := by decide +kernel
theorem dX4_readKey_41 : decode cX4_readKey 41 = .ok (.ldc 72, 2) := by decide +kernel
theorem dX4_readKey_43 : decode cX4_readKey 43 = .ok (.invokevirtual 65, 3) := by decide +kernel
theorem dX4_readKey_46 : decode cX4_readKey 46 = .ok (.ifCond .eq 14, 3) := by decide +kernel
theorem dX4_readKey_49 : decode cX4_readKey 49 = .ok (.aload_n 0, 1) := by decide +kernel
theorem dX4_readKey_50 : decode cX4_readKey 50 = .ok (.getfield 12, 3) := by decide +kernel
theorem dX4_readKey_53 : decode cX4_readKey 53 = .ok (.iconst 1, 1) := by decide +kernel
theorem dX4_readKey_54 : decode cX4_readKey 54 = .ok (.putfield 69, 3) := by decide +kernel
theorem dX4_readKey_57 : decode cX4_readKey 57 = .ok (.goto 32, 3) := by decide +kernel
theorem dX4_readKey_60 : decode cX4_readKey 60 = .ok (.aload_n 0, 1) := by decide +kernel
theorem dX4_readKey_61 : decode cX4_readKey 61 = .ok (.ldc 74, 2) := by decide +kernel
theorem dX4_readKey_63 : decode cX4_readKey 63 = .ok (.invokevirtual 65, 3) := by decide +kernel
theorem dX4_readKey_66 : decode cX4_readKey 66 = .ok (.ifCond .eq 14, 3) := by decide +kernel
theorem dX4_readKey_69 : decode cX4_readKey 69 = .ok (.aload_n 0, 1) := by decide +kernel
theorem dX4_readKey_70 : decode cX4_readKey 70 = .ok (.getfield 12, 3) := by decide +kernel
theorem dX4_readKey_73 : decode cX4_readKey 73 = .ok (.iconst 2, 1) := by decide +kernel
theorem dX4_readKey_74 : decode cX4_readKey 74 = .ok (.putfield 69, 3) := by decide +kernel
theorem dX4_readKey_77 : decode cX4_readKey 77 = .ok (.goto 12, 3) := by decide +kernel
theorem dX4_readKey_80 : decode cX4_readKey 80 = .ok (.aload_n 0, 1) := by decide +kernel
theorem dX4_readKey_81 : decode cX4_readKey 81 = .ok (.aload_n 0, 1) := by decide +kernel
theorem dX4_readKey_82 : decode cX4_readKey 82 = .ok (.getfield 25, 3) := by decide +kernel
theorem dX4_readKey_85 : decode cX4_readKey 85 = .ok (.putfield 30, 3) := by decide +kernel
theorem dX4_readKey_88 : decode cX4_readKey 88 = .ok (.return_, 1) := by decide +kernel
theorem dX4_readKey_89 : decode cX4_readKey 89 = .ok (.aload_n 0, 1) := by decide +kernel
theorem dX4_readKey_90 : decode cX4_readKey 90 = .ok (.aload_n 0, 1) := by decide +kernel
theorem dX4_readKey_91 : decode cX4_readKey 91 = .ok (.getfield 60, 3) := by decide +kernel
theorem dX4_readKey_94 : decode cX4_readKey 94 = .ok (.putfield 25, 3) := by decide +kernel
theorem dX4_readKey_97 : decode cX4_readKey 97 = .ok (.return_, 1) := by decide +kernel
theorem dX4_isWord_0 : decode cX4_isWord 0 = .ok (.aload_n 0, 1) := by decide +kernel
theorem dX4_isWord_1 : decode cX4_isWord 1 = .ok (.getfield 60, 3) := by decide +kernel
theorem dX4_isWord_4 : decode cX4_isWord 4 = .ok (.aload_n 0, 1) := by decide +kernel
theorem dX4_isWord_5 : decode cX4_isWord 5 = .ok (.getfield 25, 3) := by decide +kernel
theorem dX4_isWord_8 : decode cX4_isWord 8 = .ok (.isub, 1) := by decide +kernel
theorem dX4_isWord_9 : decode cX4_isWord 9 = .ok (.aload_n 1, 1) := by decide +kernel
theorem dX4_isWord_10 : decode cX4_isWord 10 = .ok (.invokevirtual 76, 3) := by decide +kernel
theorem dX4_isWord_13 : decode cX4_isWord 13 = .ok (.if_icmp .eq 5, 3) := by decide +kernel
theorem dX4_isWord_16 : decode cX4_isWord 16 = .ok (.iconst 0, 1) := by decide +kernel
theorem dX4_isWord_17 : decode cX4_isWord 17 = .ok (.ireturn, 1) := by decide +kernel
theorem dX4_isWord_18 : decode cX4_isWord 18 = .ok (.iconst 0, 1) := by decide +kernel
theorem dX4_isWord_19 : decode cX4_isWord 19 = .ok (.istore_n 2, 1) := by decide +kernel
theorem dX4_isWord_20 : decode cX4_isWord 20 = .ok (.iload_n 2, 1) := by decide +kernel
theorem dX4_isWord_21 : decode cX4_isWord 21 = .ok (.aload_n 1, 1) := by decide +kernel
theorem dX4_isWord_22 : decode cX4_isWord 22 = .ok (.invokevirtual 76, 3) := by decide +kernel
theorem dX4_isWord_25 : decode cX4_isWord 25 = .ok (.if_icmp .ge 32, 3) := by decide +kernel
theorem dX4_isWord_28 : decode cX4_isWord 28 = .ok (.aload_n 0, 1) := by decide +kernel
theorem dX4_isWord_29 : decode cX4_isWord 29 = .ok (.getfield 18, 3) := by decide +kernel
theorem dX4_isWord_32 : decode cX4_isWord 32 = .ok (.aload_n 0, 1) := by decide +kernel
theorem dX4_isWord_33 : decode cX4_isWord 33 = .ok (.getfield 25, 3) := by decide +kernel
theorem dX4_isWord_36 : decode cX4_isWord 36 = .ok (.iload_n 2, 1) := by decide +kernel
theorem dX4_isWord_37 : decode cX4_isWord 37 = .ok (.iadd, 1) := by decide +kernel
theorem dX4_isWord_38 : decode cX4_isWord 38 = .ok (.invokevirtual 53, 3) := by decide +kernel
theorem dX4_isWord_41 : decode cX4_isWord 41 = .ok (.aload_n 1, 1) := by decide +kernel
theorem dX4_isWord_42 : decode cX4_isWord 42 = .ok (.iload_n 2, 1) := by decide +kernel
theorem dX4_isWord_43 : decode cX4_isWord 43 = .ok (.invokevirtual 80, 3) := by decide +kernel
theorem dX4_isWord_46 : decode cX4_isWord 46 = .ok (.if_icmp .eq 5, 3) := by decide +kernel
theorem dX4_isWord_49 : decode cX4_isWord 49 = .ok (.iconst 0, 1) := by decide +kernel
theorem dX4_isWord_50 : decode cX4_isWord 50 = .ok (.ireturn, 1) := by decide +kernel
theorem dX4_isWord_51 : decode cX4_isWord 51 = .ok (.iinc 2 1, 3) := by decide +kernel
theorem dX4_isWord_54 : decode cX4_isWord 54 = .ok (.goto (-34), 3) := by decide +kernel
theorem dX4_isWord_57 : decode cX4_isWord 57 = .ok (.iconst 1, 1) := by decide +kernel
theorem dX4_isWord_58 : decode cX4_isWord 58 = .ok (.ireturn, 1) := by decide +kernel
theorem dX4_readLevel_0 : decode cX4_readLevel 0 = .ok (.iload_n 1, 1) := by decide +kernel
theorem dX4_readLevel_1 : decode cX4_readLevel 1 = .ok (.iconst 5, 1) := by decide +kernel
theorem dX4_readLevel_2 : decode cX4_readLevel 2 = .ok (.if_icmp .lt 10, 3) := by decide +kernel
theorem dX4_readLevel_5 : decode cX4_readLevel 5 = .ok (.aload_n 0, 1) := by decide +kernel
theorem dX4_readLevel_6 : decode cX4_readLevel 6 = .ok (.iload_n 2, 1) := by decide +kernel
theorem dX4_readLevel_7 : decode cX4_readLevel 7 = .ok (.iload_n 3, 1) := by decide +kernel
theorem dX4_readLevel_8 : decode cX4_readLevel 8 = .ok (.invokevirtual 84, 3) := by decide +kernel
theorem dX4_readLevel_11 : decode cX4_readLevel 11 = .ok (.return_, 1) := by decide +kernel
theorem dX4_readLevel_12 : decode cX4_readLevel 12 = .ok (.aload_n 0, 1) := by decide +kernel
theorem dX4_readLevel_13 : decode cX4_readLevel 13 = .ok (.iload_n 1, 1) := by decide +kernel
theorem dX4_readLevel_14 : decode cX4_readLevel 14 = .ok (.iconst 1, 1) := by decide +kernel
theorem dX4_readLevel_15 : decode cX4_readLevel 15 = .ok (.iadd, 1) := by decide +kernel
theorem dX4_readLevel_16 : decode cX4_readLevel 16 = .ok (.iload_n 2, 1) := by decide +kernel
theorem dX4_readLevel_17 : decode cX4_readLevel 17 = .ok (.iload_n 3, 1) := by decide +kernel
theorem dX4_readLevel_18 : decode cX4_readLevel 18 = .ok (.invokevirtual 36, 3) := by decide +kernel
theorem dX4_readLevel_21 : decode cX4_readLevel 21 = .ok (.iload_n 1, 1) := by decide +kernel
theorem dX4_readLevel_22 : decode cX4_readLevel 22 = .ok (.iconst 2, 1) := by decide +kernel
theorem dX4_readLevel_23 : decode cX4_readLevel 23 = .ok (.if_icmp .ne 7, 3) := by decide +kernel
theorem dX4_readLevel_26 : decode cX4_readLevel 26 = .ok (.iconst 1, 1) := by decide +kernel
theorem dX4_readLevel_27 : decode cX4_readLevel 27 = .ok (.goto 5, 3) := by decide +kernel
theorem dX4_readLevel_30 : decode cX4_readLevel 30 = .ok (.bipush 96, 2) := by decide +kernel
theorem dX4_readLevel_32 : decode cX4_readLevel 32 = .ok (.istore 4, 2) := by decide +kernel
theorem dX4_readLevel_34 : decode cX4_readLevel 34 = .ok (.iconst 0, 1) := by decide +kernel
theorem dX4_readLevel_35 : decode cX4_readLevel 35 = .ok (.istore 5, 2) := by decide +kernel
theorem dX4_readLevel_37 : decode cX4_readLevel 37 = .ok (.iload 5, 2) := by decide +kernel
theorem dX4_readLevel_39 : decode cX4_readLevel 39 = .ok (.iload 4, 2) := by decide +kernel
theorem dX4_readLevel_41 : decode cX4_readLevel 41 = .ok (.if_icmp .ge 64, 3) := by decide +kernel
theorem dX4_readLevel_44 : decode cX4_readLevel 44 = .ok (.aload_n 0, 1) := by decide +kernel
theorem dX4_readLevel_45 : decode cX4_readLevel 45 = .ok (.getfield 30, 3) := by decide +kernel
theorem dX4_readLevel_48 : decode cX4_readLevel 48 = .ok (.ldc 29, 2) := by decide +kernel
theorem dX4_readLevel_50 : decode cX4_readLevel 50 = .ok (.if_icmp .ne 55, 3) := by decide +kernel
theorem dX4_readLevel_53 : decode cX4_readLevel 53 = .ok (.aload_n 0, 1) := by decide +kernel
theorem dX4_readLevel_54 : decode cX4_readLevel 54 = .ok (.invokevirtual 40, 3) := by decide +kernel
theorem dX4_readLevel_57 : decode cX4_readLevel 57 = .ok (.invokestatic 88, 3) := by decide +kernel
theorem dX4_readLevel_60 : decode cX4_readLevel 60 = .ok (.iload_n 1, 1) := by decide +kernel
theorem dX4_readLevel_61 : decode cX4_readLevel 61 = .ok (.if_icmp .ne 44, 3) := by decide +kernel
theorem dX4_readLevel_64 : decode cX4_readLevel 64 = .ok (.aload_n 0, 1) := by decide +kernel
theorem dX4_readLevel_65 : decode cX4_readLevel 65 = .ok (.invokevirtual 40, 3) := by decide +kernel
theorem dX4_readLevel_68 : decode cX4_readLevel 68 = .ok (.istore 6, 2) := by decide +kernel
theorem dX4_readLevel_70 : decode cX4_readLevel 70 = .ok (.aload_n 0, 1) := by decide +kernel
theorem dX4_readLevel_71 : decode cX4_readLevel 71 = .ok (.dup, 1) := by decide +kernel
theorem dX4_readLevel_72 : decode cX4_readLevel 72 = .ok (.getfield 25, 3) := by decide +kernel
theorem dX4_readLevel_75 : decode cX4_readLevel 75 = .ok (.iconst 1, 1) := by decide +kernel
theorem dX4_readLevel_76 : decode cX4_readLevel 76 = .ok (.iadd, 1) := by decide +kernel
theorem dX4_readLevel_77 : decode cX4_readLevel 77 = .ok (.putfield 25, 3) := by decide +kernel
theorem dX4_readLevel_80 : decode cX4_readLevel 80 = .ok (.aload_n 0, 1) := by decide +kernel
theorem dX4_readLevel_81 : decode cX4_readLevel 81 = .ok (.iload_n 1, 1) := by decide +kernel
theorem dX4_readLevel_82 : decode cX4_readLevel 82 = .ok (.iconst 1, 1) := by decide +kernel
theorem dX4_readLevel_83 : decode cX4_readLevel 83 = .ok (.iadd, 1) := by decide +kernel
theorem dX4_readLevel_84 : decode cX4_readLevel 84 = .ok (.iload_n 2, 1) := by decide +kernel
theorem dX4_readLevel_85 : decode cX4_readLevel 85 = .ok (.iload_n 3, 1) := by decide +kernel
theorem dX4_readLevel_86 : decode cX4_readLevel 86 = .ok (.invokevirtual 36, 3) := by decide +kernel
theorem dX4_readLevel_89 : decode cX4_readLevel 89 = .ok (.aload_n 0, 1) := by decide +kernel
theorem dX4_readLevel_90 : decode cX4_readLevel 90 = .ok (.getfield 12, 3) := by decide +kernel
theorem dX4_readLevel_93 : decode cX4_readLevel 93 = .ok (.iload 6, 2) := by decide +kernel
theorem dX4_readLevel_95 : decode cX4_readLevel 95 = .ok (.ineg, 1) := by decide +kernel
theorem dX4_readLevel_96 : decode cX4_readLevel 96 = .ok (.invokevirtual 91, 3) := by decide +kernel
theorem dX4_readLevel_99 : decode cX4_readLevel 99 = .ok (.iinc 5 1, 3) := by decide +kernel
theorem dX4_readLevel_102 : decode cX4_readLevel 102 = .ok (.goto (-65), 3) := by decide +kernel
theorem dX4_readLevel_105 : decode cX4_readLevel 105 = .ok (.return_, 1) := by decide +kernel
theorem dX4_levelOf_0 : decode cX4_levelOf 0 = .ok (.iload_n 0, 1) := by decide +kernel
theorem dX4_levelOf_1 : decode cX4_levelOf 1 = .ok (.lookupswitch 93 #[(38, 85), (42, 91), (43, 89), (45, 89), (47, 91), (60, 87), (61, 87), (62, 87), (124, 83)], 83) := by decide +kernel
theorem dX4_levelOf_84 : decode cX4_levelOf 84 = .ok (.iconst 0, 1) := by decide +kernel
theorem dX4_levelOf_85 : decode cX4_levelOf 85 = .ok (.ireturn, 1) := by decide +kernel
theorem dX4_levelOf_86 : decode cX4_levelOf 86 = .ok (.iconst 1, 1) := by decide +kernel
theorem dX4_levelOf_87 : decode cX4_levelOf 87 = .ok (.ireturn, 1) := by decide +kernel
theorem dX4_levelOf_88 : decode cX4_levelOf 88 = .ok (.iconst 2, 1) := by decide +kernel
theorem dX4_levelOf_89 : decode cX4_levelOf 89 = .ok (.ireturn, 1) := by decide +kernel
theorem dX4_levelOf_90 : decode cX4_levelOf 90 = .ok (.iconst 3, 1) := by decide +kernel
theorem dX4_levelOf_91 : decode cX4_levelOf 91 = .ok (.ireturn, 1) := by decide +kernel
theorem dX4_levelOf_92 : decode cX4_levelOf 92 = .ok (.iconst 4, 1) := by decide +kernel
theorem dX4_levelOf_93 : decode cX4_levelOf 93 = .ok (.ireturn, 1) := by decide +kernel
theorem dX4_levelOf_94 : decode cX4_levelOf 94 = .ok (.ldc 29, 2) := by decide +kernel
theorem dX4_levelOf_96 : decode cX4_levelOf 96 = .ok (.ireturn, 1) := by decide +kernel
theorem dX4_readPiece_0 : decode cX4_readPiece 0 = .ok (.aload_n 0, 1) := by decide +kernel
theorem dX4_readPiece_1 : decode cX4_readPiece 1 = .ok (.getfield 30, 3) := by decide +kernel
theorem dX4_readPiece_4 : decode cX4_readPiece 4 = .ok (.ldc 29, 2) := by decide +kernel
theorem dX4_readPiece_6 : decode cX4_readPiece 6 = .ok (.if_icmp .eq 4, 3) := by decide +kernel
theorem dX4_readPiece_9 : decode cX4_readPiece 9 = .ok (.return_, 1) := by decide +kernel
theorem dX4_readPiece_10 : decode cX4_readPiece 10 = .ok (.aload_n 0, 1) := by decide +kernel
theorem dX4_readPiece_11 : decode cX4_readPiece 11 = .ok (.invokevirtual 40, 3) := by decide +kernel
theorem dX4_readPiece_14 : decode cX4_readPiece 14 = .ok (.istore_n 3, 1) := by decide +kernel
theorem dX4_readPiece_15 : decode cX4_readPiece 15 = .ok (.iload_n 3, 1) := by decide +kernel
theorem dX4_readPiece_16 : decode cX4_readPiece 16 = .ok (.bipush 40, 2) := by decide +kernel
theorem dX4_readPiece_18 : decode cX4_readPiece 18 = .ok (.if_icmp .ne 35, 3) := by decide +kernel
theorem dX4_readPiece_21 : decode cX4_readPiece 21 = .ok (.iload_n 1, 1) := by decide +kernel
theorem dX4_readPiece_22 : decode cX4_readPiece 22 = .ok (.bipush 8, 2) := by decide +kernel
theorem dX4_readPiece_24 : decode cX4_readPiece 24 = .ok (.if_icmp .ge 29, 3) := by decide +kernel
theorem dX4_readPiece_27 : decode cX4_readPiece 27 = .ok (.aload_n 0, 1) := by decide +kernel
theorem dX4_readPiece_28 : decode cX4_readPiece 28 = .ok (.dup, 1) := by decide +kernel
theorem dX4_readPiece_29 : decode cX4_readPiece 29 = .ok (.getfield 25, 3) := by decide +kernel
theorem dX4_readPiece_32 : decode cX4_readPiece 32 = .ok (.iconst 1, 1) := by decide +kernel
theorem dX4_readPiece_33 : decode cX4_readPiece 33 = .ok (.iadd, 1) := by decide +kernel
theorem dX4_readPiece_34 : decode cX4_readPiece 34 = .ok (.putfield 25, 3) := by decide +kernel
theorem dX4_readPiece_37 : decode cX4_readPiece 37 = .ok (.aload_n 0, 1) := by decide +kernel
theorem dX4_readPiece_38 : decode cX4_readPiece 38 = .ok (.iconst 0, 1) := by decide +kernel
theorem dX4_readPiece_39 : decode cX4_readPiece 39 = .ok (.iload_n 1, 1) := by decide +kernel
theorem dX4_readPiece_40 : decode cX4_readPiece 40 = .ok (.iconst 1, 1) := by decide +kernel
theorem dX4_readPiece_41 : decode cX4_readPiece 41 = .ok (.iadd, 1) := by decide +kernel
theorem dX4_readPiece_42 : decode cX4_readPiece 42 = .ok (.iload_n 2, 1) := by decide +kernel
theorem dX4_readPiece_43 : decode cX4_readPiece 43 = .ok (.invokevirtual 36, 3) := by decide +kernel
theorem dX4_readPiece_46 : decode cX4_readPiece 46 = .ok (.aload_n 0, 1) := by decide +kernel
theorem dX4_readPiece_47 : decode cX4_readPiece 47 = .ok (.invokevirtual 95, 3) := by decide +kernel
theorem dX4_readPiece_50 : decode cX4_readPiece 50 = .ok (.goto 71, 3) := by decide +kernel
theorem dX4_readPiece_53 : decode cX4_readPiece 53 = .ok (.iload_n 3, 1) := by decide +kernel
theorem dX4_readPiece_54 : decode cX4_readPiece 54 = .ok (.bipush 33, 2) := by decide +kernel
theorem dX4_readPiece_56 : decode cX4_readPiece 56 = .ok (.if_icmp .ne 39, 3) := by decide +kernel
theorem dX4_readPiece_59 : decode cX4_readPiece 59 = .ok (.iload_n 2, 1) := by decide +kernel
theorem dX4_readPiece_60 : decode cX4_readPiece 60 = .ok (.bipush 8, 2) := by decide +kernel
theorem dX4_readPiece_62 : decode cX4_readPiece 62 = .ok (.if_icmp .ge 33, 3) := by decide +kernel
theorem dX4_readPiece_65 : decode cX4_readPiece 65 = .ok (.aload_n 0, 1) := by decide +kernel
theorem dX4_readPiece_66 : decode cX4_readPiece 66 = .ok (.dup, 1) := by decide +kernel
theorem dX4_readPiece_67 : decode cX4_readPiece 67 = .ok (.getfield 25, 3) := by decide +kernel
theorem dX4_readPiece_70 : decode cX4_readPiece 70 = .ok (.iconst 1, 1) := by decide +kernel
theorem dX4_readPiece_71 : decode cX4_readPiece 71 = .ok (.iadd, 1) := by decide +kernel
theorem dX4_readPiece_72 : decode cX4_readPiece 72 = .ok (.putfield 25, 3) := by decide +kernel
theorem dX4_readPiece_75 : decode cX4_readPiece 75 = .ok (.aload_n 0, 1) := by decide +kernel
theorem dX4_readPiece_76 : decode cX4_readPiece 76 = .ok (.iload_n 1, 1) := by decide +kernel
theorem dX4_readPiece_77 : decode cX4_readPiece 77 = .ok (.iload_n 2, 1) := by decide +kernel
theorem dX4_readPiece_78 : decode cX4_readPiece 78 = .ok (.iconst 1, 1) := by decide +kernel
theorem dX4_readPiece_79 : decode cX4_readPiece 79 = .ok (.iadd, 1) := by decide +kernel
theorem dX4_readPiece_80 : decode cX4_readPiece 80 = .ok (.invokevirtual 84, 3) := by decide +kernel
theorem dX4_readPiece_83 : decode cX4_readPiece 83 = .ok (.aload_n 0, 1) := by decide +kernel
theorem dX4_readPiece_84 : decode cX4_readPiece 84 = .ok (.getfield 12, 3) := by decide +kernel
theorem dX4_readPiece_87 : decode cX4_readPiece 87 = .ok (.bipush (-33), 2) := by decide +kernel
theorem dX4_readPiece_89 : decode cX4_readPiece 89 = .ok (.invokevirtual 91, 3) := by decide +kernel
theorem dX4_readPiece_92 : decode cX4_readPiece 92 = .ok (.goto 29, 3) := by decide +kernel
theorem dX4_readPiece_95 : decode cX4_readPiece 95 = .ok (.aload_n 0, 1) := by decide +kernel
theorem dX4_readPiece_96 : decode cX4_readPiece 96 = .ok (.getfield 18, 3) := by decide +kernel
theorem dX4_readPiece_99 : decode cX4_readPiece 99 = .ok (.aload_n 0, 1) := by decide +kernel
theorem dX4_readPiece_100 : decode cX4_readPiece 100 = .ok (.getfield 25, 3) := by decide +kernel
theorem dX4_readPiece_103 : decode cX4_readPiece 103 = .ok (.invokevirtual 98, 3) := by decide +kernel
theorem dX4_readPiece_106 : decode cX4_readPiece 106 = .ok (.ifCond .eq 10, 3) := by decide +kernel
theorem dX4_readPiece_109 : decode cX4_readPiece 109 = .ok (.aload_n 0, 1) := by decide +kernel
theorem dX4_readPiece_110 : decode cX4_readPiece 110 = .ok (.invokevirtual 102, 3) := by decide +kernel
theorem dX4_readPiece_113 : decode cX4_readPiece 113 = .ok (.goto 8, 3) := by decide +kernel
theorem dX4_readPiece_116 : decode cX4_readPiece 116 = .ok (.aload_n 0, 1) := by decide +kernel
theorem dX4_readPiece_117 : decode cX4_readPiece 117 = .ok (.iload_n 3, 1) := by decide +kernel
theorem dX4_readPiece_118 : decode cX4_readPiece 118 = .ok (.invokevirtual 105, 3) := by decide +kernel
theorem dX4_readPiece_121 : decode cX4_readPiece 121 = .ok (.return_, 1) := by decide +kernel
theorem dX4_readClosing_0 : decode cX4_readClosing 0 = .ok (.aload_n 0, 1) := by decide +kernel
theorem dX4_readClosing_1 : decode cX4_readClosing 1 = .ok (.getfield 30, 3) := by decide +kernel
theorem dX4_readClosing_4 : decode cX4_readClosing 4 = .ok (.ldc 29, 2) := by decide +kernel
theorem dX4_readClosing_6 : decode cX4_readClosing 6 = .ok (.if_icmp .eq 4, 3) := by decide +kernel
theorem dX4_readClosing_9 : decode cX4_readClosing 9 = .ok (.return_, 1) := by decide +kernel
theorem dX4_readClosing_10 : decode cX4_readClosing 10 = .ok (.aload_n 0, 1) := by decide +kernel
theorem dX4_readClosing_11 : decode cX4_readClosing 11 = .ok (.invokevirtual 40, 3) := by decide +kernel
theorem dX4_readClosing_14 : decode cX4_readClosing 14 = .ok (.bipush 41, 2) := by decide +kernel
theorem dX4_readClosing_16 : decode cX4_readClosing 16 = .ok (.if_icmp .ne 16, 3) := by decide +kernel
theorem dX4_readClosing_19 : decode cX4_readClosing 19 = .ok (.aload_n 0, 1) := by decide +kernel
theorem dX4_readClosing_20 : decode cX4_readClosing 20 = .ok (.dup, 1) := by decide +kernel
theorem dX4_readClosing_21 : decode cX4_readClosing 21 = .ok (.getfield 25, 3) := by decide +kernel
theorem dX4_readClosing_24 : decode cX4_readClosing 24 = .ok (.iconst 1, 1) := by decide +kernel
theorem dX4_readClosing_25 : decode cX4_readClosing 25 = .ok (.iadd, 1) := by decide +kernel
theorem dX4_readClosing_26 : decode cX4_readClosing 26 = .ok (.putfield 25, 3) := by decide +kernel
theorem dX4_readClosing_29 : decode cX4_readClosing 29 = .ok (.goto 11, 3) := by decide +kernel
theorem dX4_readClosing_32 : decode cX4_readClosing 32 = .ok (.aload_n 0, 1) := by decide +kernel
theorem dX4_readClosing_33 : decode cX4_readClosing 33 = .ok (.aload_n 0, 1) := by decide +kernel
theorem dX4_readClosing_34 : decode cX4_readClosing 34 = .ok (.getfield 25, 3) := by decide +kernel
theorem dX4_readClosing_37 : decode cX4_readClosing 37 = .ok (.putfield 30, 3) := by decide +kernel
theorem dX4_readClosing_40 : decode cX4_readClosing 40 = .ok (.return_, 1) := by decide +kernel
theorem dX4_readNumber_0 : decode cX4_readNumber 0 = .ok (.aload_n 0, 1) := by decide +kernel
theorem dX4_readNumber_1 : decode cX4_readNumber 1 = .ok (.getfield 18, 3) := by decide +kernel
theorem dX4_readNumber_4 : decode cX4_readNumber 4 = .ok (.aload_n 0, 1) := by decide +kernel
theorem dX4_readNumber_5 : decode cX4_readNumber 5 = .ok (.getfield 25, 3) := by decide +kernel
theorem dX4_readNumber_8 : decode cX4_readNumber 8 = .ok (.invokevirtual 57, 3) := by decide +kernel
theorem dX4_readNumber_11 : decode cX4_readNumber 11 = .ok (.istore_n 1, 1) := by decide +kernel
theorem dX4_readNumber_12 : decode cX4_readNumber 12 = .ok (.aload_n 0, 1) := by decide +kernel
theorem dX4_readNumber_13 : decode cX4_readNumber 13 = .ok (.getfield 25, 3) := by decide +kernel
theorem dX4_readNumber_16 : decode cX4_readNumber 16 = .ok (.aload_n 0, 1) := by decide +kernel
theorem dX4_readNumber_17 : decode cX4_readNumber 17 = .ok (.getfield 60, 3) := by decide +kernel
theorem dX4_readNumber_20 : decode cX4_readNumber 20 = .ok (.if_icmp .eq 13, 3) := by decide +kernel
theorem dX4_readNumber_23 : decode cX4_readNumber 23 = .ok (.iload_n 1, 1) := by decide +kernel
theorem dX4_readNumber_24 : decode cX4_readNumber 24 = .ok (.aload_n 0, 1) := by decide +kernel
theorem dX4_readNumber_25 : decode cX4_readNumber 25 = .ok (.getfield 25, 3) := by decide +kernel
theorem dX4_readNumber_28 : decode cX4_readNumber 28 = .ok (.isub, 1) := by decide +kernel
theorem dX4_readNumber_29 : decode cX4_readNumber 29 = .ok (.iconst 4, 1) := by decide +kernel
theorem dX4_readNumber_30 : decode cX4_readNumber 30 = .ok (.if_icmp .le 12, 3) := by decide +kernel
theorem dX4_readNumber_33 : decode cX4_readNumber 33 = .ok (.aload_n 0, 1) := by decide +kernel
theorem dX4_readNumber_34 : decode cX4_readNumber 34 = .ok (.aload_n 0, 1) := by decide +kernel
theorem dX4_readNumber_35 : decode cX4_readNumber 35 = .ok (.getfield 25, 3) := by decide +kernel
theorem dX4_readNumber_38 : decode cX4_readNumber 38 = .ok (.putfield 30, 3) := by decide +kernel
theorem dX4_readNumber_41 : decode cX4_readNumber 41 = .ok (.return_, 1) := by decide +kernel
theorem dX4_readNumber_42 : decode cX4_readNumber 42 = .ok (.iconst 0, 1) := by decide +kernel
theorem dX4_readNumber_43 : decode cX4_readNumber 43 = .ok (.istore_n 2, 1) := by decide +kernel
theorem dX4_readNumber_44 : decode cX4_readNumber 44 = .ok (.aload_n 0, 1) := by decide +kernel
theorem dX4_readNumber_45 : decode cX4_readNumber 45 = .ok (.getfield 25, 3) := by decide +kernel
theorem dX4_readNumber_48 : decode cX4_readNumber 48 = .ok (.istore_n 3, 1) := by decide +kernel
theorem dX4_readNumber_49 : decode cX4_readNumber 49 = .ok (.iload_n 3, 1) := by decide +kernel
theorem dX4_readNumber_50 : decode cX4_readNumber 50 = .ok (.iload_n 1, 1) := by decide +kernel
theorem dX4_readNumber_51 : decode cX4_readNumber 51 = .ok (.if_icmp .ge 26, 3) := by decide +kernel
theorem dX4_readNumber_54 : decode cX4_readNumber 54 = .ok (.iload_n 2, 1) := by decide +kernel
theorem dX4_readNumber_55 : decode cX4_readNumber 55 = .ok (.bipush 10, 2) := by decide +kernel
theorem dX4_readNumber_57 : decode cX4_readNumber 57 = .ok (.imul, 1) := by decide +kernel
theorem dX4_readNumber_58 : decode cX4_readNumber 58 = .ok (.aload_n 0, 1) := by decide +kernel
theorem dX4_readNumber_59 : decode cX4_readNumber 59 = .ok (.getfield 18, 3) := by decide +kernel
theorem dX4_readNumber_62 : decode cX4_readNumber 62 = .ok (.iload_n 3, 1) := by decide +kernel
theorem dX4_readNumber_63 : decode cX4_readNumber 63 = .ok (.invokevirtual 53, 3) := by decide +kernel
theorem dX4_readNumber_66 : decode cX4_readNumber 66 = .ok (.iadd, 1) := by decide +kernel
theorem dX4_readNumber_67 : decode cX4_readNumber 67 = .ok (.bipush 48, 2) := by decide +kernel
theorem dX4_readNumber_69 : decode cX4_readNumber 69 = .ok (.isub, 1) := by decide +kernel
theorem dX4_readNumber_70 : decode cX4_readNumber 70 = .ok (.istore_n 2, 1) := by decide +kernel
theorem dX4_readNumber_71 : decode cX4_readNumber 71 = .ok (.iinc 3 1, 3) := by decide +kernel
theorem dX4_readNumber_74 : decode cX4_readNumber 74 = .ok (.goto (-25), 3) := by decide +kernel
theorem dX4_readNumber_77 : decode cX4_readNumber 77 = .ok (.aload_n 0, 1) := by decide +kernel
theorem dX4_readNumber_78 : decode cX4_readNumber 78 = .ok (.getfield 12, 3) := by decide +kernel
theorem dX4_readNumber_81 : decode cX4_readNumber 81 = .ok (.iload_n 2, 1) := by decide +kernel
theorem dX4_readNumber_82 : decode cX4_readNumber 82 = .ok (.invokevirtual 108, 3) := by decide +kernel
theorem dX4_readNumber_85 : decode cX4_readNumber 85 = .ok (.aload_n 0, 1) := by decide +kernel
theorem dX4_readNumber_86 : decode cX4_readNumber 86 = .ok (.iload_n 1, 1) := by decide +kernel
theorem dX4_readNumber_87 : decode cX4_readNumber 87 = .ok (.putfield 25, 3) := by decide +kernel
theorem dX4_readNumber_90 : decode cX4_readNumber 90 = .ok (.return_, 1) := by decide +kernel
theorem dX4_readName_0 : decode cX4_readName 0 = .ok (.aload_n 0, 1) := by decide +kernel
theorem dX4_readName_1 : decode cX4_readName 1 = .ok (.iload_n 1, 1) := by decide +kernel
theorem dX4_readName_2 : decode cX4_readName 2 = .ok (.invokevirtual 111, 3) := by decide +kernel
theorem dX4_readName_5 : decode cX4_readName 5 = .ok (.ifCond .eq 23, 3) := by decide +kernel
theorem dX4_readName_8 : decode cX4_readName 8 = .ok (.aload_n 0, 1) := by decide +kernel
theorem dX4_readName_9 : decode cX4_readName 9 = .ok (.getfield 18, 3) := by decide +kernel
theorem dX4_readName_12 : decode cX4_readName 12 = .ok (.aload_n 0, 1) := by decide +kernel
theorem dX4_readName_13 : decode cX4_readName 13 = .ok (.getfield 25, 3) := by decide +kernel
theorem dX4_readName_16 : decode cX4_readName 16 = .ok (.invokevirtual 57, 3) := by decide +kernel
theorem dX4_readName_19 : decode cX4_readName 19 = .ok (.aload_n 0, 1) := by decide +kernel
theorem dX4_readName_20 : decode cX4_readName 20 = .ok (.getfield 25, 3) := by decide +kernel
theorem dX4_readName_23 : decode cX4_readName 23 = .ok (.iconst 1, 1) := by decide +kernel
theorem dX4_readName_24 : decode cX4_readName 24 = .ok (.iadd, 1) := by decide +kernel
theorem dX4_readName_25 : decode cX4_readName 25 = .ok (.if_icmp .eq 12, 3) := by decide +kernel
theorem dX4_readName_28 : decode cX4_readName 28 = .ok (.aload_n 0, 1) := by decide +kernel
theorem dX4_readName_29 : decode cX4_readName 29 = .ok (.aload_n 0, 1) := by decide +kernel
theorem dX4_readName_30 : decode cX4_readName 30 = .ok (.getfield 25, 3) := by decide +kernel
theorem dX4_readName_33 : decode cX4_readName 33 = .ok (.putfield 30, 3) := by decide +kernel
theorem dX4_readName_36 : decode cX4_readName 36 = .ok (.return_, 1) := by decide +kernel
theorem dX4_readName_37 : decode cX4_readName 37 = .ok (.aload_n 0, 1) := by decide +kernel
theorem dX4_readName_38 : decode cX4_readName 38 = .ok (.getfield 12, 3) := by decide +kernel
theorem dX4_readName_41 : decode cX4_readName 41 = .ok (.iload_n 1, 1) := by decide +kernel
theorem dX4_readName_42 : decode cX4_readName 42 = .ok (.ineg, 1) := by decide +kernel
theorem dX4_readName_43 : decode cX4_readName 43 = .ok (.invokevirtual 108, 3) := by decide +kernel
theorem dX4_readName_46 : decode cX4_readName 46 = .ok (.aload_n 0, 1) := by decide +kernel
theorem dX4_readName_47 : decode cX4_readName 47 = .ok (.dup, 1) := by decide +kernel
theorem dX4_readName_48 : decode cX4_readName 48 = .ok (.getfield 25, 3) := by decide +kernel
theorem dX4_readName_51 : decode cX4_readName 51 = .ok (.iconst 1, 1) := by decide +kernel
theorem dX4_readName_52 : decode cX4_readName 52 = .ok (.iadd, 1) := by decide +kernel
theorem dX4_readName_53 : decode cX4_readName 53 = .ok (.putfield 25, 3) := by decide +kernel
theorem dX4_readName_56 : decode cX4_readName 56 = .ok (.return_, 1) := by decide +kernel
theorem dX4_isName_0 : decode cX4_isName 0 = .ok (.iload_n 1, 1) := by decide +kernel
theorem dX4_isName_1 : decode cX4_isName 1 = .ok (.lookupswitch 103 #[(100, 53), (108, 53), (114, 69), (115, 51), (117, 86)], 51) := by decide +kernel
theorem dX4_isName_52 : decode cX4_isName 52 = .ok (.iconst 1, 1) := by decide +kernel
theorem dX4_isName_53 : decode cX4_isName 53 = .ok (.ireturn, 1) := by decide +kernel
theorem dX4_isName_54 : decode cX4_isName 54 = .ok (.aload_n 0, 1) := by decide +kernel
theorem dX4_isName_55 : decode cX4_isName 55 = .ok (.getfield 12, 3) := by decide +kernel
theorem dX4_isName_58 : decode cX4_isName 58 = .ok (.getfield 69, 3) := by decide +kernel
theorem dX4_isName_61 : decode cX4_isName 61 = .ok (.ifCond .ne 7, 3) := by decide +kernel
theorem dX4_isName_64 : decode cX4_isName 64 = .ok (.iconst 1, 1) := by decide +kernel
theorem dX4_isName_65 : decode cX4_isName 65 = .ok (.goto 4, 3) := by decide +kernel
theorem dX4_isName_68 : decode cX4_isName 68 = .ok (.iconst 0, 1) := by decide +kernel
theorem dX4_isName_69 : decode cX4_isName 69 = .ok (.ireturn, 1) := by decide +kernel
theorem dX4_isName_70 : decode cX4_isName 70 = .ok (.aload_n 0, 1) := by decide +kernel
theorem dX4_isName_71 : decode cX4_isName 71 = .ok (.getfield 12, 3) := by decide +kernel
theorem dX4_isName_74 : decode cX4_isName 74 = .ok (.getfield 69, 3) := by decide +kernel
theorem dX4_isName_77 : decode cX4_isName 77 = .ok (.iconst 1, 1) := by decide +kernel
theorem dX4_isName_78 : decode cX4_isName 78 = .ok (.if_icmp .ne 7, 3) := by decide +kernel
theorem dX4_isName_81 : decode cX4_isName 81 = .ok (.iconst 1, 1) := by decide +kernel
theorem dX4_isName_82 : decode cX4_isName 82 = .ok (.goto 4, 3) := by decide +kernel
theorem dX4_isName_85 : decode cX4_isName 85 = .ok (.iconst 0, 1) := by decide +kernel
theorem dX4_isName_86 : decode cX4_isName 86 = .ok (.ireturn, 1) := by decide +kernel
theorem dX4_isName_87 : decode cX4_isName 87 = .ok (.aload_n 0, 1) := by decide +kernel
theorem dX4_isName_88 : decode cX4_isName 88 = .ok (.getfield 12, 3) := by decide +kernel
theorem dX4_isName_91 : decode cX4_isName 91 = .ok (.getfield 69, 3) := by decide +kernel
theorem dX4_isName_94 : decode cX4_isName 94 = .ok (.iconst 2, 1) := by decide +kernel
theorem dX4_isName_95 : decode cX4_isName 95 = .ok (.if_icmp .ne 7, 3) := by decide +kernel
theorem dX4_isName_98 : decode cX4_isName 98 = .ok (.iconst 1, 1) := by decide +kernel
theorem dX4_isName_99 : decode cX4_isName 99 = .ok (.goto 4, 3) := by decide +kernel
theorem dX4_isName_102 : decode cX4_isName 102 = .ok (.iconst 0, 1) := by decide +kernel
theorem dX4_isName_103 : decode cX4_isName 103 = .ok (.ireturn, 1) := by decide +kernel
theorem dX4_isName_104 : decode cX4_isName 104 = .ok (.iconst 0, 1) := by decide +kernel
theorem dX4_isName_105 : decode cX4_isName 105 = .ok (.ireturn, 1) := by decide +kernel
theorem dX5_init_0 : decode cX5_init 0 = .ok (.aload_n 0, 1) := by decide +kernel
theorem dX5_init_1 : decode cX5_init 1 = .ok (.invokespecial 3, 3) := by decide +kernel
theorem dX5_init_4 : decode cX5_init 4 = .ok (.aload_n 0, 1) := by decide +kernel
theorem dX5_init_5 : decode cX5_init 5 = .ok (.iconst (-1), 1) := by decide +kernel
theorem dX5_init_6 : decode cX5_init 6 = .ok (.putfield 9, 3) := by decide +kernel
theorem dX5_init_9 : decode cX5_init 9 = .ok (.aload_n 0, 1) := by decide +kernel
theorem dX5_init_10 : decode cX5_init 10 = .ok (.bipush 24, 2) := by decide +kernel
theorem dX5_init_12 : decode cX5_init 12 = .ok (.newarray .int, 2) := by decide +kernel
theorem dX5_init_14 : decode cX5_init 14 = .ok (.putfield 15, 3) := by decide +kernel
theorem dX5_init_17 : decode cX5_init 17 = .ok (.return_, 1) := by decide +kernel
theorem dX5_renew_0 : decode cX5_renew 0 = .ok (.aload_n 0, 1) := by decide +kernel
theorem dX5_renew_1 : decode cX5_renew 1 = .ok (.iload_n 1, 1) := by decide +kernel
theorem dX5_renew_2 : decode cX5_renew 2 = .ok (.putfield 9, 3) := by decide +kernel
theorem dX5_renew_5 : decode cX5_renew 5 = .ok (.aload_n 0, 1) := by decide +kernel
theorem dX5_renew_6 : decode cX5_renew 6 = .ok (.iload_n 2, 1) := by decide +kernel
theorem dX5_renew_7 : decode cX5_renew 7 = .ok (.putfield 19, 3) := by decide +kernel
theorem dX5_renew_10 : decode cX5_renew 10 = .ok (.iconst 0, 1) := by decide +kernel
theorem dX5_renew_11 : decode cX5_renew 11 = .ok (.istore_n 3, 1) := by decide +kernel
theorem dX5_renew_12 : decode cX5_renew 12 = .ok (.iload_n 3, 1) := by decide +kernel
theorem dX5_renew_13 : decode cX5_renew 13 = .ok (.bipush 24, 2) := by decide +kernel
theorem dX5_renew_15 : decode cX5_renew 15 = .ok (.if_icmp .ge 16, 3) := by decide +kernel
theorem dX5_renew_18 : decode cX5_renew 18 = .ok (.aload_n 0, 1) := by decide +kernel
theorem dX5_renew_19 : decode cX5_renew 19 = .ok (.getfield 15, 3) := by decide +kernel
theorem dX5_renew_22 : decode cX5_renew 22 = .ok (.iload_n 3, 1) := by decide +kernel
theorem dX5_renew_23 : decode cX5_renew 23 = .ok (.iconst 0, 1) := by decide +kernel
theorem dX5_renew_24 : decode cX5_renew 24 = .ok (.iastore, 1) := by decide +kernel
theorem dX5_renew_25 : decode cX5_renew 25 = .ok (.iinc 3 1, 3) := by decide +kernel
theorem dX5_renew_28 : decode cX5_renew 28 = .ok (.goto (-16), 3) := by decide +kernel
theorem dX5_renew_31 : decode cX5_renew 31 = .ok (.return_, 1) := by decide +kernel
theorem dX5_become_0 : decode cX5_become 0 = .ok (.aload_n 0, 1) := by decide +kernel
theorem dX5_become_1 : decode cX5_become 1 = .ok (.aload_n 1, 1) := by decide +kernel
theorem dX5_become_2 : decode cX5_become 2 = .ok (.getfield 9, 3) := by decide +kernel
theorem dX5_become_5 : decode cX5_become 5 = .ok (.putfield 9, 3) := by decide +kernel
theorem dX5_become_8 : decode cX5_become 8 = .ok (.aload_n 0, 1) := by decide +kernel
theorem dX5_become_9 : decode cX5_become 9 = .ok (.aload_n 1, 1) := by decide +kernel
theorem dX5_become_10 : decode cX5_become 10 = .ok (.getfield 19, 3) := by decide +kernel
theorem dX5_become_13 : decode cX5_become 13 = .ok (.putfield 19, 3) := by decide +kernel
theorem dX5_become_16 : decode cX5_become 16 = .ok (.aload_n 1, 1) := by decide +kernel
theorem dX5_become_17 : decode cX5_become 17 = .ok (.getfield 15, 3) := by decide +kernel
theorem dX5_become_20 : decode cX5_become 20 = .ok (.iconst 0, 1) := by decide +kernel
theorem dX5_become_21 : decode cX5_become 21 = .ok (.aload_n 0, 1) := by decide +kernel
theorem dX5_become_22 : decode cX5_become 22 = .ok (.getfield 15, 3) := by decide +kernel
theorem dX5_become_25 : decode cX5_become 25 = .ok (.iconst 0, 1) := by decide +kernel
theorem dX5_become_26 : decode cX5_become 26 = .ok (.bipush 24, 2) := by decide +kernel
theorem dX5_become_28 : decode cX5_become 28 = .ok (.invokestatic 22, 3) := by decide +kernel
theorem dX5_become_31 : decode cX5_become 31 = .ok (.return_, 1) := by decide +kernel
theorem dX5_hasPlace_0 : decode cX5_hasPlace 0 = .ok (.iload_n 1, 1) := by decide +kernel
theorem dX5_hasPlace_1 : decode cX5_hasPlace 1 = .ok (.iconst 0, 1) := by decide +kernel
theorem dX5_hasPlace_2 : decode cX5_hasPlace 2 = .ok (.aload_n 0, 1) := by decide +kernel
theorem dX5_hasPlace_3 : decode cX5_hasPlace 3 = .ok (.getfield 19, 3) := by decide +kernel
theorem dX5_hasPlace_6 : decode cX5_hasPlace 6 = .ok (.iconst 1, 1) := by decide +kernel
theorem dX5_hasPlace_7 : decode cX5_hasPlace 7 = .ok (.isub, 1) := by decide +kernel
theorem dX5_hasPlace_8 : decode cX5_hasPlace 8 = .ok (.invokestatic 28, 3) := by decide +kernel
theorem dX5_hasPlace_11 : decode cX5_hasPlace 11 = .ok (.ireturn, 1) := by decide +kernel
theorem dX5_hasPlaces_0 : decode cX5_hasPlaces 0 = .ok (.iload_n 2, 1) := by decide +kernel
theorem dX5_hasPlaces_1 : decode cX5_hasPlaces 1 = .ok (.ifCond .lt 29, 3) := by decide +kernel
theorem dX5_hasPlaces_4 : decode cX5_hasPlaces 4 = .ok (.iload_n 1, 1) := by decide +kernel
theorem dX5_hasPlaces_5 : decode cX5_hasPlaces 5 = .ok (.iconst 0, 1) := by decide +kernel
theorem dX5_hasPlaces_6 : decode cX5_hasPlaces 6 = .ok (.aload_n 0, 1) := by decide +kernel
theorem dX5_hasPlaces_7 : decode cX5_hasPlaces 7 = .ok (.getfield 19, 3) := by decide +kernel
theorem dX5_hasPlaces_10 : decode cX5_hasPlaces 10 = .ok (.invokestatic 28, 3) := by decide +kernel
theorem dX5_hasPlaces_13 : decode cX5_hasPlaces 13 = .ok (.ifCond .eq 17, 3) := by decide +kernel
theorem dX5_hasPlaces_16 : decode cX5_hasPlaces 16 = .ok (.iload_n 2, 1) := by decide +kernel
theorem dX5_hasPlaces_17 : decode cX5_hasPlaces 17 = .ok (.aload_n 0, 1) := by decide +kernel
theorem dX5_hasPlaces_18 : decode cX5_hasPlaces 18 = .ok (.getfield 19, 3) := by decide +kernel
theorem dX5_hasPlaces_21 : decode cX5_hasPlaces 21 = .ok (.iload_n 1, 1) := by decide +kernel
theorem dX5_hasPlaces_22 : decode cX5_hasPlaces 22 = .ok (.isub, 1) := by decide +kernel
theorem dX5_hasPlaces_23 : decode cX5_hasPlaces 23 = .ok (.if_icmp .gt 7, 3) := by decide +kernel
theorem dX5_hasPlaces_26 : decode cX5_hasPlaces 26 = .ok (.iconst 1, 1) := by decide +kernel
theorem dX5_hasPlaces_27 : decode cX5_hasPlaces 27 = .ok (.goto 4, 3) := by decide +kernel
theorem dX5_hasPlaces_30 : decode cX5_hasPlaces 30 = .ok (.iconst 0, 1) := by decide +kernel
theorem dX5_hasPlaces_31 : decode cX5_hasPlaces 31 = .ok (.ireturn, 1) := by decide +kernel
theorem dX5_isNumber_0 : decode cX5_isNumber 0 = .ok (.aload_n 0, 1) := by decide +kernel
theorem dX5_isNumber_1 : decode cX5_isNumber 1 = .ok (.getfield 15, 3) := by decide +kernel
theorem dX5_isNumber_4 : decode cX5_isNumber 4 = .ok (.iload_n 1, 1) := by decide +kernel
theorem dX5_isNumber_5 : decode cX5_isNumber 5 = .ok (.iaload, 1) := by decide +kernel
theorem dX5_isNumber_6 : decode cX5_isNumber 6 = .ok (.ldc 32, 2) := by decide +kernel
theorem dX5_isNumber_8 : decode cX5_isNumber 8 = .ok (.if_icmp .eq 7, 3) := by decide +kernel
theorem dX5_isNumber_11 : decode cX5_isNumber 11 = .ok (.iconst 1, 1) := by decide +kernel
theorem dX5_isNumber_12 : decode cX5_isNumber 12 = .ok (.goto 4, 3) := by decide +kernel
theorem dX5_isNumber_15 : decode cX5_isNumber 15 = .ok (.iconst 0, 1) := by decide +kernel
theorem dX5_isNumber_16 : decode cX5_isNumber 16 = .ok (.ireturn, 1) := by decide +kernel
theorem dX6_init_0 : decode cX6_init 0 = .ok (.aload_n 0, 1) := by decide +kernel
theorem dX6_init_1 : decode cX6_init 1 = .ok (.invokespecial 3, 3) := by decide +kernel
theorem dX6_init_4 : decode cX6_init 4 = .ok (.aload_n 0, 1) := by decide +kernel
theorem dX6_init_5 : decode cX6_init 5 = .ok (.iconst 0, 1) := by decide +kernel
theorem dX6_init_6 : decode cX6_init 6 = .ok (.putfield 9, 3) := by decide +kernel
theorem dX6_init_9 : decode cX6_init 9 = .ok (.aload_n 0, 1) := by decide +kernel
theorem dX6_init_10 : decode cX6_init 10 = .ok (.new 15, 3) := by decide +kernel
theorem dX6_init_13 : decode cX6_init 13 = .ok (.dup, 1) := by decide +kernel
theorem dX6_init_14 : decode cX6_init 14 = .ok (.invokespecial 17, 3) := by decide +kernel
theorem dX6_init_17 : decode cX6_init 17 = .ok (.putfield 18, 3) := by decide +kernel
theorem dX6_init_20 : decode cX6_init 20 = .ok (.return_, 1) := by decide +kernel
theorem dX7_init_0 : decode cX7_init 0 = .ok (.aload_n 0, 1) := by decide +kernel
theorem dX7_init_1 : decode cX7_init 1 = .ok (.invokespecial 3, 3) := by decide +kernel
theorem dX7_init_4 : decode cX7_init 4 = .ok (.aload_n 0, 1) := by decide +kernel
theorem dX7_init_5 : decode cX7_init 5 = .ok (.bipush 96, 2) := by decide +kernel
theorem dX7_init_7 : decode cX7_init 7 = .ok (.newarray .int, 2) := by decide +kernel
theorem dX7_init_9 : decode cX7_init 9 = .ok (.putfield 9, 3) := by decide +kernel
theorem dX7_init_12 : decode cX7_init 12 = .ok (.return_, 1) := by decide +kernel
theorem dX7_hasRoomFor_0 : decode cX7_hasRoomFor 0 = .ok (.aload_n 0, 1) := by decide +kernel
theorem dX7_hasRoomFor_1 : decode cX7_hasRoomFor 1 = .ok (.getfield 15, 3) := by decide +kernel
theorem dX7_hasRoomFor_4 : decode cX7_hasRoomFor 4 = .ok (.iload_n 1, 1) := by decide +kernel
theorem dX7_hasRoomFor_5 : decode cX7_hasRoomFor 5 = .ok (.iadd, 1) := by decide +kernel
theorem dX7_hasRoomFor_6 : decode cX7_hasRoomFor 6 = .ok (.bipush 96, 2) := by decide +kernel
theorem dX7_hasRoomFor_8 : decode cX7_hasRoomFor 8 = .ok (.if_icmp .gt 7, 3) := by decide +kernel
theorem dX7_hasRoomFor_11 : decode cX7_hasRoomFor 11 = .ok (.iconst 1, 1) := by decide +kernel
theorem dX7_hasRoomFor_12 : decode cX7_hasRoomFor 12 = .ok (.goto 4, 3) := by decide +kernel
theorem dX7_hasRoomFor_15 : decode cX7_hasRoomFor 15 = .ok (.iconst 0, 1) := by decide +kernel
theorem dX7_hasRoomFor_16 : decode cX7_hasRoomFor 16 = .ok (.ireturn, 1) := by decide +kernel
theorem dX7_takeInt_0 : decode cX7_takeInt 0 = .ok (.bipush 24, 2) := by decide +kernel
theorem dX7_takeInt_2 : decode cX7_takeInt 2 = .ok (.istore_n 2, 1) := by decide +kernel
theorem dX7_takeInt_3 : decode cX7_takeInt 3 = .ok (.iload_n 2, 1) := by decide +kernel
theorem dX7_takeInt_4 : decode cX7_takeInt 4 = .ok (.ifCond .lt 44, 3) := by decide +kernel
theorem dX7_takeInt_7 : decode cX7_takeInt 7 = .ok (.aload_n 0, 1) := by decide +kernel
theorem dX7_takeInt_8 : decode cX7_takeInt 8 = .ok (.getfield 15, 3) := by decide +kernel
theorem dX7_takeInt_11 : decode cX7_takeInt 11 = .ok (.bipush 96, 2) := by decide +kernel
theorem dX7_takeInt_13 : decode cX7_takeInt 13 = .ok (.if_icmp .ge 35, 3) := by decide +kernel
theorem dX7_takeInt_16 : decode cX7_takeInt 16 = .ok (.aload_n 0, 1) := by decide +kernel
theorem dX7_takeInt_17 : decode cX7_takeInt 17 = .ok (.getfield 9, 3) := by decide +kernel
theorem dX7_takeInt_20 : decode cX7_takeInt 20 = .ok (.aload_n 0, 1) := by decide +kernel
theorem dX7_takeInt_21 : decode cX7_takeInt 21 = .ok (.getfield 15, 3) := by decide +kernel
theorem dX7_takeInt_24 : decode cX7_takeInt 24 = .ok (.iload_n 1, 1) := by decide +kernel
theorem dX7_takeInt_25 : decode cX7_takeInt 25 = .ok (.iload_n 2, 1) := by decide +kernel
theorem dX7_takeInt_26 : decode cX7_takeInt 26 = .ok (.iushr, 1) := by decide +kernel
theorem dX7_takeInt_27 : decode cX7_takeInt 27 = .ok (.sipush 255, 3) := by decide +kernel
theorem dX7_takeInt_30 : decode cX7_takeInt 30 = .ok (.iand, 1) := by decide +kernel
theorem dX7_takeInt_31 : decode cX7_takeInt 31 = .ok (.iastore, 1) := by decide +kernel
theorem dX7_takeInt_32 : decode cX7_takeInt 32 = .ok (.aload_n 0, 1) := by decide +kernel
theorem dX7_takeInt_33 : decode cX7_takeInt 33 = .ok (.dup, 1) := by decide +kernel
theorem dX7_takeInt_34 : decode cX7_takeInt 34 = .ok (.getfield 15, 3) := by decide +kernel
theorem dX7_takeInt_37 : decode cX7_takeInt 37 = .ok (.iconst 1, 1) := by decide +kernel
theorem dX7_takeInt_38 : decode cX7_takeInt 38 = .ok (.iadd, 1) := by decide +kernel
theorem dX7_takeInt_39 : decode cX7_takeInt 39 = .ok (.putfield 15, 3) := by decide +kernel
theorem dX7_takeInt_42 : decode cX7_takeInt 42 = .ok (.iinc 2 (-8), 3) := by decide +kernel
theorem dX7_takeInt_45 : decode cX7_takeInt 45 = .ok (.goto (-42), 3) := by decide +kernel
theorem dX7_takeInt_48 : decode cX7_takeInt 48 = .ok (.return_, 1) := by decide +kernel
theorem dX7_byteAt_0 : decode cX7_byteAt 0 = .ok (.iload_n 1, 1) := by decide +kernel
theorem dX7_byteAt_1 : decode cX7_byteAt 1 = .ok (.aload_n 0, 1) := by decide +kernel
theorem dX7_byteAt_2 : decode cX7_byteAt 2 = .ok (.getfield 15, 3) := by decide +kernel
theorem dX7_byteAt_5 : decode cX7_byteAt 5 = .ok (.if_icmp .ge 12, 3) := by decide +kernel
theorem dX7_byteAt_8 : decode cX7_byteAt 8 = .ok (.aload_n 0, 1) := by decide +kernel
theorem dX7_byteAt_9 : decode cX7_byteAt 9 = .ok (.getfield 9, 3) := by decide +kernel
theorem dX7_byteAt_12 : decode cX7_byteAt 12 = .ok (.iload_n 1, 1) := by decide +kernel
theorem dX7_byteAt_13 : decode cX7_byteAt 13 = .ok (.iaload, 1) := by decide +kernel
theorem dX7_byteAt_14 : decode cX7_byteAt 14 = .ok (.goto 5, 3) := by decide +kernel
theorem dX7_byteAt_17 : decode cX7_byteAt 17 = .ok (.ldc 19, 2) := by decide +kernel
theorem dX7_byteAt_19 : decode cX7_byteAt 19 = .ok (.ireturn, 1) := by decide +kernel
theorem dX7_isLetterAt_0 : decode cX7_isLetterAt 0 = .ok (.aload_n 0, 1) := by decide +kernel
theorem dX7_isLetterAt_1 : decode cX7_isLetterAt 1 = .ok (.iload_n 1, 1) := by decide +kernel
theorem dX7_isLetterAt_2 : decode cX7_isLetterAt 2 = .ok (.invokevirtual 20, 3) := by decide +kernel
theorem dX7_isLetterAt_5 : decode cX7_isLetterAt 5 = .ok (.istore_n 2, 1) := by decide +kernel
theorem dX7_isLetterAt_6 : decode cX7_isLetterAt 6 = .ok (.iload_n 2, 1) := by decide +kernel
theorem dX7_isLetterAt_7 : decode cX7_isLetterAt 7 = .ok (.bipush 97, 2) := by decide +kernel
theorem dX7_isLetterAt_9 : decode cX7_isLetterAt 9 = .ok (.if_icmp .lt 13, 3) := by decide +kernel
theorem dX7_isLetterAt_12 : decode cX7_isLetterAt 12 = .ok (.iload_n 2, 1) := by decide +kernel
theorem dX7_isLetterAt_13 : decode cX7_isLetterAt 13 = .ok (.bipush 122, 2) := by decide +kernel
theorem dX7_isLetterAt_15 : decode cX7_isLetterAt 15 = .ok (.if_icmp .gt 7, 3) := by decide +kernel
theorem dX7_isLetterAt_18 : decode cX7_isLetterAt 18 = .ok (.iconst 1, 1) := by decide +kernel
theorem dX7_isLetterAt_19 : decode cX7_isLetterAt 19 = .ok (.goto 4, 3) := by decide +kernel
theorem dX7_isLetterAt_22 : decode cX7_isLetterAt 22 = .ok (.iconst 0, 1) := by decide +kernel
theorem dX7_isLetterAt_23 : decode cX7_isLetterAt 23 = .ok (.ireturn, 1) := by decide +kernel
theorem dX7_isDigitAt_0 : decode cX7_isDigitAt 0 = .ok (.aload_n 0, 1) := by decide +kernel
theorem dX7_isDigitAt_1 : decode cX7_isDigitAt 1 = .ok (.iload_n 1, 1) := by decide +kernel
theorem dX7_isDigitAt_2 : decode cX7_isDigitAt 2 = .ok (.invokevirtual 20, 3) := by decide +kernel
theorem dX7_isDigitAt_5 : decode cX7_isDigitAt 5 = .ok (.istore_n 2, 1) := by decide +kernel
theorem dX7_isDigitAt_6 : decode cX7_isDigitAt 6 = .ok (.iload_n 2, 1) := by decide +kernel
theorem dX7_isDigitAt_7 : decode cX7_isDigitAt 7 = .ok (.bipush 48, 2) := by decide +kernel
theorem dX7_isDigitAt_9 : decode cX7_isDigitAt 9 = .ok (.if_icmp .lt 13, 3) := by decide +kernel
theorem dX7_isDigitAt_12 : decode cX7_isDigitAt 12 = .ok (.iload_n 2, 1) := by decide +kernel
theorem dX7_isDigitAt_13 : decode cX7_isDigitAt 13 = .ok (.bipush 57, 2) := by decide +kernel
theorem dX7_isDigitAt_15 : decode cX7_isDigitAt 15 = .ok (.if_icmp .gt 7, 3) := by decide +kernel
theorem dX7_isDigitAt_18 : decode cX7_isDigitAt 18 = .ok (.iconst 1, 1) := by decide +kernel
theorem dX7_isDigitAt_19 : decode cX7_isDigitAt 19 = .ok (.goto 4, 3) := by decide +kernel
theorem dX7_isDigitAt_22 : decode cX7_isDigitAt 22 = .ok (.iconst 0, 1) := by decide +kernel
theorem dX7_isDigitAt_23 : decode cX7_isDigitAt 23 = .ok (.ireturn, 1) := by decide +kernel
theorem dX7_wordEnd_0 : decode cX7_wordEnd 0 = .ok (.aload_n 0, 1) := by decide +kernel
theorem dX7_wordEnd_1 : decode cX7_wordEnd 1 = .ok (.iload_n 1, 1) := by decide +kernel
theorem dX7_wordEnd_2 : decode cX7_wordEnd 2 = .ok (.invokevirtual 24, 3) := by decide +kernel
theorem dX7_wordEnd_5 : decode cX7_wordEnd 5 = .ok (.istore_n 2, 1) := by decide +kernel
theorem dX7_wordEnd_6 : decode cX7_wordEnd 6 = .ok (.iload_n 1, 1) := by decide +kernel
theorem dX7_wordEnd_7 : decode cX7_wordEnd 7 = .ok (.istore_n 3, 1) := by decide +kernel
theorem dX7_wordEnd_8 : decode cX7_wordEnd 8 = .ok (.iload_n 3, 1) := by decide +kernel
theorem dX7_wordEnd_9 : decode cX7_wordEnd 9 = .ok (.aload_n 0, 1) := by decide +kernel
theorem dX7_wordEnd_10 : decode cX7_wordEnd 10 = .ok (.getfield 15, 3) := by decide +kernel
theorem dX7_wordEnd_13 : decode cX7_wordEnd 13 = .ok (.if_icmp .ge 32, 3) := by decide +kernel
theorem dX7_wordEnd_16 : decode cX7_wordEnd 16 = .ok (.iload_n 2, 1) := by decide +kernel
theorem dX7_wordEnd_17 : decode cX7_wordEnd 17 = .ok (.ifCond .eq 14, 3) := by decide +kernel
theorem dX7_wordEnd_20 : decode cX7_wordEnd 20 = .ok (.aload_n 0, 1) := by decide +kernel
theorem dX7_wordEnd_21 : decode cX7_wordEnd 21 = .ok (.iload_n 3, 1) := by decide +kernel
theorem dX7_wordEnd_22 : decode cX7_wordEnd 22 = .ok (.invokevirtual 24, 3) := by decide +kernel
theorem dX7_wordEnd_25 : decode cX7_wordEnd 25 = .ok (.ifCond .eq 20, 3) := by decide +kernel
theorem dX7_wordEnd_28 : decode cX7_wordEnd 28 = .ok (.goto 11, 3) := by decide +kernel
theorem dX7_wordEnd_31 : decode cX7_wordEnd 31 = .ok (.aload_n 0, 1) := by decide +kernel
theorem dX7_wordEnd_32 : decode cX7_wordEnd 32 = .ok (.iload_n 3, 1) := by decide +kernel
theorem dX7_wordEnd_33 : decode cX7_wordEnd 33 = .ok (.invokevirtual 28, 3) := by decide +kernel
theorem dX7_wordEnd_36 : decode cX7_wordEnd 36 = .ok (.ifCond .eq 9, 3) := by decide +kernel
theorem dX7_wordEnd_39 : decode cX7_wordEnd 39 = .ok (.iinc 3 1, 3) := by decide +kernel
theorem dX7_wordEnd_42 : decode cX7_wordEnd 42 = .ok (.goto (-34), 3) := by decide +kernel
theorem dX7_wordEnd_45 : decode cX7_wordEnd 45 = .ok (.iload_n 3, 1) := by decide +kernel
theorem dX7_wordEnd_46 : decode cX7_wordEnd 46 = .ok (.ireturn, 1) := by decide +kernel
theorem dX8_init_0 : decode cX8_init 0 = .ok (.aload_n 0, 1) := by decide +kernel
theorem dX8_init_1 : decode cX8_init 1 = .ok (.invokespecial 3, 3) := by decide +kernel
theorem dX8_init_4 : decode cX8_init 4 = .ok (.aload_n 0, 1) := by decide +kernel
theorem dX8_init_5 : decode cX8_init 5 = .ok (.bipush 30, 2) := by decide +kernel
theorem dX8_init_7 : decode cX8_init 7 = .ok (.newarray .int, 2) := by decide +kernel
theorem dX8_init_9 : decode cX8_init 9 = .ok (.putfield 9, 3) := by decide +kernel
theorem dX8_init_12 : decode cX8_init 12 = .ok (.aload_n 0, 1) := by decide +kernel
theorem dX8_init_13 : decode cX8_init 13 = .ok (.bipush 30, 2) := by decide +kernel
theorem dX8_init_15 : decode cX8_init 15 = .ok (.newarray .int, 2) := by decide +kernel
theorem dX8_init_17 : decode cX8_init 17 = .ok (.putfield 15, 3) := by decide +kernel
theorem dX8_init_20 : decode cX8_init 20 = .ok (.return_, 1) := by decide +kernel
theorem dX8_startAt_0 : decode cX8_startAt 0 = .ok (.iconst 0, 1) := by decide +kernel
theorem dX8_startAt_1 : decode cX8_startAt 1 = .ok (.istore_n 3, 1) := by decide +kernel
theorem dX8_startAt_2 : decode cX8_startAt 2 = .ok (.iload_n 3, 1) := by decide +kernel
theorem dX8_startAt_3 : decode cX8_startAt 3 = .ok (.bipush 30, 2) := by decide +kernel
theorem dX8_startAt_5 : decode cX8_startAt 5 = .ok (.if_icmp .ge 17, 3) := by decide +kernel
theorem dX8_startAt_8 : decode cX8_startAt 8 = .ok (.aload_n 0, 1) := by decide +kernel
theorem dX8_startAt_9 : decode cX8_startAt 9 = .ok (.getfield 9, 3) := by decide +kernel
theorem dX8_startAt_12 : decode cX8_startAt 12 = .ok (.iload_n 3, 1) := by decide +kernel
theorem dX8_startAt_13 : decode cX8_startAt 13 = .ok (.ldc 18, 2) := by decide +kernel
theorem dX8_startAt_15 : decode cX8_startAt 15 = .ok (.iastore, 1) := by decide +kernel
theorem dX8_startAt_16 : decode cX8_startAt 16 = .ok (.iinc 3 1, 3) := by decide +kernel
theorem dX8_startAt_19 : decode cX8_startAt 19 = .ok (.goto (-17), 3) := by decide +kernel
theorem dX8_startAt_22 : decode cX8_startAt 22 = .ok (.aload_n 0, 1) := by decide +kernel
theorem dX8_startAt_23 : decode cX8_startAt 23 = .ok (.getfield 9, 3) := by decide +kernel
theorem dX8_startAt_26 : decode cX8_startAt 26 = .ok (.iload_n 1, 1) := by decide +kernel
theorem dX8_startAt_27 : decode cX8_startAt 27 = .ok (.iload_n 2, 1) := by decide +kernel
theorem dX8_startAt_28 : decode cX8_startAt 28 = .ok (.iastore, 1) := by decide +kernel
theorem dX8_startAt_29 : decode cX8_startAt 29 = .ok (.return_, 1) := by decide +kernel
theorem dX8_findTo_0 : decode cX8_findTo 0 = .ok (.aload_n 1, 1) := by decide +kernel
theorem dX8_findTo_1 : decode cX8_findTo 1 = .ok (.invokevirtual 19, 3) := by decide +kernel
theorem dX8_findTo_4 : decode cX8_findTo 4 = .ok (.aload_n 0, 1) := by decide +kernel
theorem dX8_findTo_5 : decode cX8_findTo 5 = .ok (.iload_n 2, 1) := by decide +kernel
theorem dX8_findTo_6 : decode cX8_findTo 6 = .ok (.iconst 0, 1) := by decide +kernel
theorem dX8_findTo_7 : decode cX8_findTo 7 = .ok (.invokevirtual 24, 3) := by decide +kernel
theorem dX8_findTo_10 : decode cX8_findTo 10 = .ok (.iconst 1, 1) := by decide +kernel
theorem dX8_findTo_11 : decode cX8_findTo 11 = .ok (.istore_n 3, 1) := by decide +kernel
theorem dX8_findTo_12 : decode cX8_findTo 12 = .ok (.iconst 0, 1) := by decide +kernel
theorem dX8_findTo_13 : decode cX8_findTo 13 = .ok (.istore 4, 2) := by decide +kernel
theorem dX8_findTo_15 : decode cX8_findTo 15 = .ok (.iload 4, 2) := by decide +kernel
theorem dX8_findTo_17 : decode cX8_findTo 17 = .ok (.bipush 30, 2) := by decide +kernel
theorem dX8_findTo_19 : decode cX8_findTo 19 = .ok (.if_icmp .ge 70, 3) := by decide +kernel
theorem dX8_findTo_22 : decode cX8_findTo 22 = .ok (.iload_n 3, 1) := by decide +kernel
theorem dX8_findTo_23 : decode cX8_findTo 23 = .ok (.ifCond .eq 66, 3) := by decide +kernel
theorem dX8_findTo_26 : decode cX8_findTo 26 = .ok (.iconst 0, 1) := by decide +kernel
theorem dX8_findTo_27 : decode cX8_findTo 27 = .ok (.istore_n 3, 1) := by decide +kernel
theorem dX8_findTo_28 : decode cX8_findTo 28 = .ok (.iconst 0, 1) := by decide +kernel
theorem dX8_findTo_29 : decode cX8_findTo 29 = .ok (.istore 5, 2) := by decide +kernel
theorem dX8_findTo_31 : decode cX8_findTo 31 = .ok (.iload 5, 2) := by decide +kernel
theorem dX8_findTo_33 : decode cX8_findTo 33 = .ok (.bipush 30, 2) := by decide +kernel
theorem dX8_findTo_35 : decode cX8_findTo 35 = .ok (.if_icmp .ge 48, 3) := by decide +kernel
theorem dX8_findTo_38 : decode cX8_findTo 38 = .ok (.aload_n 0, 1) := by decide +kernel
theorem dX8_findTo_39 : decode cX8_findTo 39 = .ok (.aload_n 1, 1) := by decide +kernel
theorem dX8_findTo_40 : decode cX8_findTo 40 = .ok (.iload 5, 2) := by decide +kernel
theorem dX8_findTo_42 : decode cX8_findTo 42 = .ok (.aload_n 0, 1) := by decide +kernel
theorem dX8_findTo_43 : decode cX8_findTo 43 = .ok (.aload_n 1, 1) := by decide +kernel
theorem dX8_findTo_44 : decode cX8_findTo 44 = .ok (.iload 5, 2) := by decide +kernel
theorem dX8_findTo_46 : decode cX8_findTo 46 = .ok (.invokevirtual 28, 3) := by decide +kernel
theorem dX8_findTo_49 : decode cX8_findTo 49 = .ok (.invokevirtual 32, 3) := by decide +kernel
theorem dX8_findTo_52 : decode cX8_findTo 52 = .ok (.istore 6, 2) := by decide +kernel
theorem dX8_findTo_54 : decode cX8_findTo 54 = .ok (.iload 6, 2) := by decide +kernel
theorem dX8_findTo_56 : decode cX8_findTo 56 = .ok (.aload_n 0, 1) := by decide +kernel
theorem dX8_findTo_57 : decode cX8_findTo 57 = .ok (.getfield 9, 3) := by decide +kernel
theorem dX8_findTo_60 : decode cX8_findTo 60 = .ok (.iload 5, 2) := by decide +kernel
theorem dX8_findTo_62 : decode cX8_findTo 62 = .ok (.iaload, 1) := by decide +kernel
theorem dX8_findTo_63 : decode cX8_findTo 63 = .ok (.if_icmp .ge 14, 3) := by decide +kernel
theorem dX8_findTo_66 : decode cX8_findTo 66 = .ok (.aload_n 0, 1) := by decide +kernel
theorem dX8_findTo_67 : decode cX8_findTo 67 = .ok (.getfield 9, 3) := by decide +kernel
theorem dX8_findTo_70 : decode cX8_findTo 70 = .ok (.iload 5, 2) := by decide +kernel
theorem dX8_findTo_72 : decode cX8_findTo 72 = .ok (.iload 6, 2) := by decide +kernel
theorem dX8_findTo_74 : decode cX8_findTo 74 = .ok (.iastore, 1) := by decide +kernel
theorem dX8_findTo_75 : decode cX8_findTo 75 = .ok (.iconst 1, 1) := by decide +kernel
theorem dX8_findTo_76 : decode cX8_findTo 76 = .ok (.istore_n 3, 1) := by decide +kernel
theorem dX8_findTo_77 : decode cX8_findTo 77 = .ok (.iinc 5 1, 3) := by decide +kernel
theorem dX8_findTo_80 : decode cX8_findTo 80 = .ok (.goto (-49), 3) := by decide +kernel
theorem dX8_findTo_83 : decode cX8_findTo 83 = .ok (.iinc 4 1, 3) := by decide +kernel
theorem dX8_findTo_86 : decode cX8_findTo 86 = .ok (.goto (-71), 3) := by decide +kernel
theorem dX8_findTo_89 : decode cX8_findTo 89 = .ok (.return_, 1) := by decide +kernel
theorem dX8_costBy_0 : decode cX8_costBy 0 = .ok (.iload_n 2, 1) := by decide +kernel
theorem dX8_costBy_1 : decode cX8_costBy 1 = .ok (.iload_n 3, 1) := by decide +kernel
theorem dX8_costBy_2 : decode cX8_costBy 2 = .ok (.invokestatic 36, 3) := by decide +kernel
theorem dX8_costBy_5 : decode cX8_costBy 5 = .ok (.istore 4, 2) := by decide +kernel
theorem dX8_costBy_7 : decode cX8_costBy 7 = .ok (.iload 4, 2) := by decide +kernel
theorem dX8_costBy_9 : decode cX8_costBy 9 = .ok (.ldc 40, 2) := by decide +kernel
theorem dX8_costBy_11 : decode cX8_costBy 11 = .ok (.if_icmp .ne 8, 3) := by decide +kernel
theorem dX8_costBy_14 : decode cX8_costBy 14 = .ok (.ldc 18, 2) := by decide +kernel
theorem dX8_costBy_16 : decode cX8_costBy 16 = .ok (.goto 23, 3) := by decide +kernel
theorem dX8_costBy_19 : decode cX8_costBy 19 = .ok (.aload_n 0, 1) := by decide +kernel
theorem dX8_costBy_20 : decode cX8_costBy 20 = .ok (.getfield 9, 3) := by decide +kernel
theorem dX8_costBy_23 : decode cX8_costBy 23 = .ok (.iload 4, 2) := by decide +kernel
theorem dX8_costBy_25 : decode cX8_costBy 25 = .ok (.iaload, 1) := by decide +kernel
theorem dX8_costBy_26 : decode cX8_costBy 26 = .ok (.aload_n 1, 1) := by decide +kernel
theorem dX8_costBy_27 : decode cX8_costBy 27 = .ok (.getfield 41, 3) := by decide +kernel
theorem dX8_costBy_30 : decode cX8_costBy 30 = .ok (.iload 4, 2) := by decide +kernel
theorem dX8_costBy_32 : decode cX8_costBy 32 = .ok (.iaload, 1) := by decide +kernel
theorem dX8_costBy_33 : decode cX8_costBy 33 = .ok (.bipush 64, 2) := by decide +kernel
theorem dX8_costBy_35 : decode cX8_costBy 35 = .ok (.imul, 1) := by decide +kernel
theorem dX8_costBy_36 : decode cX8_costBy 36 = .ok (.iadd, 1) := by decide +kernel
theorem dX8_costBy_37 : decode cX8_costBy 37 = .ok (.iconst 1, 1) := by decide +kernel
theorem dX8_costBy_38 : decode cX8_costBy 38 = .ok (.iadd, 1) := by decide +kernel
theorem dX8_costBy_39 : decode cX8_costBy 39 = .ok (.ireturn, 1) := by decide +kernel
theorem dX8_bestDirection_0 : decode cX8_bestDirection 0 = .ok (.iconst 0, 1) := by decide +kernel
theorem dX8_bestDirection_1 : decode cX8_bestDirection 1 = .ok (.istore_n 3, 1) := by decide +kernel
theorem dX8_bestDirection_2 : decode cX8_bestDirection 2 = .ok (.aload_n 0, 1) := by decide +kernel
theorem dX8_bestDirection_3 : decode cX8_bestDirection 3 = .ok (.aload_n 1, 1) := by decide +kernel
theorem dX8_bestDirection_4 : decode cX8_bestDirection 4 = .ok (.iload_n 2, 1) := by decide +kernel
theorem dX8_bestDirection_5 : decode cX8_bestDirection 5 = .ok (.iconst 0, 1) := by decide +kernel
theorem dX8_bestDirection_6 : decode cX8_bestDirection 6 = .ok (.invokevirtual 32, 3) := by decide +kernel
theorem dX8_bestDirection_9 : decode cX8_bestDirection 9 = .ok (.istore 4, 2) := by decide +kernel
theorem dX8_bestDirection_11 : decode cX8_bestDirection 11 = .ok (.iconst 1, 1) := by decide +kernel
theorem dX8_bestDirection_12 : decode cX8_bestDirection 12 = .ok (.istore 5, 2) := by decide +kernel
theorem dX8_bestDirection_14 : decode cX8_bestDirection 14 = .ok (.iload 5, 2) := by decide +kernel
theorem dX8_bestDirection_16 : decode cX8_bestDirection 16 = .ok (.iconst 4, 1) := by decide +kernel
theorem dX8_bestDirection_17 : decode cX8_bestDirection 17 = .ok (.if_icmp .ge 33, 3) := by decide +kernel
theorem dX8_bestDirection_20 : decode cX8_bestDirection 20 = .ok (.aload_n 0, 1) := by decide +kernel
theorem dX8_bestDirection_21 : decode cX8_bestDirection 21 = .ok (.aload_n 1, 1) := by decide +kernel
theorem dX8_bestDirection_22 : decode cX8_bestDirection 22 = .ok (.iload_n 2, 1) := by decide +kernel
theorem dX8_bestDirection_23 : decode cX8_bestDirection 23 = .ok (.iload 5, 2) := by decide +kernel
theorem dX8_bestDirection_25 : decode cX8_bestDirection 25 = .ok (.invokevirtual 32, 3) := by decide +kernel
theorem dX8_bestDirection_28 : decode cX8_bestDirection 28 = .ok (.istore 6, 2) := by decide +kernel
theorem dX8_bestDirection_30 : decode cX8_bestDirection 30 = .ok (.iload 6, 2) := by decide +kernel
theorem dX8_bestDirection_32 : decode cX8_bestDirection 32 = .ok (.iload 4, 2) := by decide +kernel
theorem dX8_bestDirection_34 : decode cX8_bestDirection 34 = .ok (.if_icmp .ge 10, 3) := by decide +kernel
theorem dX8_bestDirection_37 : decode cX8_bestDirection 37 = .ok (.iload 6, 2) := by decide +kernel
theorem dX8_bestDirection_39 : decode cX8_bestDirection 39 = .ok (.istore 4, 2) := by decide +kernel
theorem dX8_bestDirection_41 : decode cX8_bestDirection 41 = .ok (.iload 5, 2) := by decide +kernel
theorem dX8_bestDirection_43 : decode cX8_bestDirection 43 = .ok (.istore_n 3, 1) := by decide +kernel
theorem dX8_bestDirection_44 : decode cX8_bestDirection 44 = .ok (.iinc 5 1, 3) := by decide +kernel
theorem dX8_bestDirection_47 : decode cX8_bestDirection 47 = .ok (.goto (-33), 3) := by decide +kernel
theorem dX8_bestDirection_50 : decode cX8_bestDirection 50 = .ok (.iload_n 3, 1) := by decide +kernel
theorem dX8_bestDirection_51 : decode cX8_bestDirection 51 = .ok (.ireturn, 1) := by decide +kernel
theorem dX8_risksFrom_0 : decode cX8_risksFrom 0 = .ok (.aload_n 0, 1) := by decide +kernel
theorem dX8_risksFrom_1 : decode cX8_risksFrom 1 = .ok (.getfield 9, 3) := by decide +kernel
theorem dX8_risksFrom_4 : decode cX8_risksFrom 4 = .ok (.iload_n 1, 1) := by decide +kernel
theorem dX8_risksFrom_5 : decode cX8_risksFrom 5 = .ok (.iaload, 1) := by decide +kernel
theorem dX8_risksFrom_6 : decode cX8_risksFrom 6 = .ok (.bipush 64, 2) := by decide +kernel
theorem dX8_risksFrom_8 : decode cX8_risksFrom 8 = .ok (.idiv, 1) := by decide +kernel
theorem dX8_risksFrom_9 : decode cX8_risksFrom 9 = .ok (.ireturn, 1) := by decide +kernel
theorem dX8_stepsFrom_0 : decode cX8_stepsFrom 0 = .ok (.aload_n 0, 1) := by decide +kernel
theorem dX8_stepsFrom_1 : decode cX8_stepsFrom 1 = .ok (.getfield 9, 3) := by decide +kernel
theorem dX8_stepsFrom_4 : decode cX8_stepsFrom 4 = .ok (.iload_n 1, 1) := by decide +kernel
theorem dX8_stepsFrom_5 : decode cX8_stepsFrom 5 = .ok (.iaload, 1) := by decide +kernel
theorem dX8_stepsFrom_6 : decode cX8_stepsFrom 6 = .ok (.bipush 64, 2) := by decide +kernel
theorem dX8_stepsFrom_8 : decode cX8_stepsFrom 8 = .ok (.irem, 1) := by decide +kernel
theorem dX8_stepsFrom_9 : decode cX8_stepsFrom 9 = .ok (.ireturn, 1) := by decide +kernel
theorem dX8_breathFrom_0 : decode cX8_breathFrom 0 = .ok (.aload_n 0, 1) := by decide +kernel
theorem dX8_breathFrom_1 : decode cX8_breathFrom 1 = .ok (.iload_n 2, 1) := by decide +kernel
theorem dX8_breathFrom_2 : decode cX8_breathFrom 2 = .ok (.invokevirtual 44, 3) := by decide +kernel
theorem dX8_breathFrom_5 : decode cX8_breathFrom 5 = .ok (.istore_n 3, 1) := by decide +kernel
theorem dX8_breathFrom_6 : decode cX8_breathFrom 6 = .ok (.iconst 0, 1) := by decide +kernel
theorem dX8_breathFrom_7 : decode cX8_breathFrom 7 = .ok (.istore 4, 2) := by decide +kernel
theorem dX8_breathFrom_9 : decode cX8_breathFrom 9 = .ok (.iload_n 2, 1) := by decide +kernel
theorem dX8_breathFrom_10 : decode cX8_breathFrom 10 = .ok (.istore 5, 2) := by decide +kernel
theorem dX8_breathFrom_12 : decode cX8_breathFrom 12 = .ok (.iconst 0, 1) := by decide +kernel
theorem dX8_breathFrom_13 : decode cX8_breathFrom 13 = .ok (.istore 6, 2) := by decide +kernel
theorem dX8_breathFrom_15 : decode cX8_breathFrom 15 = .ok (.iload 6, 2) := by decide +kernel
theorem dX8_breathFrom_17 : decode cX8_breathFrom 17 = .ok (.iload_n 3, 1) := by decide +kernel
theorem dX8_breathFrom_18 : decode cX8_breathFrom 18 = .ok (.if_icmp .ge 50, 3) := by decide +kernel
theorem dX8_breathFrom_21 : decode cX8_breathFrom 21 = .ok (.iload 5, 2) := by decide +kernel
theorem dX8_breathFrom_23 : decode cX8_breathFrom 23 = .ok (.aload_n 0, 1) := by decide +kernel
theorem dX8_breathFrom_24 : decode cX8_breathFrom 24 = .ok (.aload_n 1, 1) := by decide +kernel
theorem dX8_breathFrom_25 : decode cX8_breathFrom 25 = .ok (.iload 5, 2) := by decide +kernel
theorem dX8_breathFrom_27 : decode cX8_breathFrom 27 = .ok (.invokevirtual 28, 3) := by decide +kernel
theorem dX8_breathFrom_30 : decode cX8_breathFrom 30 = .ok (.invokestatic 36, 3) := by decide +kernel
theorem dX8_breathFrom_33 : decode cX8_breathFrom 33 = .ok (.istore 7, 2) := by decide +kernel
theorem dX8_breathFrom_35 : decode cX8_breathFrom 35 = .ok (.iload 7, 2) := by decide +kernel
theorem dX8_breathFrom_37 : decode cX8_breathFrom 37 = .ok (.ldc 40, 2) := by decide +kernel
theorem dX8_breathFrom_39 : decode cX8_breathFrom 39 = .ok (.if_icmp .ne 6, 3) := by decide +kernel
theorem dX8_breathFrom_42 : decode cX8_breathFrom 42 = .ok (.iload 4, 2) := by decide +kernel
theorem dX8_breathFrom_44 : decode cX8_breathFrom 44 = .ok (.ireturn, 1) := by decide +kernel
theorem dX8_breathFrom_45 : decode cX8_breathFrom 45 = .ok (.iload 4, 2) := by decide +kernel
theorem dX8_breathFrom_47 : decode cX8_breathFrom 47 = .ok (.aload_n 1, 1) := by decide +kernel
theorem dX8_breathFrom_48 : decode cX8_breathFrom 48 = .ok (.iload 5, 2) := by decide +kernel
theorem dX8_breathFrom_50 : decode cX8_breathFrom 50 = .ok (.iload 7, 2) := by decide +kernel
theorem dX8_breathFrom_52 : decode cX8_breathFrom 52 = .ok (.invokevirtual 48, 3) := by decide +kernel
theorem dX8_breathFrom_55 : decode cX8_breathFrom 55 = .ok (.iadd, 1) := by decide +kernel
theorem dX8_breathFrom_56 : decode cX8_breathFrom 56 = .ok (.istore 4, 2) := by decide +kernel
theorem dX8_breathFrom_58 : decode cX8_breathFrom 58 = .ok (.iload 7, 2) := by decide +kernel
theorem dX8_breathFrom_60 : decode cX8_breathFrom 60 = .ok (.istore 5, 2) := by decide +kernel
theorem dX8_breathFrom_62 : decode cX8_breathFrom 62 = .ok (.iinc 6 1, 3) := by decide +kernel
theorem dX8_breathFrom_65 : decode cX8_breathFrom 65 = .ok (.goto (-50), 3) := by decide +kernel
theorem dX8_breathFrom_68 : decode cX8_breathFrom 68 = .ok (.iload 4, 2) := by decide +kernel
theorem dX8_breathFrom_70 : decode cX8_breathFrom 70 = .ok (.ireturn, 1) := by decide +kernel
theorem dX8_cellFrom_0 : decode cX8_cellFrom 0 = .ok (.iload_n 3, 1) := by decide +kernel
theorem dX8_cellFrom_1 : decode cX8_cellFrom 1 = .ok (.aload_n 0, 1) := by decide +kernel
theorem dX8_cellFrom_2 : decode cX8_cellFrom 2 = .ok (.iload_n 2, 1) := by decide +kernel
theorem dX8_cellFrom_3 : decode cX8_cellFrom 3 = .ok (.invokevirtual 44, 3) := by decide +kernel
theorem dX8_cellFrom_6 : decode cX8_cellFrom 6 = .ok (.if_icmp .le 6, 3) := by decide +kernel
theorem dX8_cellFrom_9 : decode cX8_cellFrom 9 = .ok (.ldc 40, 2) := by decide +kernel
theorem dX8_cellFrom_11 : decode cX8_cellFrom 11 = .ok (.ireturn, 1) := by decide +kernel
theorem dX8_cellFrom_12 : decode cX8_cellFrom 12 = .ok (.iload_n 2, 1) := by decide +kernel
theorem dX8_cellFrom_13 : decode cX8_cellFrom 13 = .ok (.istore 4, 2) := by decide +kernel
theorem dX8_cellFrom_15 : decode cX8_cellFrom 15 = .ok (.iconst 0, 1) := by decide +kernel
theorem dX8_cellFrom_16 : decode cX8_cellFrom 16 = .ok (.istore 5, 2) := by decide +kernel
theorem dX8_cellFrom_18 : decode cX8_cellFrom 18 = .ok (.iload 5, 2) := by decide +kernel
theorem dX8_cellFrom_20 : decode cX8_cellFrom 20 = .ok (.iload_n 3, 1) := by decide +kernel
theorem dX8_cellFrom_21 : decode cX8_cellFrom 21 = .ok (.if_icmp .ge 30, 3) := by decide +kernel
theorem dX8_cellFrom_24 : decode cX8_cellFrom 24 = .ok (.iload 4, 2) := by decide +kernel
theorem dX8_cellFrom_26 : decode cX8_cellFrom 26 = .ok (.ldc 40, 2) := by decide +kernel
theorem dX8_cellFrom_28 : decode cX8_cellFrom 28 = .ok (.if_icmp .eq 23, 3) := by decide +kernel
theorem dX8_cellFrom_31 : decode cX8_cellFrom 31 = .ok (.iload 4, 2) := by decide +kernel
theorem dX8_cellFrom_33 : decode cX8_cellFrom 33 = .ok (.aload_n 0, 1) := by decide +kernel
theorem dX8_cellFrom_34 : decode cX8_cellFrom 34 = .ok (.aload_n 1, 1) := by decide +kernel
theorem dX8_cellFrom_35 : decode cX8_cellFrom 35 = .ok (.iload 4, 2) := by decide +kernel
theorem dX8_cellFrom_37 : decode cX8_cellFrom 37 = .ok (.invokevirtual 28, 3) := by decide +kernel
theorem dX8_cellFrom_40 : decode cX8_cellFrom 40 = .ok (.invokestatic 36, 3) := by decide +kernel
theorem dX8_cellFrom_43 : decode cX8_cellFrom 43 = .ok (.istore 4, 2) := by decide +kernel
theorem dX8_cellFrom_45 : decode cX8_cellFrom 45 = .ok (.iinc 5 1, 3) := by decide +kernel
theorem dX8_cellFrom_48 : decode cX8_cellFrom 48 = .ok (.goto (-30), 3) := by decide +kernel
theorem dX8_cellFrom_51 : decode cX8_cellFrom 51 = .ok (.iload 4, 2) := by decide +kernel
theorem dX8_cellFrom_53 : decode cX8_cellFrom 53 = .ok (.ireturn, 1) := by decide +kernel
theorem dX8_leastWithin_0 : decode cX8_leastWithin 0 = .ok (.aload_n 1, 1) := by decide +kernel
theorem dX8_leastWithin_1 : decode cX8_leastWithin 1 = .ok (.invokevirtual 19, 3) := by decide +kernel
theorem dX8_leastWithin_4 : decode cX8_leastWithin 4 = .ok (.aload_n 0, 1) := by decide +kernel
theorem dX8_leastWithin_5 : decode cX8_leastWithin 5 = .ok (.iload_n 2, 1) := by decide +kernel
theorem dX8_leastWithin_6 : decode cX8_leastWithin 6 = .ok (.iconst 0, 1) := by decide +kernel
theorem dX8_leastWithin_7 : decode cX8_leastWithin 7 = .ok (.invokevirtual 24, 3) := by decide +kernel
theorem dX8_leastWithin_10 : decode cX8_leastWithin 10 = .ok (.iconst 1, 1) := by decide +kernel
theorem dX8_leastWithin_11 : decode cX8_leastWithin 11 = .ok (.istore 5, 2) := by decide +kernel
theorem dX8_leastWithin_13 : decode cX8_leastWithin 13 = .ok (.iconst 0, 1) := by decide +kernel
theorem dX8_leastWithin_14 : decode cX8_leastWithin 14 = .ok (.istore 6, 2) := by decide +kernel
theorem dX8_leastWithin_16 : decode cX8_leastWithin 16 = .ok (.iload 6, 2) := by decide +kernel
theorem dX8_leastWithin_18 : decode cX8_leastWithin 18 = .ok (.iload 4, 2) := by decide +kernel
theorem dX8_leastWithin_20 : decode cX8_leastWithin 20 = .ok (.if_icmp .ge 88, 3) := by decide +kernel
theorem dX8_leastWithin_23 : decode cX8_leastWithin 23 = .ok (.iload 5, 2) := by decide +kernel
theorem dX8_leastWithin_25 : decode cX8_leastWithin 25 = .ok (.ifCond .eq 83, 3) := by decide +kernel
theorem dX8_leastWithin_28 : decode cX8_leastWithin 28 = .ok (.aload_n 0, 1) := by decide +kernel
theorem dX8_leastWithin_29 : decode cX8_leastWithin 29 = .ok (.getfield 9, 3) := by decide +kernel
theorem dX8_leastWithin_32 : decode cX8_leastWithin 32 = .ok (.iconst 0, 1) := by decide +kernel
theorem dX8_leastWithin_33 : decode cX8_leastWithin 33 = .ok (.aload_n 0, 1) := by decide +kernel
theorem dX8_leastWithin_34 : decode cX8_leastWithin 34 = .ok (.getfield 15, 3) := by decide +kernel
theorem dX8_leastWithin_37 : decode cX8_leastWithin 37 = .ok (.iconst 0, 1) := by decide +kernel
theorem dX8_leastWithin_38 : decode cX8_leastWithin 38 = .ok (.bipush 30, 2) := by decide +kernel
theorem dX8_leastWithin_40 : decode cX8_leastWithin 40 = .ok (.invokestatic 51, 3) := by decide +kernel
theorem dX8_leastWithin_43 : decode cX8_leastWithin 43 = .ok (.iconst 0, 1) := by decide +kernel
theorem dX8_leastWithin_44 : decode cX8_leastWithin 44 = .ok (.istore 5, 2) := by decide +kernel
theorem dX8_leastWithin_46 : decode cX8_leastWithin 46 = .ok (.iconst 0, 1) := by decide +kernel
theorem dX8_leastWithin_47 : decode cX8_leastWithin 47 = .ok (.istore 7, 2) := by decide +kernel
theorem dX8_leastWithin_49 : decode cX8_leastWithin 49 = .ok (.iload 7, 2) := by decide +kernel
theorem dX8_leastWithin_51 : decode cX8_leastWithin 51 = .ok (.bipush 30, 2) := by decide +kernel
theorem dX8_leastWithin_53 : decode cX8_leastWithin 53 = .ok (.if_icmp .ge 49, 3) := by decide +kernel
theorem dX8_leastWithin_56 : decode cX8_leastWithin 56 = .ok (.aload_n 0, 1) := by decide +kernel
theorem dX8_leastWithin_57 : decode cX8_leastWithin 57 = .ok (.iload 7, 2) := by decide +kernel
theorem dX8_leastWithin_59 : decode cX8_leastWithin 59 = .ok (.invokevirtual 57, 3) := by decide +kernel
theorem dX8_leastWithin_62 : decode cX8_leastWithin 62 = .ok (.aload_n 1, 1) := by decide +kernel
theorem dX8_leastWithin_63 : decode cX8_leastWithin 63 = .ok (.getfield 41, 3) := by decide +kernel
theorem dX8_leastWithin_66 : decode cX8_leastWithin 66 = .ok (.iload 7, 2) := by decide +kernel
theorem dX8_leastWithin_68 : decode cX8_leastWithin 68 = .ok (.iaload, 1) := by decide +kernel
theorem dX8_leastWithin_69 : decode cX8_leastWithin 69 = .ok (.iadd, 1) := by decide +kernel
theorem dX8_leastWithin_70 : decode cX8_leastWithin 70 = .ok (.istore 8, 2) := by decide +kernel
theorem dX8_leastWithin_72 : decode cX8_leastWithin 72 = .ok (.iload 8, 2) := by decide +kernel
theorem dX8_leastWithin_74 : decode cX8_leastWithin 74 = .ok (.aload_n 0, 1) := by decide +kernel
theorem dX8_leastWithin_75 : decode cX8_leastWithin 75 = .ok (.getfield 9, 3) := by decide +kernel
theorem dX8_leastWithin_78 : decode cX8_leastWithin 78 = .ok (.iload 7, 2) := by decide +kernel
theorem dX8_leastWithin_80 : decode cX8_leastWithin 80 = .ok (.iaload, 1) := by decide +kernel
theorem dX8_leastWithin_81 : decode cX8_leastWithin 81 = .ok (.if_icmp .ge 15, 3) := by decide +kernel
theorem dX8_leastWithin_84 : decode cX8_leastWithin 84 = .ok (.aload_n 0, 1) := by decide +kernel
theorem dX8_leastWithin_85 : decode cX8_leastWithin 85 = .ok (.getfield 9, 3) := by decide +kernel
theorem dX8_leastWithin_88 : decode cX8_leastWithin 88 = .ok (.iload 7, 2) := by decide +kernel
theorem dX8_leastWithin_90 : decode cX8_leastWithin 90 = .ok (.iload 8, 2) := by decide +kernel
theorem dX8_leastWithin_92 : decode cX8_leastWithin 92 = .ok (.iastore, 1) := by decide +kernel
theorem dX8_leastWithin_93 : decode cX8_leastWithin 93 = .ok (.iconst 1, 1) := by decide +kernel
theorem dX8_leastWithin_94 : decode cX8_leastWithin 94 = .ok (.istore 5, 2) := by decide +kernel
theorem dX8_leastWithin_96 : decode cX8_leastWithin 96 = .ok (.iinc 7 1, 3) := by decide +kernel
theorem dX8_leastWithin_99 : decode cX8_leastWithin 99 = .ok (.goto (-50), 3) := by decide +kernel
theorem dX8_leastWithin_102 : decode cX8_leastWithin 102 = .ok (.iinc 6 1, 3) := by decide +kernel
theorem dX8_leastWithin_105 : decode cX8_leastWithin 105 = .ok (.goto (-89), 3) := by decide +kernel
theorem dX8_leastWithin_108 : decode cX8_leastWithin 108 = .ok (.aload_n 0, 1) := by decide +kernel
theorem dX8_leastWithin_109 : decode cX8_leastWithin 109 = .ok (.getfield 9, 3) := by decide +kernel
theorem dX8_leastWithin_112 : decode cX8_leastWithin 112 = .ok (.iload_n 3, 1) := by decide +kernel
theorem dX8_leastWithin_113 : decode cX8_leastWithin 113 = .ok (.iaload, 1) := by decide +kernel
theorem dX8_leastWithin_114 : decode cX8_leastWithin 114 = .ok (.ldc 18, 2) := by decide +kernel
theorem dX8_leastWithin_116 : decode cX8_leastWithin 116 = .ok (.if_icmp .ge 12, 3) := by decide +kernel
theorem dX8_leastWithin_119 : decode cX8_leastWithin 119 = .ok (.aload_n 0, 1) := by decide +kernel
theorem dX8_leastWithin_120 : decode cX8_leastWithin 120 = .ok (.getfield 9, 3) := by decide +kernel
theorem dX8_leastWithin_123 : decode cX8_leastWithin 123 = .ok (.iload_n 3, 1) := by decide +kernel
theorem dX8_leastWithin_124 : decode cX8_leastWithin 124 = .ok (.iaload, 1) := by decide +kernel
theorem dX8_leastWithin_125 : decode cX8_leastWithin 125 = .ok (.goto 5, 3) := by decide +kernel
theorem dX8_leastWithin_128 : decode cX8_leastWithin 128 = .ok (.ldc 40, 2) := by decide +kernel
theorem dX8_leastWithin_130 : decode cX8_leastWithin 130 = .ok (.ireturn, 1) := by decide +kernel
theorem dX8_leastBeside_0 : decode cX8_leastBeside 0 = .ok (.ldc 18, 2) := by decide +kernel
theorem dX8_leastBeside_2 : decode cX8_leastBeside 2 = .ok (.istore_n 2, 1) := by decide +kernel
theorem dX8_leastBeside_3 : decode cX8_leastBeside 3 = .ok (.iconst 0, 1) := by decide +kernel
theorem dX8_leastBeside_4 : decode cX8_leastBeside 4 = .ok (.istore_n 3, 1) := by decide +kernel
theorem dX8_leastBeside_5 : decode cX8_leastBeside 5 = .ok (.iload_n 3, 1) := by decide +kernel
theorem dX8_leastBeside_6 : decode cX8_leastBeside 6 = .ok (.iconst 4, 1) := by decide +kernel
theorem dX8_leastBeside_7 : decode cX8_leastBeside 7 = .ok (.if_icmp .ge 35, 3) := by decide +kernel
theorem dX8_leastBeside_10 : decode cX8_leastBeside 10 = .ok (.iload_n 1, 1) := by decide +kernel
theorem dX8_leastBeside_11 : decode cX8_leastBeside 11 = .ok (.iload_n 3, 1) := by decide +kernel
theorem dX8_leastBeside_12 : decode cX8_leastBeside 12 = .ok (.invokestatic 36, 3) := by decide +kernel
theorem dX8_leastBeside_15 : decode cX8_leastBeside 15 = .ok (.istore 4, 2) := by decide +kernel
theorem dX8_leastBeside_17 : decode cX8_leastBeside 17 = .ok (.iload 4, 2) := by decide +kernel
theorem dX8_leastBeside_19 : decode cX8_leastBeside 19 = .ok (.ldc 40, 2) := by decide +kernel
theorem dX8_leastBeside_21 : decode cX8_leastBeside 21 = .ok (.if_icmp .eq 15, 3) := by decide +kernel
theorem dX8_leastBeside_24 : decode cX8_leastBeside 24 = .ok (.iload_n 2, 1) := by decide +kernel
theorem dX8_leastBeside_25 : decode cX8_leastBeside 25 = .ok (.aload_n 0, 1) := by decide +kernel
theorem dX8_leastBeside_26 : decode cX8_leastBeside 26 = .ok (.getfield 15, 3) := by decide +kernel
theorem dX8_leastBeside_29 : decode cX8_leastBeside 29 = .ok (.iload 4, 2) := by decide +kernel
theorem dX8_leastBeside_31 : decode cX8_leastBeside 31 = .ok (.iaload, 1) := by decide +kernel
theorem dX8_leastBeside_32 : decode cX8_leastBeside 32 = .ok (.invokestatic 60, 3) := by decide +kernel
theorem dX8_leastBeside_35 : decode cX8_leastBeside 35 = .ok (.istore_n 2, 1) := by decide +kernel
theorem dX8_leastBeside_36 : decode cX8_leastBeside 36 = .ok (.iinc 3 1, 3) := by decide +kernel
theorem dX8_leastBeside_39 : decode cX8_leastBeside 39 = .ok (.goto (-34), 3) := by decide +kernel
theorem dX8_leastBeside_42 : decode cX8_leastBeside 42 = .ok (.iload_n 2, 1) := by decide +kernel
theorem dX8_leastBeside_43 : decode cX8_leastBeside 43 = .ok (.ireturn, 1) := by decide +kernel
theorem dX8_leastSteep_0 : decode cX8_leastSteep 0 = .ok (.aload_n 0, 1) := by decide +kernel
theorem dX8_leastSteep_1 : decode cX8_leastSteep 1 = .ok (.iload_n 2, 1) := by decide +kernel
theorem dX8_leastSteep_2 : decode cX8_leastSteep 2 = .ok (.aload_n 1, 1) := by decide +kernel
theorem dX8_leastSteep_3 : decode cX8_leastSteep 3 = .ok (.getfield 65, 3) := by decide +kernel
theorem dX8_leastSteep_6 : decode cX8_leastSteep 6 = .ok (.iload_n 2, 1) := by decide +kernel
theorem dX8_leastSteep_7 : decode cX8_leastSteep 7 = .ok (.iaload, 1) := by decide +kernel
theorem dX8_leastSteep_8 : decode cX8_leastSteep 8 = .ok (.invokevirtual 24, 3) := by decide +kernel
theorem dX8_leastSteep_11 : decode cX8_leastSteep 11 = .ok (.iconst 1, 1) := by decide +kernel
theorem dX8_leastSteep_12 : decode cX8_leastSteep 12 = .ok (.istore 4, 2) := by decide +kernel
theorem dX8_leastSteep_14 : decode cX8_leastSteep 14 = .ok (.iconst 0, 1) := by decide +kernel
theorem dX8_leastSteep_15 : decode cX8_leastSteep 15 = .ok (.istore 5, 2) := by decide +kernel
theorem dX8_leastSteep_17 : decode cX8_leastSteep 17 = .ok (.iload 5, 2) := by decide +kernel
theorem dX8_leastSteep_19 : decode cX8_leastSteep 19 = .ok (.bipush 30, 2) := by decide +kernel
theorem dX8_leastSteep_21 : decode cX8_leastSteep 21 = .ok (.if_icmp .ge 90, 3) := by decide +kernel
theorem dX8_leastSteep_24 : decode cX8_leastSteep 24 = .ok (.iload 4, 2) := by decide +kernel
theorem dX8_leastSteep_26 : decode cX8_leastSteep 26 = .ok (.ifCond .eq 85, 3) := by decide +kernel
theorem dX8_leastSteep_29 : decode cX8_leastSteep 29 = .ok (.aload_n 0, 1) := by decide +kernel
theorem dX8_leastSteep_30 : decode cX8_leastSteep 30 = .ok (.getfield 9, 3) := by decide +kernel
theorem dX8_leastSteep_33 : decode cX8_leastSteep 33 = .ok (.iconst 0, 1) := by decide +kernel
theorem dX8_leastSteep_34 : decode cX8_leastSteep 34 = .ok (.aload_n 0, 1) := by decide +kernel
theorem dX8_leastSteep_35 : decode cX8_leastSteep 35 = .ok (.getfield 15, 3) := by decide +kernel
theorem dX8_leastSteep_38 : decode cX8_leastSteep 38 = .ok (.iconst 0, 1) := by decide +kernel
theorem dX8_leastSteep_39 : decode cX8_leastSteep 39 = .ok (.bipush 30, 2) := by decide +kernel
theorem dX8_leastSteep_41 : decode cX8_leastSteep 41 = .ok (.invokestatic 51, 3) := by decide +kernel
theorem dX8_leastSteep_44 : decode cX8_leastSteep 44 = .ok (.iconst 0, 1) := by decide +kernel
theorem dX8_leastSteep_45 : decode cX8_leastSteep 45 = .ok (.istore 4, 2) := by decide +kernel
theorem dX8_leastSteep_47 : decode cX8_leastSteep 47 = .ok (.iconst 0, 1) := by decide +kernel
theorem dX8_leastSteep_48 : decode cX8_leastSteep 48 = .ok (.istore 6, 2) := by decide +kernel
theorem dX8_leastSteep_50 : decode cX8_leastSteep 50 = .ok (.iload 6, 2) := by decide +kernel
theorem dX8_leastSteep_52 : decode cX8_leastSteep 52 = .ok (.bipush 30, 2) := by decide +kernel
theorem dX8_leastSteep_54 : decode cX8_leastSteep 54 = .ok (.if_icmp .ge 51, 3) := by decide +kernel
theorem dX8_leastSteep_57 : decode cX8_leastSteep 57 = .ok (.aload_n 0, 1) := by decide +kernel
theorem dX8_leastSteep_58 : decode cX8_leastSteep 58 = .ok (.iload 6, 2) := by decide +kernel
theorem dX8_leastSteep_60 : decode cX8_leastSteep 60 = .ok (.invokevirtual 57, 3) := by decide +kernel
theorem dX8_leastSteep_63 : decode cX8_leastSteep 63 = .ok (.aload_n 1, 1) := by decide +kernel
theorem dX8_leastSteep_64 : decode cX8_leastSteep 64 = .ok (.getfield 65, 3) := by decide +kernel
theorem dX8_leastSteep_67 : decode cX8_leastSteep 67 = .ok (.iload 6, 2) := by decide +kernel
theorem dX8_leastSteep_69 : decode cX8_leastSteep 69 = .ok (.iaload, 1) := by decide +kernel
theorem dX8_leastSteep_70 : decode cX8_leastSteep 70 = .ok (.invokestatic 68, 3) := by decide +kernel
theorem dX8_leastSteep_73 : decode cX8_leastSteep 73 = .ok (.istore 7, 2) := by decide +kernel
theorem dX8_leastSteep_75 : decode cX8_leastSteep 75 = .ok (.iload 7, 2) := by decide +kernel
theorem dX8_leastSteep_77 : decode cX8_leastSteep 77 = .ok (.aload_n 0, 1) := by decide +kernel
theorem dX8_leastSteep_78 : decode cX8_leastSteep 78 = .ok (.getfield 9, 3) := by decide +kernel
theorem dX8_leastSteep_81 : decode cX8_leastSteep 81 = .ok (.iload 6, 2) := by decide +kernel
theorem dX8_leastSteep_83 : decode cX8_leastSteep 83 = .ok (.iaload, 1) := by decide +kernel
theorem dX8_leastSteep_84 : decode cX8_leastSteep 84 = .ok (.if_icmp .ge 15, 3) := by decide +kernel
theorem dX8_leastSteep_87 : decode cX8_leastSteep 87 = .ok (.aload_n 0, 1) := by decide +kernel
theorem dX8_leastSteep_88 : decode cX8_leastSteep 88 = .ok (.getfield 9, 3) := by decide +kernel
theorem dX8_leastSteep_91 : decode cX8_leastSteep 91 = .ok (.iload 6, 2) := by decide +kernel
theorem dX8_leastSteep_93 : decode cX8_leastSteep 93 = .ok (.iload 7, 2) := by decide +kernel
theorem dX8_leastSteep_95 : decode cX8_leastSteep 95 = .ok (.iastore, 1) := by decide +kernel
theorem dX8_leastSteep_96 : decode cX8_leastSteep 96 = .ok (.iconst 1, 1) := by decide +kernel
theorem dX8_leastSteep_97 : decode cX8_leastSteep 97 = .ok (.istore 4, 2) := by decide +kernel
theorem dX8_leastSteep_99 : decode cX8_leastSteep 99 = .ok (.iinc 6 1, 3) := by decide +kernel
theorem dX8_leastSteep_102 : decode cX8_leastSteep 102 = .ok (.goto (-52), 3) := by decide +kernel
theorem dX8_leastSteep_105 : decode cX8_leastSteep 105 = .ok (.iinc 5 1, 3) := by decide +kernel
theorem dX8_leastSteep_108 : decode cX8_leastSteep 108 = .ok (.goto (-91), 3) := by decide +kernel
theorem dX8_leastSteep_111 : decode cX8_leastSteep 111 = .ok (.aload_n 0, 1) := by decide +kernel
theorem dX8_leastSteep_112 : decode cX8_leastSteep 112 = .ok (.getfield 9, 3) := by decide +kernel
theorem dX8_leastSteep_115 : decode cX8_leastSteep 115 = .ok (.iload_n 3, 1) := by decide +kernel
theorem dX8_leastSteep_116 : decode cX8_leastSteep 116 = .ok (.iaload, 1) := by decide +kernel
theorem dX8_leastSteep_117 : decode cX8_leastSteep 117 = .ok (.ireturn, 1) := by decide +kernel
theorem dX8_comeTo_0 : decode cX8_comeTo 0 = .ok (.aload_n 1, 1) := by decide +kernel
theorem dX8_comeTo_1 : decode cX8_comeTo 1 = .ok (.invokevirtual 19, 3) := by decide +kernel
theorem dX8_comeTo_4 : decode cX8_comeTo 4 = .ok (.aload_n 0, 1) := by decide +kernel
theorem dX8_comeTo_5 : decode cX8_comeTo 5 = .ok (.iload_n 2, 1) := by decide +kernel
theorem dX8_comeTo_6 : decode cX8_comeTo 6 = .ok (.iconst 0, 1) := by decide +kernel
theorem dX8_comeTo_7 : decode cX8_comeTo 7 = .ok (.invokevirtual 24, 3) := by decide +kernel
theorem dX8_comeTo_10 : decode cX8_comeTo 10 = .ok (.iconst 1, 1) := by decide +kernel
theorem dX8_comeTo_11 : decode cX8_comeTo 11 = .ok (.istore 4, 2) := by decide +kernel
theorem dX8_comeTo_13 : decode cX8_comeTo 13 = .ok (.iconst 1, 1) := by decide +kernel
theorem dX8_comeTo_14 : decode cX8_comeTo 14 = .ok (.istore 5, 2) := by decide +kernel
theorem dX8_comeTo_16 : decode cX8_comeTo 16 = .ok (.iconst 0, 1) := by decide +kernel
theorem dX8_comeTo_17 : decode cX8_comeTo 17 = .ok (.istore 6, 2) := by decide +kernel
theorem dX8_comeTo_19 : decode cX8_comeTo 19 = .ok (.iload 6, 2) := by decide +kernel
theorem dX8_comeTo_21 : decode cX8_comeTo 21 = .ok (.bipush 30, 2) := by decide +kernel
theorem dX8_comeTo_23 : decode cX8_comeTo 23 = .ok (.if_icmp .ge 96, 3) := by decide +kernel
theorem dX8_comeTo_26 : decode cX8_comeTo 26 = .ok (.iload 5, 2) := by decide +kernel
theorem dX8_comeTo_28 : decode cX8_comeTo 28 = .ok (.ifCond .eq 91, 3) := by decide +kernel
theorem dX8_comeTo_31 : decode cX8_comeTo 31 = .ok (.aload_n 0, 1) := by decide +kernel
theorem dX8_comeTo_32 : decode cX8_comeTo 32 = .ok (.getfield 9, 3) := by decide +kernel
theorem dX8_comeTo_35 : decode cX8_comeTo 35 = .ok (.iconst 0, 1) := by decide +kernel
theorem dX8_comeTo_36 : decode cX8_comeTo 36 = .ok (.aload_n 0, 1) := by decide +kernel
theorem dX8_comeTo_37 : decode cX8_comeTo 37 = .ok (.getfield 15, 3) := by decide +kernel
theorem dX8_comeTo_40 : decode cX8_comeTo 40 = .ok (.iconst 0, 1) := by decide +kernel
theorem dX8_comeTo_41 : decode cX8_comeTo 41 = .ok (.bipush 30, 2) := by decide +kernel
theorem dX8_comeTo_43 : decode cX8_comeTo 43 = .ok (.invokestatic 51, 3) := by decide +kernel
theorem dX8_comeTo_46 : decode cX8_comeTo 46 = .ok (.iconst 0, 1) := by decide +kernel
theorem dX8_comeTo_47 : decode cX8_comeTo 47 = .ok (.istore 5, 2) := by decide +kernel
theorem dX8_comeTo_49 : decode cX8_comeTo 49 = .ok (.iconst 0, 1) := by decide +kernel
theorem dX8_comeTo_50 : decode cX8_comeTo 50 = .ok (.istore 7, 2) := by decide +kernel
theorem dX8_comeTo_52 : decode cX8_comeTo 52 = .ok (.iload 7, 2) := by decide +kernel
theorem dX8_comeTo_54 : decode cX8_comeTo 54 = .ok (.bipush 30, 2) := by decide +kernel
theorem dX8_comeTo_56 : decode cX8_comeTo 56 = .ok (.if_icmp .ge 57, 3) := by decide +kernel
theorem dX8_comeTo_59 : decode cX8_comeTo 59 = .ok (.aload_n 0, 1) := by decide +kernel
theorem dX8_comeTo_60 : decode cX8_comeTo 60 = .ok (.getfield 9, 3) := by decide +kernel
theorem dX8_comeTo_63 : decode cX8_comeTo 63 = .ok (.iload 7, 2) := by decide +kernel
theorem dX8_comeTo_65 : decode cX8_comeTo 65 = .ok (.iaload, 1) := by decide +kernel
theorem dX8_comeTo_66 : decode cX8_comeTo 66 = .ok (.ldc 18, 2) := by decide +kernel
theorem dX8_comeTo_68 : decode cX8_comeTo 68 = .ok (.if_icmp .ne 39, 3) := by decide +kernel
theorem dX8_comeTo_71 : decode cX8_comeTo 71 = .ok (.aload_n 1, 1) := by decide +kernel
theorem dX8_comeTo_72 : decode cX8_comeTo 72 = .ok (.getfield 41, 3) := by decide +kernel
theorem dX8_comeTo_75 : decode cX8_comeTo 75 = .ok (.iload 7, 2) := by decide +kernel
theorem dX8_comeTo_77 : decode cX8_comeTo 77 = .ok (.iaload, 1) := by decide +kernel
theorem dX8_comeTo_78 : decode cX8_comeTo 78 = .ok (.iload_n 3, 1) := by decide +kernel
theorem dX8_comeTo_79 : decode cX8_comeTo 79 = .ok (.if_icmp .gt 28, 3) := by decide +kernel
theorem dX8_comeTo_82 : decode cX8_comeTo 82 = .ok (.aload_n 0, 1) := by decide +kernel
theorem dX8_comeTo_83 : decode cX8_comeTo 83 = .ok (.iload 7, 2) := by decide +kernel
theorem dX8_comeTo_85 : decode cX8_comeTo 85 = .ok (.invokevirtual 57, 3) := by decide +kernel
theorem dX8_comeTo_88 : decode cX8_comeTo 88 = .ok (.ldc 18, 2) := by decide +kernel
theorem dX8_comeTo_90 : decode cX8_comeTo 90 = .ok (.if_icmp .ge 17, 3) := by decide +kernel
theorem dX8_comeTo_93 : decode cX8_comeTo 93 = .ok (.aload_n 0, 1) := by decide +kernel
theorem dX8_comeTo_94 : decode cX8_comeTo 94 = .ok (.getfield 9, 3) := by decide +kernel
theorem dX8_comeTo_97 : decode cX8_comeTo 97 = .ok (.iload 7, 2) := by decide +kernel
theorem dX8_comeTo_99 : decode cX8_comeTo 99 = .ok (.iconst 0, 1) := by decide +kernel
theorem dX8_comeTo_100 : decode cX8_comeTo 100 = .ok (.iastore, 1) := by decide +kernel
theorem dX8_comeTo_101 : decode cX8_comeTo 101 = .ok (.iinc 4 1, 3) := by decide +kernel
theorem dX8_comeTo_104 : decode cX8_comeTo 104 = .ok (.iconst 1, 1) := by decide +kernel
theorem dX8_comeTo_105 : decode cX8_comeTo 105 = .ok (.istore 5, 2) := by decide +kernel
theorem dX8_comeTo_107 : decode cX8_comeTo 107 = .ok (.iinc 7 1, 3) := by decide +kernel
theorem dX8_comeTo_110 : decode cX8_comeTo 110 = .ok (.goto (-58), 3) := by decide +kernel
theorem dX8_comeTo_113 : decode cX8_comeTo 113 = .ok (.iinc 6 1, 3) := by decide +kernel
theorem dX8_comeTo_116 : decode cX8_comeTo 116 = .ok (.goto (-97), 3) := by decide +kernel
theorem dX8_comeTo_119 : decode cX8_comeTo 119 = .ok (.iload 4, 2) := by decide +kernel
theorem dX8_comeTo_121 : decode cX8_comeTo 121 = .ok (.ireturn, 1) := by decide +kernel
theorem dX9_init_0 : decode cX9_init 0 = .ok (.aload_n 0, 1) := by decide +kernel
theorem dX9_init_1 : decode cX9_init 1 = .ok (.invokespecial 1, 3) := by decide +kernel
theorem dX9_init_4 : decode cX9_init 4 = .ok (.aload_n 0, 1) := by decide +kernel
theorem dX9_init_5 : decode cX9_init 5 = .ok (.new 7, 3) := by decide +kernel
theorem dX9_init_8 : decode cX9_init 8 = .ok (.dup, 1) := by decide +kernel
theorem dX9_init_9 : decode cX9_init 9 = .ok (.invokespecial 9, 3) := by decide +kernel
theorem dX9_init_12 : decode cX9_init 12 = .ok (.putfield 10, 3) := by decide +kernel
theorem dX9_init_15 : decode cX9_init 15 = .ok (.aload_n 0, 1) := by decide +kernel
theorem dX9_init_16 : decode cX9_init 16 = .ok (.new 16, 3) := by decide +kernel
theorem dX9_init_19 : decode cX9_init 19 = .ok (.dup, 1) := by decide +kernel
theorem dX9_init_20 : decode cX9_init 20 = .ok (.aload_n 0, 1) := by decide +kernel
theorem dX9_init_21 : decode cX9_init 21 = .ok (.getfield 10, 3) := by decide +kernel
theorem dX9_init_24 : decode cX9_init 24 = .ok (.invokespecial 18, 3) := by decide +kernel
theorem dX9_init_27 : decode cX9_init 27 = .ok (.putfield 21, 3) := by decide +kernel
theorem dX9_init_30 : decode cX9_init 30 = .ok (.aload_n 0, 1) := by decide +kernel
theorem dX9_init_31 : decode cX9_init 31 = .ok (.new 16, 3) := by decide +kernel
theorem dX9_init_34 : decode cX9_init 34 = .ok (.dup, 1) := by decide +kernel
theorem dX9_init_35 : decode cX9_init 35 = .ok (.aload_n 0, 1) := by decide +kernel
theorem dX9_init_36 : decode cX9_init 36 = .ok (.getfield 10, 3) := by decide +kernel
theorem dX9_init_39 : decode cX9_init 39 = .ok (.invokespecial 18, 3) := by decide +kernel
theorem dX9_init_42 : decode cX9_init 42 = .ok (.putfield 25, 3) := by decide +kernel
theorem dX9_init_45 : decode cX9_init 45 = .ok (.aload_n 0, 1) := by decide +kernel
theorem dX9_init_46 : decode cX9_init 46 = .ok (.new 16, 3) := by decide +kernel
theorem dX9_init_49 : decode cX9_init 49 = .ok (.dup, 1) := by decide +kernel
theorem dX9_init_50 : decode cX9_init 50 = .ok (.aload_n 0, 1) := by decide +kernel
theorem dX9_init_51 : decode cX9_init 51 = .ok (.getfield 10, 3) := by decide +kernel
theorem dX9_init_54 : decode cX9_init 54 = .ok (.invokespecial 18, 3) := by decide +kernel
theorem dX9_init_57 : decode cX9_init 57 = .ok (.putfield 28, 3) := by decide +kernel
theorem dX9_init_60 : decode cX9_init 60 = .ok (.aload_n 0, 1) := by decide +kernel
theorem dX9_init_61 : decode cX9_init 61 = .ok (.new 31, 3) := by decide +kernel
theorem dX9_init_64 : decode cX9_init 64 = .ok (.dup, 1) := by decide +kernel
theorem dX9_init_65 : decode cX9_init 65 = .ok (.invokespecial 33, 3) := by decide +kernel
theorem dX9_init_68 : decode cX9_init 68 = .ok (.putfield 34, 3) := by decide +kernel
theorem dX9_init_71 : decode cX9_init 71 = .ok (.aload_n 0, 1) := by decide +kernel
theorem dX9_init_72 : decode cX9_init 72 = .ok (.new 38, 3) := by decide +kernel
theorem dX9_init_75 : decode cX9_init 75 = .ok (.dup, 1) := by decide +kernel
theorem dX9_init_76 : decode cX9_init 76 = .ok (.invokespecial 40, 3) := by decide +kernel
theorem dX9_init_79 : decode cX9_init 79 = .ok (.putfield 41, 3) := by decide +kernel
theorem dX9_init_82 : decode cX9_init 82 = .ok (.aload_n 0, 1) := by decide +kernel
theorem dX9_init_83 : decode cX9_init 83 = .ok (.new 45, 3) := by decide +kernel
theorem dX9_init_86 : decode cX9_init 86 = .ok (.dup, 1) := by decide +kernel
theorem dX9_init_87 : decode cX9_init 87 = .ok (.aload_n 0, 1) := by decide +kernel
theorem dX9_init_88 : decode cX9_init 88 = .ok (.getfield 41, 3) := by decide +kernel
theorem dX9_init_91 : decode cX9_init 91 = .ok (.invokespecial 47, 3) := by decide +kernel
theorem dX9_init_94 : decode cX9_init 94 = .ok (.putfield 50, 3) := by decide +kernel
theorem dX9_init_97 : decode cX9_init 97 = .ok (.aload_n 0, 1) := by decide +kernel
theorem dX9_init_98 : decode cX9_init 98 = .ok (.iconst 4, 1) := by decide +kernel
theorem dX9_init_99 : decode cX9_init 99 = .ok (.anewarray 54, 3) := by decide +kernel
theorem dX9_init_102 : decode cX9_init 102 = .ok (.putfield 56, 3) := by decide +kernel
theorem dX9_init_105 : decode cX9_init 105 = .ok (.iconst 0, 1) := by decide +kernel
theorem dX9_init_106 : decode cX9_init 106 = .ok (.istore_n 1, 1) := by decide +kernel
theorem dX9_init_107 : decode cX9_init 107 = .ok (.iload_n 1, 1) := by decide +kernel
theorem dX9_init_108 : decode cX9_init 108 = .ok (.iconst 4, 1) := by decide +kernel
theorem dX9_init_109 : decode cX9_init 109 = .ok (.if_icmp .ge 22, 3) := by decide +kernel
theorem dX9_init_112 : decode cX9_init 112 = .ok (.aload_n 0, 1) := by decide +kernel
theorem dX9_init_113 : decode cX9_init 113 = .ok (.getfield 56, 3) := by decide +kernel
theorem dX9_init_116 : decode cX9_init 116 = .ok (.iload_n 1, 1) := by decide +kernel
theorem dX9_init_117 : decode cX9_init 117 = .ok (.new 54, 3) := by decide +kernel
theorem dX9_init_120 : decode cX9_init 120 = .ok (.dup, 1) := by decide +kernel
theorem dX9_init_121 : decode cX9_init 121 = .ok (.invokespecial 60, 3) := by decide +kernel
theorem dX9_init_124 : decode cX9_init 124 = .ok (.aastore, 1) := by decide +kernel
theorem dX9_init_125 : decode cX9_init 125 = .ok (.iinc 1 1, 3) := by decide +kernel
theorem dX9_init_128 : decode cX9_init 128 = .ok (.goto (-21), 3) := by decide +kernel
theorem dX9_init_131 : decode cX9_init 131 = .ok (.aload_n 0, 1) := by decide +kernel
theorem dX9_init_132 : decode cX9_init 132 = .ok (.iconst 5, 1) := by decide +kernel
theorem dX9_init_133 : decode cX9_init 133 = .ok (.anewarray 61, 3) := by decide +kernel
theorem dX9_init_136 : decode cX9_init 136 = .ok (.putfield 63, 3) := by decide +kernel
theorem dX9_init_139 : decode cX9_init 139 = .ok (.iconst 0, 1) := by decide +kernel
theorem dX9_init_140 : decode cX9_init 140 = .ok (.istore_n 1, 1) := by decide +kernel
theorem dX9_init_141 : decode cX9_init 141 = .ok (.iload_n 1, 1) := by decide +kernel
theorem dX9_init_142 : decode cX9_init 142 = .ok (.iconst 5, 1) := by decide +kernel
theorem dX9_init_143 : decode cX9_init 143 = .ok (.if_icmp .ge 22, 3) := by decide +kernel
theorem dX9_init_146 : decode cX9_init 146 = .ok (.aload_n 0, 1) := by decide +kernel
theorem dX9_init_147 : decode cX9_init 147 = .ok (.getfield 63, 3) := by decide +kernel
theorem dX9_init_150 : decode cX9_init 150 = .ok (.iload_n 1, 1) := by decide +kernel
theorem dX9_init_151 : decode cX9_init 151 = .ok (.new 61, 3) := by decide +kernel
theorem dX9_init_154 : decode cX9_init 154 = .ok (.dup, 1) := by decide +kernel
theorem dX9_init_155 : decode cX9_init 155 = .ok (.invokespecial 67, 3) := by decide +kernel
theorem dX9_init_158 : decode cX9_init 158 = .ok (.aastore, 1) := by decide +kernel
theorem dX9_init_159 : decode cX9_init 159 = .ok (.iinc 1 1, 3) := by decide +kernel
theorem dX9_init_162 : decode cX9_init 162 = .ok (.goto (-21), 3) := by decide +kernel
theorem dX9_init_165 : decode cX9_init 165 = .ok (.aload_n 0, 1) := by decide +kernel
theorem dX9_init_166 : decode cX9_init 166 = .ok (.bipush 60, 2) := by decide +kernel
theorem dX9_init_168 : decode cX9_init 168 = .ok (.newarray .int, 2) := by decide +kernel
theorem dX9_init_170 : decode cX9_init 170 = .ok (.putfield 68, 3) := by decide +kernel
theorem dX9_init_173 : decode cX9_init 173 = .ok (.return_, 1) := by decide +kernel
theorem dX9_place_0 : decode cX9_place 0 = .ok (.iload_n 1, 1) := by decide +kernel
theorem dX9_place_1 : decode cX9_place 1 = .ok (.invokestatic 72, 3) := by decide +kernel
theorem dX9_place_4 : decode cX9_place 4 = .ok (.ifCond .eq 32, 3) := by decide +kernel
theorem dX9_place_7 : decode cX9_place 7 = .ok (.iload_n 2, 1) := by decide +kernel
theorem dX9_place_8 : decode cX9_place 8 = .ok (.invokestatic 76, 3) := by decide +kernel
theorem dX9_place_11 : decode cX9_place 11 = .ok (.ifCond .eq 25, 3) := by decide +kernel
theorem dX9_place_14 : decode cX9_place 14 = .ok (.iload_n 3, 1) := by decide +kernel
theorem dX9_place_15 : decode cX9_place 15 = .ok (.iconst 0, 1) := by decide +kernel
theorem dX9_place_16 : decode cX9_place 16 = .ok (.bipush 60, 2) := by decide +kernel
theorem dX9_place_18 : decode cX9_place 18 = .ok (.invokestatic 81, 3) := by decide +kernel
theorem dX9_place_21 : decode cX9_place 21 = .ok (.ifCond .eq 15, 3) := by decide +kernel
