theorem dX0_init_0 : decode cX0_init 0 = .ok (.aload_n 0, 1) := by decide +kernel
theorem dX0_init_1 : decode cX0_init 1 = .ok (.invokespecial 3, 3) := by decide +kernel
theorem dX0_init_4 : decode cX0_init 4 = .ok (.aload_n 0, 1) := by decide +kernel
theorem dX0_init_5 : decode cX0_init 5 = .ok (.new 9, 3) := by decide +kernel
theorem dX0_init_8 : decode cX0_init 8 = .ok (.dup, 1) := by decide +kernel
theorem dX0_init_9 : decode cX0_init 9 = .ok (.invokespecial 11, 3) := by decide +kernel
theorem dX0_init_12 : decode cX0_init 12 = .ok (.putfield 12, 3) := by decide +kernel
theorem dX0_init_15 : decode cX0_init 15 = .ok (.aload_n 0, 1) := by decide +kernel
theorem dX0_init_16 : decode cX0_init 16 = .ok (.new 9, 3) := by decide +kernel
theorem dX0_init_19 : decode cX0_init 19 = .ok (.dup, 1) := by decide +kernel
theorem dX0_init_20 : decode cX0_init 20 = .ok (.invokespecial 11, 3) := by decide +kernel
theorem dX0_init_23 : decode cX0_init 23 = .ok (.putfield 18, 3) := by decide +kernel
theorem dX0_init_26 : decode cX0_init 26 = .ok (.aload_n 0, 1) := by decide +kernel
theorem dX0_init_27 : decode cX0_init 27 = .ok (.bipush 16, 2) := by decide +kernel
theorem dX0_init_29 : decode cX0_init 29 = .ok (.newarray .int, 2) := by decide +kernel
theorem dX0_init_31 : decode cX0_init 31 = .ok (.putfield 21, 3) := by decide +kernel
theorem dX0_init_34 : decode cX0_init 34 = .ok (.aload_n 0, 1) := by decide +kernel
theorem dX0_init_35 : decode cX0_init 35 = .ok (.iconst 1, 1) := by decide +kernel
theorem dX0_init_36 : decode cX0_init 36 = .ok (.putfield 25, 3) := by decide +kernel
theorem dX0_init_39 : decode cX0_init 39 = .ok (.aload_n 0, 1) := by decide +kernel
theorem dX0_init_40 : decode cX0_init 40 = .ok (.iconst 0, 1) := by decide +kernel
theorem dX0_init_41 : decode cX0_init 41 = .ok (.putfield 29, 3) := by decide +kernel
theorem dX0_init_44 : decode cX0_init 44 = .ok (.aload_n 0, 1) := by decide +kernel
theorem dX0_init_45 : decode cX0_init 45 = .ok (.iconst 0, 1) := by decide +kernel
theorem dX0_init_46 : decode cX0_init 46 = .ok (.putfield 32, 3) := by decide +kernel
theorem dX0_init_49 : decode cX0_init 49 = .ok (.aload_n 0, 1) := by decide +kernel
theorem dX0_init_50 : decode cX0_init 50 = .ok (.iconst 0, 1) := by decide +kernel
theorem dX0_init_51 : decode cX0_init 51 = .ok (.putfield 35, 3) := by decide +kernel
theorem dX0_init_54 : decode cX0_init 54 = .ok (.aload_n 0, 1) := by decide +kernel
theorem dX0_init_55 : decode cX0_init 55 = .ok (.iconst 0, 1) := by decide +kernel
theorem dX0_init_56 : decode cX0_init 56 = .ok (.putfield 38, 3) := by decide +kernel
theorem dX0_init_59 : decode cX0_init 59 = .ok (.aload_n 0, 1) := by decide +kernel
theorem dX0_init_60 : decode cX0_init 60 = .ok (.iconst 0, 1) := by decide +kernel
theorem dX0_init_61 : decode cX0_init 61 = .ok (.putfield 41, 3) := by decide +kernel
theorem dX0_init_64 : decode cX0_init 64 = .ok (.aload_n 0, 1) := by decide +kernel
theorem dX0_init_65 : decode cX0_init 65 = .ok (.iconst 0, 1) := by decide +kernel
theorem dX0_init_66 : decode cX0_init 66 = .ok (.putfield 44, 3) := by decide +kernel
theorem dX0_init_69 : decode cX0_init 69 = .ok (.aload_n 0, 1) := by decide +kernel
theorem dX0_init_70 : decode cX0_init 70 = .ok (.iload_n 1, 1) := by decide +kernel
theorem dX0_init_71 : decode cX0_init 71 = .ok (.putfield 47, 3) := by decide +kernel
theorem dX0_init_74 : decode cX0_init 74 = .ok (.aload_n 0, 1) := by decide +kernel
theorem dX0_init_75 : decode cX0_init 75 = .ok (.iload_n 2, 1) := by decide +kernel
theorem dX0_init_76 : decode cX0_init 76 = .ok (.putfield 50, 3) := by decide +kernel
theorem dX0_init_79 : decode cX0_init 79 = .ok (.aload_n 0, 1) := by decide +kernel
theorem dX0_init_80 : decode cX0_init 80 = .ok (.iload_n 2, 1) := by decide +kernel
theorem dX0_init_81 : decode cX0_init 81 = .ok (.putfield 53, 3) := by decide +kernel
theorem dX0_init_84 : decode cX0_init 84 = .ok (.return_, 1) := by decide +kernel
theorem dX0_isAble_0 : decode cX0_isAble 0 = .ok (.aload_n 0, 1) := by decide +kernel
theorem dX0_isAble_1 : decode cX0_isAble 1 = .ok (.getfield 12, 3) := by decide +kernel
theorem dX0_isAble_4 : decode cX0_isAble 4 = .ok (.getfield 56, 3) := by decide +kernel
theorem dX0_isAble_7 : decode cX0_isAble 7 = .ok (.ifCond .le 14, 3) := by decide +kernel
theorem dX0_isAble_10 : decode cX0_isAble 10 = .ok (.aload_n 0, 1) := by decide +kernel
theorem dX0_isAble_11 : decode cX0_isAble 11 = .ok (.getfield 53, 3) := by decide +kernel
theorem dX0_isAble_14 : decode cX0_isAble 14 = .ok (.ifCond .le 7, 3) := by decide +kernel
theorem dX0_isAble_17 : decode cX0_isAble 17 = .ok (.iconst 1, 1) := by decide +kernel
theorem dX0_isAble_18 : decode cX0_isAble 18 = .ok (.goto 4, 3) := by decide +kernel
theorem dX0_isAble_21 : decode cX0_isAble 21 = .ok (.iconst 0, 1) := by decide +kernel
theorem dX0_isAble_22 : decode cX0_isAble 22 = .ok (.ireturn, 1) := by decide +kernel
theorem dX0_isInsidePacket_0 : decode cX0_isInsidePacket 0 = .ok (.aload_n 0, 1) := by decide +kernel
theorem dX0_isInsidePacket_1 : decode cX0_isInsidePacket 1 = .ok (.getfield 12, 3) := by decide +kernel
theorem dX0_isInsidePacket_4 : decode cX0_isInsidePacket 4 = .ok (.getfield 59, 3) := by decide +kernel
theorem dX0_isInsidePacket_7 : decode cX0_isInsidePacket 7 = .ok (.ifnull 20, 3) := by decide +kernel
theorem dX0_isInsidePacket_10 : decode cX0_isInsidePacket 10 = .ok (.aload_n 0, 1) := by decide +kernel
theorem dX0_isInsidePacket_11 : decode cX0_isInsidePacket 11 = .ok (.getfield 12, 3) := by decide +kernel
theorem dX0_isInsidePacket_14 : decode cX0_isInsidePacket 14 = .ok (.getfield 59, 3) := by decide +kernel
theorem dX0_isInsidePacket_17 : decode cX0_isInsidePacket 17 = .ok (.getfield 63, 3) := by decide +kernel
theorem dX0_isInsidePacket_20 : decode cX0_isInsidePacket 20 = .ok (.ifCond .le 7, 3) := by decide +kernel
theorem dX0_isInsidePacket_23 : decode cX0_isInsidePacket 23 = .ok (.iconst 1, 1) := by decide +kernel
theorem dX0_isInsidePacket_24 : decode cX0_isInsidePacket 24 = .ok (.goto 4, 3) := by decide +kernel
theorem dX0_isInsidePacket_27 : decode cX0_isInsidePacket 27 = .ok (.iconst 0, 1) := by decide +kernel
theorem dX0_isInsidePacket_28 : decode cX0_isInsidePacket 28 = .ok (.ireturn, 1) := by decide +kernel
theorem dX0_getCreditsBack_0 : decode cX0_getCreditsBack 0 = .ok (.iload_n 1, 1) := by decide +kernel
theorem dX0_getCreditsBack_1 : decode cX0_getCreditsBack 1 = .ok (.bipush 15, 2) := by decide +kernel
theorem dX0_getCreditsBack_3 : decode cX0_getCreditsBack 3 = .ok (.iand, 1) := by decide +kernel
theorem dX0_getCreditsBack_4 : decode cX0_getCreditsBack 4 = .ok (.istore_n 2, 1) := by decide +kernel
theorem dX0_getCreditsBack_5 : decode cX0_getCreditsBack 5 = .ok (.aload_n 0, 1) := by decide +kernel
theorem dX0_getCreditsBack_6 : decode cX0_getCreditsBack 6 = .ok (.dup, 1) := by decide +kernel
theorem dX0_getCreditsBack_7 : decode cX0_getCreditsBack 7 = .ok (.getfield 53, 3) := by decide +kernel
theorem dX0_getCreditsBack_10 : decode cX0_getCreditsBack 10 = .ok (.aload_n 0, 1) := by decide +kernel
theorem dX0_getCreditsBack_11 : decode cX0_getCreditsBack 11 = .ok (.getfield 21, 3) := by decide +kernel
theorem dX0_getCreditsBack_14 : decode cX0_getCreditsBack 14 = .ok (.iload_n 2, 1) := by decide +kernel
theorem dX0_getCreditsBack_15 : decode cX0_getCreditsBack 15 = .ok (.iaload, 1) := by decide +kernel
theorem dX0_getCreditsBack_16 : decode cX0_getCreditsBack 16 = .ok (.iadd, 1) := by decide +kernel
theorem dX0_getCreditsBack_17 : decode cX0_getCreditsBack 17 = .ok (.putfield 53, 3) := by decide +kernel
theorem dX0_getCreditsBack_20 : decode cX0_getCreditsBack 20 = .ok (.aload_n 0, 1) := by decide +kernel
theorem dX0_getCreditsBack_21 : decode cX0_getCreditsBack 21 = .ok (.getfield 21, 3) := by decide +kernel
theorem dX0_getCreditsBack_24 : decode cX0_getCreditsBack 24 = .ok (.iload_n 2, 1) := by decide +kernel
theorem dX0_getCreditsBack_25 : decode cX0_getCreditsBack 25 = .ok (.iconst 0, 1) := by decide +kernel
theorem dX0_getCreditsBack_26 : decode cX0_getCreditsBack 26 = .ok (.iastore, 1) := by decide +kernel
theorem dX0_getCreditsBack_27 : decode cX0_getCreditsBack 27 = .ok (.return_, 1) := by decide +kernel
theorem dX0_send_0 : decode cX0_send 0 = .ok (.aload_n 0, 1) := by decide +kernel
theorem dX0_send_1 : decode cX0_send 1 = .ok (.getfield 12, 3) := by decide +kernel
theorem dX0_send_4 : decode cX0_send 4 = .ok (.invokevirtual 66, 3) := by decide +kernel
theorem dX0_send_7 : decode cX0_send 7 = .ok (.astore_n 1, 1) := by decide +kernel
theorem dX0_send_8 : decode cX0_send 8 = .ok (.aload_n 1, 1) := by decide +kernel
theorem dX0_send_9 : decode cX0_send 9 = .ok (.ifnull 33, 3) := by decide +kernel
theorem dX0_send_12 : decode cX0_send 12 = .ok (.aload_n 0, 1) := by decide +kernel
theorem dX0_send_13 : decode cX0_send 13 = .ok (.dup, 1) := by decide +kernel
theorem dX0_send_14 : decode cX0_send 14 = .ok (.getfield 53, 3) := by decide +kernel
theorem dX0_send_17 : decode cX0_send 17 = .ok (.iconst 1, 1) := by decide +kernel
theorem dX0_send_18 : decode cX0_send 18 = .ok (.isub, 1) := by decide +kernel
theorem dX0_send_19 : decode cX0_send 19 = .ok (.putfield 53, 3) := by decide +kernel
theorem dX0_send_22 : decode cX0_send 22 = .ok (.aload_n 0, 1) := by decide +kernel
theorem dX0_send_23 : decode cX0_send 23 = .ok (.dup, 1) := by decide +kernel
theorem dX0_send_24 : decode cX0_send 24 = .ok (.getfield 32, 3) := by decide +kernel
theorem dX0_send_27 : decode cX0_send 27 = .ok (.iconst 1, 1) := by decide +kernel
theorem dX0_send_28 : decode cX0_send 28 = .ok (.iadd, 1) := by decide +kernel
theorem dX0_send_29 : decode cX0_send 29 = .ok (.putfield 32, 3) := by decide +kernel
theorem dX0_send_32 : decode cX0_send 32 = .ok (.aload_n 0, 1) := by decide +kernel
theorem dX0_send_33 : decode cX0_send 33 = .ok (.dup, 1) := by decide +kernel
theorem dX0_send_34 : decode cX0_send 34 = .ok (.getfield 29, 3) := by decide +kernel
theorem dX0_send_37 : decode cX0_send 37 = .ok (.iconst 1, 1) := by decide +kernel
theorem dX0_send_38 : decode cX0_send 38 = .ok (.iadd, 1) := by decide +kernel
theorem dX0_send_39 : decode cX0_send 39 = .ok (.putfield 29, 3) := by decide +kernel
theorem dX0_send_42 : decode cX0_send 42 = .ok (.aload_n 1, 1) := by decide +kernel
theorem dX0_send_43 : decode cX0_send 43 = .ok (.areturn, 1) := by decide +kernel
theorem dX0_land_0 : decode cX0_land 0 = .ok (.aload_n 0, 1) := by decide +kernel
theorem dX0_land_1 : decode cX0_land 1 = .ok (.dup, 1) := by decide +kernel
theorem dX0_land_2 : decode cX0_land 2 = .ok (.getfield 29, 3) := by decide +kernel
theorem dX0_land_5 : decode cX0_land 5 = .ok (.iconst 1, 1) := by decide +kernel
theorem dX0_land_6 : decode cX0_land 6 = .ok (.isub, 1) := by decide +kernel
theorem dX0_land_7 : decode cX0_land 7 = .ok (.putfield 29, 3) := by decide +kernel
theorem dX0_land_10 : decode cX0_land 10 = .ok (.aload_n 0, 1) := by decide +kernel
theorem dX0_land_11 : decode cX0_land 11 = .ok (.getfield 18, 3) := by decide +kernel
theorem dX0_land_14 : decode cX0_land 14 = .ok (.aload_n 1, 1) := by decide +kernel
theorem dX0_land_15 : decode cX0_land 15 = .ok (.invokevirtual 70, 3) := by decide +kernel
theorem dX0_land_18 : decode cX0_land 18 = .ok (.aload_n 0, 1) := by decide +kernel
theorem dX0_land_19 : decode cX0_land 19 = .ok (.aload_n 0, 1) := by decide +kernel
theorem dX0_land_20 : decode cX0_land 20 = .ok (.getfield 44, 3) := by decide +kernel
theorem dX0_land_23 : decode cX0_land 23 = .ok (.aload_n 0, 1) := by decide +kernel
theorem dX0_land_24 : decode cX0_land 24 = .ok (.getfield 18, 3) := by decide +kernel
theorem dX0_land_27 : decode cX0_land 27 = .ok (.getfield 56, 3) := by decide +kernel
theorem dX0_land_30 : decode cX0_land 30 = .ok (.invokestatic 74, 3) := by decide +kernel
theorem dX0_land_33 : decode cX0_land 33 = .ok (.putfield 44, 3) := by decide +kernel
theorem dX0_land_36 : decode cX0_land 36 = .ok (.return_, 1) := by decide +kernel
theorem dX0_drain_0 : decode cX0_drain 0 = .ok (.aload_n 0, 1) := by decide +kernel
theorem dX0_drain_1 : decode cX0_drain 1 = .ok (.getfield 18, 3) := by decide +kernel
theorem dX0_drain_4 : decode cX0_drain 4 = .ok (.invokevirtual 66, 3) := by decide +kernel
theorem dX0_drain_7 : decode cX0_drain 7 = .ok (.astore_n 3, 1) := by decide +kernel
theorem dX0_drain_8 : decode cX0_drain 8 = .ok (.aload_n 3, 1) := by decide +kernel
theorem dX0_drain_9 : decode cX0_drain 9 = .ok (.ifnonnull 5, 3) := by decide +kernel
theorem dX0_drain_12 : decode cX0_drain 12 = .ok (.aconst_null, 1) := by decide +kernel
theorem dX0_drain_13 : decode cX0_drain 13 = .ok (.areturn, 1) := by decide +kernel
theorem dX0_drain_14 : decode cX0_drain 14 = .ok (.aload_n 0, 1) := by decide +kernel
theorem dX0_drain_15 : decode cX0_drain 15 = .ok (.getfield 21, 3) := by decide +kernel
theorem dX0_drain_18 : decode cX0_drain 18 = .ok (.iload_n 1, 1) := by decide +kernel
theorem dX0_drain_19 : decode cX0_drain 19 = .ok (.iload_n 2, 1) := by decide +kernel
theorem dX0_drain_20 : decode cX0_drain 20 = .ok (.iadd, 1) := by decide +kernel
theorem dX0_drain_21 : decode cX0_drain 21 = .ok (.bipush 15, 2) := by decide +kernel
theorem dX0_drain_23 : decode cX0_drain 23 = .ok (.iand, 1) := by decide +kernel
theorem dX0_drain_24 : decode cX0_drain 24 = .ok (.dup2, 1) := by decide +kernel
theorem dX0_drain_25 : decode cX0_drain 25 = .ok (.iaload, 1) := by decide +kernel
theorem dX0_drain_26 : decode cX0_drain 26 = .ok (.iconst 1, 1) := by decide +kernel
theorem dX0_drain_27 : decode cX0_drain 27 = .ok (.iadd, 1) := by decide +kernel
theorem dX0_drain_28 : decode cX0_drain 28 = .ok (.iastore, 1) := by decide +kernel
theorem dX0_drain_29 : decode cX0_drain 29 = .ok (.aload_n 3, 1) := by decide +kernel
theorem dX0_drain_30 : decode cX0_drain 30 = .ok (.invokevirtual 80, 3) := by decide +kernel
theorem dX0_drain_33 : decode cX0_drain 33 = .ok (.ifCond .ne 18, 3) := by decide +kernel
theorem dX0_drain_36 : decode cX0_drain 36 = .ok (.aload_n 0, 1) := by decide +kernel
theorem dX0_drain_37 : decode cX0_drain 37 = .ok (.dup, 1) := by decide +kernel
theorem dX0_drain_38 : decode cX0_drain 38 = .ok (.getfield 41, 3) := by decide +kernel
theorem dX0_drain_41 : decode cX0_drain 41 = .ok (.aload_n 3, 1) := by decide +kernel
theorem dX0_drain_42 : decode cX0_drain 42 = .ok (.invokevirtual 84, 3) := by decide +kernel
theorem dX0_drain_45 : decode cX0_drain 45 = .ok (.iadd, 1) := by decide +kernel
theorem dX0_drain_46 : decode cX0_drain 46 = .ok (.putfield 41, 3) := by decide +kernel
theorem dX0_drain_49 : decode cX0_drain 49 = .ok (.aconst_null, 1) := by decide +kernel
theorem dX0_drain_50 : decode cX0_drain 50 = .ok (.areturn, 1) := by decide +kernel
theorem dX0_drain_51 : decode cX0_drain 51 = .ok (.aload_n 0, 1) := by decide +kernel
theorem dX0_drain_52 : decode cX0_drain 52 = .ok (.iconst 0, 1) := by decide +kernel
theorem dX0_drain_53 : decode cX0_drain 53 = .ok (.putfield 41, 3) := by decide +kernel
theorem dX0_drain_56 : decode cX0_drain 56 = .ok (.aload_n 0, 1) := by decide +kernel
theorem dX0_drain_57 : decode cX0_drain 57 = .ok (.dup, 1) := by decide +kernel
theorem dX0_drain_58 : decode cX0_drain 58 = .ok (.getfield 35, 3) := by decide +kernel
theorem dX0_drain_61 : decode cX0_drain 61 = .ok (.iconst 1, 1) := by decide +kernel
theorem dX0_drain_62 : decode cX0_drain 62 = .ok (.iadd, 1) := by decide +kernel
theorem dX0_drain_63 : decode cX0_drain 63 = .ok (.putfield 35, 3) := by decide +kernel
theorem dX0_drain_66 : decode cX0_drain 66 = .ok (.aload_n 3, 1) := by decide +kernel
theorem dX0_drain_67 : decode cX0_drain 67 = .ok (.getfield 87, 3) := by decide +kernel
theorem dX0_drain_70 : decode cX0_drain 70 = .ok (.areturn, 1) := by decide +kernel
theorem dX0_creditsReturning_0 : decode cX0_creditsReturning 0 = .ok (.iconst 0, 1) := by decide +kernel
theorem dX0_creditsReturning_1 : decode cX0_creditsReturning 1 = .ok (.istore_n 1, 1) := by decide +kernel
theorem dX0_creditsReturning_2 : decode cX0_creditsReturning 2 = .ok (.aload_n 0, 1) := by decide +kernel
theorem dX0_creditsReturning_3 : decode cX0_creditsReturning 3 = .ok (.getfield 21, 3) := by decide +kernel
theorem dX0_creditsReturning_6 : decode cX0_creditsReturning 6 = .ok (.astore_n 2, 1) := by decide +kernel
theorem dX0_creditsReturning_7 : decode cX0_creditsReturning 7 = .ok (.aload_n 2, 1) := by decide +kernel
theorem dX0_creditsReturning_8 : decode cX0_creditsReturning 8 = .ok (.arraylength, 1) := by decide +kernel
theorem dX0_creditsReturning_9 : decode cX0_creditsReturning 9 = .ok (.istore_n 3, 1) := by decide +kernel
theorem dX0_creditsReturning_10 : decode cX0_creditsReturning 10 = .ok (.iconst 0, 1) := by decide +kernel
theorem dX0_creditsReturning_11 : decode cX0_creditsReturning 11 = .ok (.istore 4, 2) := by decide +kernel
theorem dX0_creditsReturning_13 : decode cX0_creditsReturning 13 = .ok (.iload 4, 2) := by decide +kernel
theorem dX0_creditsReturning_15 : decode cX0_creditsReturning 15 = .ok (.iload_n 3, 1) := by decide +kernel
theorem dX0_creditsReturning_16 : decode cX0_creditsReturning 16 = .ok (.if_icmp .ge 20, 3) := by decide +kernel
theorem dX0_creditsReturning_19 : decode cX0_creditsReturning 19 = .ok (.aload_n 2, 1) := by decide +kernel
theorem dX0_creditsReturning_20 : decode cX0_creditsReturning 20 = .ok (.iload 4, 2) := by decide +kernel
theorem dX0_creditsReturning_22 : decode cX0_creditsReturning 22 = .ok (.iaload, 1) := by decide +kernel
theorem dX0_creditsReturning_23 : decode cX0_creditsReturning 23 = .ok (.istore 5, 2) := by decide +kernel
theorem dX0_creditsReturning_25 : decode cX0_creditsReturning 25 = .ok (.iload_n 1, 1) := by decide +kernel
theorem dX0_creditsReturning_26 : decode cX0_creditsReturning 26 = .ok (.iload 5, 2) := by decide +kernel
theorem dX0_creditsReturning_28 : decode cX0_creditsReturning 28 = .ok (.iadd, 1) := by decide +kernel
theorem dX0_creditsReturning_29 : decode cX0_creditsReturning 29 = .ok (.istore_n 1, 1) := by decide +kernel
theorem dX0_creditsReturning_30 : decode cX0_creditsReturning 30 = .ok (.iinc 4 1, 3) := by decide +kernel
theorem dX0_creditsReturning_33 : decode cX0_creditsReturning 33 = .ok (.goto (-20), 3) := by decide +kernel
theorem dX0_creditsReturning_36 : decode cX0_creditsReturning 36 = .ok (.iload_n 1, 1) := by decide +kernel
theorem dX0_creditsReturning_37 : decode cX0_creditsReturning 37 = .ok (.ireturn, 1) := by decide +kernel
theorem dX0_property_0 : decode cX0_property 0 = .ok (.iload_n 1, 1) := by decide +kernel
theorem dX0_property_1 : decode cX0_property 1 = .ok (.tableswitch 134 0 11 #[63, 68, 73, 78, 83, 88, 96, 104, 109, 114, 124, 129], 63) := by decide +kernel
theorem dX0_property_64 : decode cX0_property 64 = .ok (.aload_n 0, 1) := by decide +kernel
theorem dX0_property_65 : decode cX0_property 65 = .ok (.getfield 50, 3) := by decide +kernel
theorem dX0_property_68 : decode cX0_property 68 = .ok (.ireturn, 1) := by decide +kernel
theorem dX0_property_69 : decode cX0_property 69 = .ok (.aload_n 0, 1) := by decide +kernel
theorem dX0_property_70 : decode cX0_property 70 = .ok (.getfield 25, 3) := by decide +kernel
theorem dX0_property_73 : decode cX0_property 73 = .ok (.ireturn, 1) := by decide +kernel
theorem dX0_property_74 : decode cX0_property 74 = .ok (.aload_n 0, 1) := by decide +kernel
theorem dX0_property_75 : decode cX0_property 75 = .ok (.getfield 53, 3) := by decide +kernel
theorem dX0_property_78 : decode cX0_property 78 = .ok (.ireturn, 1) := by decide +kernel
theorem dX0_property_79 : decode cX0_property 79 = .ok (.aload_n 0, 1) := by decide +kernel
theorem dX0_property_80 : decode cX0_property 80 = .ok (.invokevirtual 91, 3) := by decide +kernel
theorem dX0_property_83 : decode cX0_property 83 = .ok (.ireturn, 1) := by decide +kernel
theorem dX0_property_84 : decode cX0_property 84 = .ok (.aload_n 0, 1) := by decide +kernel
theorem dX0_property_85 : decode cX0_property 85 = .ok (.getfield 29, 3) := by decide +kernel
theorem dX0_property_88 : decode cX0_property 88 = .ok (.ireturn, 1) := by decide +kernel
theorem dX0_property_89 : decode cX0_property 89 = .ok (.aload_n 0, 1) := by decide +kernel
theorem dX0_property_90 : decode cX0_property 90 = .ok (.getfield 18, 3) := by decide +kernel
theorem dX0_property_93 : decode cX0_property 93 = .ok (.getfield 56, 3) := by decide +kernel
theorem dX0_property_96 : decode cX0_property 96 = .ok (.ireturn, 1) := by decide +kernel
theorem dX0_property_97 : decode cX0_property 97 = .ok (.aload_n 0, 1) := by decide +kernel
theorem dX0_property_98 : decode cX0_property 98 = .ok (.getfield 12, 3) := by decide +kernel
theorem dX0_property_101 : decode cX0_property 101 = .ok (.getfield 56, 3) := by decide +kernel
theorem dX0_property_104 : decode cX0_property 104 = .ok (.ireturn, 1) := by decide +kernel
theorem dX0_property_105 : decode cX0_property 105 = .ok (.aload_n 0, 1) := by decide +kernel
theorem dX0_property_106 : decode cX0_property 106 = .ok (.getfield 32, 3) := by decide +kernel
theorem dX0_property_109 : decode cX0_property 109 = .ok (.ireturn, 1) := by decide +kernel
theorem dX0_property_110 : decode cX0_property 110 = .ok (.aload_n 0, 1) := by decide +kernel
theorem dX0_property_111 : decode cX0_property 111 = .ok (.getfield 35, 3) := by decide +kernel
theorem dX0_property_114 : decode cX0_property 114 = .ok (.ireturn, 1) := by decide +kernel
theorem dX0_property_115 : decode cX0_property 115 = .ok (.aload_n 0, 1) := by decide +kernel
theorem dX0_property_116 : decode cX0_property 116 = .ok (.getfield 35, 3) := by decide +kernel
theorem dX0_property_119 : decode cX0_property 119 = .ok (.aload_n 0, 1) := by decide +kernel
theorem dX0_property_120 : decode cX0_property 120 = .ok (.getfield 38, 3) := by decide +kernel
theorem dX0_property_123 : decode cX0_property 123 = .ok (.isub, 1) := by decide +kernel
theorem dX0_property_124 : decode cX0_property 124 = .ok (.ireturn, 1) := by decide +kernel
theorem dX0_property_125 : decode cX0_property 125 = .ok (.aload_n 0, 1) := by decide +kernel
theorem dX0_property_126 : decode cX0_property 126 = .ok (.getfield 41, 3) := by decide +kernel
theorem dX0_property_129 : decode cX0_property 129 = .ok (.ireturn, 1) := by decide +kernel
theorem dX0_property_130 : decode cX0_property 130 = .ok (.aload_n 0, 1) := by decide +kernel
theorem dX0_property_131 : decode cX0_property 131 = .ok (.getfield 44, 3) := by decide +kernel
theorem dX0_property_134 : decode cX0_property 134 = .ok (.ireturn, 1) := by decide +kernel
theorem dX0_property_135 : decode cX0_property 135 = .ok (.iconst (-1), 1) := by decide +kernel
theorem dX0_property_136 : decode cX0_property 136 = .ok (.ireturn, 1) := by decide +kernel
theorem dX1_init_0 : decode cX1_init 0 = .ok (.aload_n 0, 1) := by decide +kernel
theorem dX1_init_1 : decode cX1_init 1 = .ok (.invokespecial 3, 3) := by decide +kernel
theorem dX1_init_4 : decode cX1_init 4 = .ok (.aload_n 0, 1) := by decide +kernel
theorem dX1_init_5 : decode cX1_init 5 = .ok (.aconst_null, 1) := by decide +kernel
theorem dX1_init_6 : decode cX1_init 6 = .ok (.putfield 9, 3) := by decide +kernel
theorem dX1_init_9 : decode cX1_init 9 = .ok (.aload_n 0, 1) := by decide +kernel
theorem dX1_init_10 : decode cX1_init 10 = .ok (.aload_n 1, 1) := by decide +kernel
theorem dX1_init_11 : decode cX1_init 11 = .ok (.putfield 15, 3) := by decide +kernel
theorem dX1_init_14 : decode cX1_init 14 = .ok (.aload_n 0, 1) := by decide +kernel
theorem dX1_init_15 : decode cX1_init 15 = .ok (.iload_n 2, 1) := by decide +kernel
theorem dX1_init_16 : decode cX1_init 16 = .ok (.putfield 19, 3) := by decide +kernel
theorem dX1_init_19 : decode cX1_init 19 = .ok (.return_, 1) := by decide +kernel
theorem dX1_isLast_0 : decode cX1_isLast 0 = .ok (.aload_n 0, 1) := by decide +kernel
theorem dX1_isLast_1 : decode cX1_isLast 1 = .ok (.getfield 19, 3) := by decide +kernel
theorem dX1_isLast_4 : decode cX1_isLast 4 = .ok (.aload_n 0, 1) := by decide +kernel
theorem dX1_isLast_5 : decode cX1_isLast 5 = .ok (.getfield 15, 3) := by decide +kernel
theorem dX1_isLast_8 : decode cX1_isLast 8 = .ok (.getfield 23, 3) := by decide +kernel
theorem dX1_isLast_11 : decode cX1_isLast 11 = .ok (.iconst 1, 1) := by decide +kernel
theorem dX1_isLast_12 : decode cX1_isLast 12 = .ok (.isub, 1) := by decide +kernel
theorem dX1_isLast_13 : decode cX1_isLast 13 = .ok (.if_icmp .ne 7, 3) := by decide +kernel
theorem dX1_isLast_16 : decode cX1_isLast 16 = .ok (.iconst 1, 1) := by decide +kernel
theorem dX1_isLast_17 : decode cX1_isLast 17 = .ok (.goto 4, 3) := by decide +kernel
theorem dX1_isLast_20 : decode cX1_isLast 20 = .ok (.iconst 0, 1) := by decide +kernel
theorem dX1_isLast_21 : decode cX1_isLast 21 = .ok (.ireturn, 1) := by decide +kernel
theorem dX1_size_0 : decode cX1_size 0 = .ok (.aload_n 0, 1) := by decide +kernel
theorem dX1_size_1 : decode cX1_size 1 = .ok (.invokevirtual 28, 3) := by decide +kernel
theorem dX1_size_4 : decode cX1_size 4 = .ok (.ifCond .eq 21, 3) := by decide +kernel
theorem dX1_size_7 : decode cX1_size 7 = .ok (.aload_n 0, 1) := by decide +kernel
theorem dX1_size_8 : decode cX1_size 8 = .ok (.getfield 15, 3) := by decide +kernel
theorem dX1_size_11 : decode cX1_size 11 = .ok (.getfield 32, 3) := by decide +kernel
theorem dX1_size_14 : decode cX1_size 14 = .ok (.arraylength, 1) := by decide +kernel
theorem dX1_size_15 : decode cX1_size 15 = .ok (.iconst 4, 1) := by decide +kernel
theorem dX1_size_16 : decode cX1_size 16 = .ok (.aload_n 0, 1) := by decide +kernel
theorem dX1_size_17 : decode cX1_size 17 = .ok (.getfield 19, 3) := by decide +kernel
theorem dX1_size_20 : decode cX1_size 20 = .ok (.imul, 1) := by decide +kernel
theorem dX1_size_21 : decode cX1_size 21 = .ok (.isub, 1) := by decide +kernel
theorem dX1_size_22 : decode cX1_size 22 = .ok (.goto 4, 3) := by decide +kernel
theorem dX1_size_25 : decode cX1_size 25 = .ok (.iconst 4, 1) := by decide +kernel
theorem dX1_size_26 : decode cX1_size 26 = .ok (.ireturn, 1) := by decide +kernel
theorem dX1_property_0 : decode cX1_property 0 = .ok (.iload_n 1, 1) := by decide +kernel
theorem dX1_property_1 : decode cX1_property 1 = .ok (.tableswitch 60 0 3 #[31, 42, 50, 55], 31) := by decide +kernel
theorem dX1_property_32 : decode cX1_property 32 = .ok (.aload_n 0, 1) := by decide +kernel
theorem dX1_property_33 : decode cX1_property 33 = .ok (.getfield 15, 3) := by decide +kernel
theorem dX1_property_36 : decode cX1_property 36 = .ok (.getfield 36, 3) := by decide +kernel
theorem dX1_property_39 : decode cX1_property 39 = .ok (.getfield 40, 3) := by decide +kernel
theorem dX1_property_42 : decode cX1_property 42 = .ok (.ireturn, 1) := by decide +kernel
theorem dX1_property_43 : decode cX1_property 43 = .ok (.aload_n 0, 1) := by decide +kernel
theorem dX1_property_44 : decode cX1_property 44 = .ok (.getfield 15, 3) := by decide +kernel
theorem dX1_property_47 : decode cX1_property 47 = .ok (.getfield 43, 3) := by decide +kernel
theorem dX1_property_50 : decode cX1_property 50 = .ok (.ireturn, 1) := by decide +kernel
theorem dX1_property_51 : decode cX1_property 51 = .ok (.aload_n 0, 1) := by decide +kernel
theorem dX1_property_52 : decode cX1_property 52 = .ok (.getfield 19, 3) := by decide +kernel
theorem dX1_property_55 : decode cX1_property 55 = .ok (.ireturn, 1) := by decide +kernel
theorem dX1_property_56 : decode cX1_property 56 = .ok (.aload_n 0, 1) := by decide +kernel
theorem dX1_property_57 : decode cX1_property 57 = .ok (.invokevirtual 44, 3) := by decide +kernel
theorem dX1_property_60 : decode cX1_property 60 = .ok (.ireturn, 1) := by decide +kernel
theorem dX1_property_61 : decode cX1_property 61 = .ok (.iconst (-1), 1) := by decide +kernel
theorem dX1_property_62 : decode cX1_property 62 = .ok (.ireturn, 1) := by decide +kernel
theorem dX2_init_0 : decode cX2_init 0 = .ok (.aload_n 0, 1) := by decide +kernel
theorem dX2_init_1 : decode cX2_init 1 = .ok (.invokespecial 1, 3) := by decide +kernel
theorem dX2_init_4 : decode cX2_init 4 = .ok (.aload_n 0, 1) := by decide +kernel
theorem dX2_init_5 : decode cX2_init 5 = .ok (.aconst_null, 1) := by decide +kernel
theorem dX2_init_6 : decode cX2_init 6 = .ok (.putfield 7, 3) := by decide +kernel
theorem dX2_init_9 : decode cX2_init 9 = .ok (.aload_n 0, 1) := by decide +kernel
theorem dX2_init_10 : decode cX2_init 10 = .ok (.aconst_null, 1) := by decide +kernel
theorem dX2_init_11 : decode cX2_init 11 = .ok (.putfield 13, 3) := by decide +kernel
theorem dX2_init_14 : decode cX2_init 14 = .ok (.aload_n 0, 1) := by decide +kernel
theorem dX2_init_15 : decode cX2_init 15 = .ok (.iconst 0, 1) := by decide +kernel
theorem dX2_init_16 : decode cX2_init 16 = .ok (.putfield 16, 3) := by decide +kernel
theorem dX2_init_19 : decode cX2_init 19 = .ok (.return_, 1) := by decide +kernel
theorem dX2_add_0 : decode cX2_add 0 = .ok (.aload_n 0, 1) := by decide +kernel
theorem dX2_add_1 : decode cX2_add 1 = .ok (.getfield 13, 3) := by decide +kernel
theorem dX2_add_4 : decode cX2_add 4 = .ok (.ifnonnull 11, 3) := by decide +kernel
theorem dX2_add_7 : decode cX2_add 7 = .ok (.aload_n 0, 1) := by decide +kernel
theorem dX2_add_8 : decode cX2_add 8 = .ok (.aload_n 1, 1) := by decide +kernel
theorem dX2_add_9 : decode cX2_add 9 = .ok (.putfield 7, 3) := by decide +kernel
theorem dX2_add_12 : decode cX2_add 12 = .ok (.goto 11, 3) := by decide +kernel
theorem dX2_add_15 : decode cX2_add 15 = .ok (.aload_n 0, 1) := by decide +kernel
theorem dX2_add_16 : decode cX2_add 16 = .ok (.getfield 13, 3) := by decide +kernel
theorem dX2_add_19 : decode cX2_add 19 = .ok (.aload_n 1, 1) := by decide +kernel
theorem dX2_add_20 : decode cX2_add 20 = .ok (.putfield 20, 3) := by decide +kernel
theorem dX2_add_23 : decode cX2_add 23 = .ok (.aload_n 0, 1) := by decide +kernel
theorem dX2_add_24 : decode cX2_add 24 = .ok (.aload_n 1, 1) := by decide +kernel
theorem dX2_add_25 : decode cX2_add 25 = .ok (.putfield 13, 3) := by decide +kernel
theorem dX2_add_28 : decode cX2_add 28 = .ok (.aload_n 0, 1) := by decide +kernel
theorem dX2_add_29 : decode cX2_add 29 = .ok (.dup, 1) := by decide +kernel
theorem dX2_add_30 : decode cX2_add 30 = .ok (.getfield 16, 3) := by decide +kernel
theorem dX2_add_33 : decode cX2_add 33 = .ok (.iconst 1, 1) := by decide +kernel
theorem dX2_add_34 : decode cX2_add 34 = .ok (.iadd, 1) := by decide +kernel
theorem dX2_add_35 : decode cX2_add 35 = .ok (.putfield 16, 3) := by decide +kernel
theorem dX2_add_38 : decode cX2_add 38 = .ok (.return_, 1) := by decide +kernel
theorem dX2_removeFirst_0 : decode cX2_removeFirst 0 = .ok (.aload_n 0, 1) := by decide +kernel
theorem dX2_removeFirst_1 : decode cX2_removeFirst 1 = .ok (.getfield 7, 3) := by decide +kernel
theorem dX2_removeFirst_4 : decode cX2_removeFirst 4 = .ok (.astore_n 1, 1) := by decide +kernel
theorem dX2_removeFirst_5 : decode cX2_removeFirst 5 = .ok (.aload_n 1, 1) := by decide +kernel
theorem dX2_removeFirst_6 : decode cX2_removeFirst 6 = .ok (.ifnonnull 5, 3) := by decide +kernel
theorem dX2_removeFirst_9 : decode cX2_removeFirst 9 = .ok (.aconst_null, 1) := by decide +kernel
theorem dX2_removeFirst_10 : decode cX2_removeFirst 10 = .ok (.areturn, 1) := by decide +kernel
theorem dX2_removeFirst_11 : decode cX2_removeFirst 11 = .ok (.aload_n 0, 1) := by decide +kernel
theorem dX2_removeFirst_12 : decode cX2_removeFirst 12 = .ok (.aload_n 1, 1) := by decide +kernel
theorem dX2_removeFirst_13 : decode cX2_removeFirst 13 = .ok (.getfield 20, 3) := by decide +kernel
theorem dX2_removeFirst_16 : decode cX2_removeFirst 16 = .ok (.putfield 7, 3) := by decide +kernel
theorem dX2_removeFirst_19 : decode cX2_removeFirst 19 = .ok (.aload_n 1, 1) := by decide +kernel
theorem dX2_removeFirst_20 : decode cX2_removeFirst 20 = .ok (.aconst_null, 1) := by decide +kernel
theorem dX2_removeFirst_21 : decode cX2_removeFirst 21 = .ok (.putfield 20, 3) := by decide +kernel
theorem dX2_removeFirst_24 : decode cX2_removeFirst 24 = .ok (.aload_n 0, 1) := by decide +kernel
theorem dX2_removeFirst_25 : decode cX2_removeFirst 25 = .ok (.getfield 7, 3) := by decide +kernel
theorem dX2_removeFirst_28 : decode cX2_removeFirst 28 = .ok (.ifnonnull 8, 3) := by decide +kernel
theorem dX2_removeFirst_31 : decode cX2_removeFirst 31 = .ok (.aload_n 0, 1) := by decide +kernel
theorem dX2_removeFirst_32 : decode cX2_removeFirst 32 = .ok (.aconst_null, 1) := by decide +kernel
theorem dX2_removeFirst_33 : decode cX2_removeFirst 33 = .ok (.putfield 13, 3) := by decide +kernel
theorem dX2_removeFirst_36 : decode cX2_removeFirst 36 = .ok (.aload_n 0, 1) := by decide +kernel
theorem dX2_removeFirst_37 : decode cX2_removeFirst 37 = .ok (.dup, 1) := by decide +kernel
theorem dX2_removeFirst_38 : decode cX2_removeFirst 38 = .ok (.getfield 16, 3) := by decide +kernel
theorem dX2_removeFirst_41 : decode cX2_removeFirst 41 = .ok (.iconst 1, 1) := by decide +kernel
theorem dX2_removeFirst_42 : decode cX2_removeFirst 42 = .ok (.isub, 1) := by decide +kernel
theorem dX2_removeFirst_43 : decode cX2_removeFirst 43 = .ok (.putfield 16, 3) := by decide +kernel
theorem dX2_removeFirst_46 : decode cX2_removeFirst 46 = .ok (.aload_n 1, 1) := by decide +kernel
theorem dX2_removeFirst_47 : decode cX2_removeFirst 47 = .ok (.areturn, 1) := by decide +kernel
theorem dX2_flitAt_0 : decode cX2_flitAt 0 = .ok (.iload_n 1, 1) := by decide +kernel
theorem dX2_flitAt_1 : decode cX2_flitAt 1 = .ok (.ifCond .lt 11, 3) := by decide +kernel
theorem dX2_flitAt_4 : decode cX2_flitAt 4 = .ok (.iload_n 1, 1) := by decide +kernel
theorem dX2_flitAt_5 : decode cX2_flitAt 5 = .ok (.aload_n 0, 1) := by decide +kernel
theorem dX2_flitAt_6 : decode cX2_flitAt 6 = .ok (.getfield 16, 3) := by decide +kernel
theorem dX2_flitAt_9 : decode cX2_flitAt 9 = .ok (.if_icmp .lt 5, 3) := by decide +kernel
theorem dX2_flitAt_12 : decode cX2_flitAt 12 = .ok (.aconst_null, 1) := by decide +kernel
theorem dX2_flitAt_13 : decode cX2_flitAt 13 = .ok (.areturn, 1) := by decide +kernel
theorem dX2_flitAt_14 : decode cX2_flitAt 14 = .ok (.aload_n 0, 1) := by decide +kernel
theorem dX2_flitAt_15 : decode cX2_flitAt 15 = .ok (.getfield 7, 3) := by decide +kernel
theorem dX2_flitAt_18 : decode cX2_flitAt 18 = .ok (.astore_n 2, 1) := by decide +kernel
theorem dX2_flitAt_19 : decode cX2_flitAt 19 = .ok (.iconst 0, 1) := by decide +kernel
theorem dX2_flitAt_20 : decode cX2_flitAt 20 = .ok (.istore_n 3, 1) := by decide +kernel
theorem dX2_flitAt_21 : decode cX2_flitAt 21 = .ok (.iload_n 3, 1) := by decide +kernel
theorem dX2_flitAt_22 : decode cX2_flitAt 22 = .ok (.iload_n 1, 1) := by decide +kernel
theorem dX2_flitAt_23 : decode cX2_flitAt 23 = .ok (.if_icmp .ge 18, 3) := by decide +kernel
theorem dX2_flitAt_26 : decode cX2_flitAt 26 = .ok (.aload_n 2, 1) := by decide +kernel
theorem dX2_flitAt_27 : decode cX2_flitAt 27 = .ok (.ifnull 14, 3) := by decide +kernel
theorem dX2_flitAt_30 : decode cX2_flitAt 30 = .ok (.aload_n 2, 1) := by decide +kernel
theorem dX2_flitAt_31 : decode cX2_flitAt 31 = .ok (.getfield 20, 3) := by decide +kernel
theorem dX2_flitAt_34 : decode cX2_flitAt 34 = .ok (.astore_n 2, 1) := by decide +kernel
theorem dX2_flitAt_35 : decode cX2_flitAt 35 = .ok (.iinc 3 1, 3) := by decide +kernel
theorem dX2_flitAt_38 : decode cX2_flitAt 38 = .ok (.goto (-17), 3) := by decide +kernel
theorem dX2_flitAt_41 : decode cX2_flitAt 41 = .ok (.aload_n 2, 1) := by decide +kernel
theorem dX2_flitAt_42 : decode cX2_flitAt 42 = .ok (.areturn, 1) := by decide +kernel
theorem dX3_init_0 : decode cX3_init 0 = .ok (.aload_n 0, 1) := by decide +kernel
theorem dX3_init_1 : decode cX3_init 1 = .ok (.invokespecial 3, 3) := by decide +kernel
theorem dX3_init_4 : decode cX3_init 4 = .ok (.aload_n 0, 1) := by decide +kernel
theorem dX3_init_5 : decode cX3_init 5 = .ok (.bipush 16, 2) := by decide +kernel
theorem dX3_init_7 : decode cX3_init 7 = .ok (.anewarray 9, 3) := by decide +kernel
theorem dX3_init_10 : decode cX3_init 10 = .ok (.putfield 11, 3) := by decide +kernel
theorem dX3_init_13 : decode cX3_init 13 = .ok (.aload_n 0, 1) := by decide +kernel
theorem dX3_init_14 : decode cX3_init 14 = .ok (.sipush 250, 3) := by decide +kernel
theorem dX3_init_17 : decode cX3_init 17 = .ok (.anewarray 17, 3) := by decide +kernel
theorem dX3_init_20 : decode cX3_init 20 = .ok (.putfield 19, 3) := by decide +kernel
theorem dX3_init_23 : decode cX3_init 23 = .ok (.aload_n 0, 1) := by decide +kernel
theorem dX3_init_24 : decode cX3_init 24 = .ok (.bipush 32, 2) := by decide +kernel
theorem dX3_init_26 : decode cX3_init 26 = .ok (.newarray .int, 2) := by decide +kernel
theorem dX3_init_28 : decode cX3_init 28 = .ok (.putfield 23, 3) := by decide +kernel
theorem dX3_init_31 : decode cX3_init 31 = .ok (.aload_n 0, 1) := by decide +kernel
theorem dX3_init_32 : decode cX3_init 32 = .ok (.iconst 0, 1) := by decide +kernel
theorem dX3_init_33 : decode cX3_init 33 = .ok (.putfield 27, 3) := by decide +kernel
theorem dX3_init_36 : decode cX3_init 36 = .ok (.aload_n 0, 1) := by decide +kernel
theorem dX3_init_37 : decode cX3_init 37 = .ok (.iconst 0, 1) := by decide +kernel
theorem dX3_init_38 : decode cX3_init 38 = .ok (.putfield 31, 3) := by decide +kernel
theorem dX3_init_41 : decode cX3_init 41 = .ok (.aload_n 0, 1) := by decide +kernel
theorem dX3_init_42 : decode cX3_init 42 = .ok (.iconst 0, 1) := by decide +kernel
theorem dX3_init_43 : decode cX3_init 43 = .ok (.putfield 34, 3) := by decide +kernel
theorem dX3_init_46 : decode cX3_init 46 = .ok (.aload_n 0, 1) := by decide +kernel
theorem dX3_init_47 : decode cX3_init 47 = .ok (.iconst 0, 1) := by decide +kernel
theorem dX3_init_48 : decode cX3_init 48 = .ok (.putfield 37, 3) := by decide +kernel
theorem dX3_init_51 : decode cX3_init 51 = .ok (.aload_n 0, 1) := by decide +kernel
theorem dX3_init_52 : decode cX3_init 52 = .ok (.iconst (-1), 1) := by decide +kernel
theorem dX3_init_53 : decode cX3_init 53 = .ok (.putfield 40, 3) := by decide +kernel
theorem dX3_init_56 : decode cX3_init 56 = .ok (.aload_n 0, 1) := by decide +kernel
theorem dX3_init_57 : decode cX3_init 57 = .ok (.iconst 0, 1) := by decide +kernel
theorem dX3_init_58 : decode cX3_init 58 = .ok (.putfield 43, 3) := by decide +kernel
theorem dX3_init_61 : decode cX3_init 61 = .ok (.aload_n 0, 1) := by decide +kernel
theorem dX3_init_62 : decode cX3_init 62 = .ok (.iconst 0, 1) := by decide +kernel
theorem dX3_init_63 : decode cX3_init 63 = .ok (.putfield 46, 3) := by decide +kernel
theorem dX3_init_66 : decode cX3_init 66 = .ok (.aload_n 0, 1) := by decide +kernel
theorem dX3_init_67 : decode cX3_init 67 = .ok (.iconst 0, 1) := by decide +kernel
theorem dX3_init_68 : decode cX3_init 68 = .ok (.putfield 49, 3) := by decide +kernel
theorem dX3_init_71 : decode cX3_init 71 = .ok (.aload_n 0, 1) := by decide +kernel
theorem dX3_init_72 : decode cX3_init 72 = .ok (.iconst 0, 1) := by decide +kernel
theorem dX3_init_73 : decode cX3_init 73 = .ok (.putfield 52, 3) := by decide +kernel
theorem dX3_init_76 : decode cX3_init 76 = .ok (.aload_n 0, 1) := by decide +kernel
theorem dX3_init_77 : decode cX3_init 77 = .ok (.iconst (-1), 1) := by decide +kernel
theorem dX3_init_78 : decode cX3_init 78 = .ok (.putfield 55, 3) := by decide +kernel
theorem dX3_init_81 : decode cX3_init 81 = .ok (.aload_n 0, 1) := by decide +kernel
theorem dX3_init_82 : decode cX3_init 82 = .ok (.iload_n 2, 1) := by decide +kernel
theorem dX3_init_83 : decode cX3_init 83 = .ok (.putfield 58, 3) := by decide +kernel
theorem dX3_init_86 : decode cX3_init 86 = .ok (.aload_n 0, 1) := by decide +kernel
theorem dX3_init_87 : decode cX3_init 87 = .ok (.iload_n 3, 1) := by decide +kernel
theorem dX3_init_88 : decode cX3_init 88 = .ok (.putfield 61, 3) := by decide +kernel
theorem dX3_init_91 : decode cX3_init 91 = .ok (.aload_n 0, 1) := by decide +kernel
theorem dX3_init_92 : decode cX3_init 92 = .ok (.iload_n 1, 1) := by decide +kernel
theorem dX3_init_93 : decode cX3_init 93 = .ok (.anewarray 64, 3) := by decide +kernel
theorem dX3_init_96 : decode cX3_init 96 = .ok (.putfield 66, 3) := by decide +kernel
theorem dX3_init_99 : decode cX3_init 99 = .ok (.iconst 0, 1) := by decide +kernel
theorem dX3_init_100 : decode cX3_init 100 = .ok (.istore 5, 2) := by decide +kernel
theorem dX3_init_102 : decode cX3_init 102 = .ok (.iload 5, 2) := by decide +kernel
theorem dX3_init_104 : decode cX3_init 104 = .ok (.aload_n 0, 1) := by decide +kernel
theorem dX3_init_105 : decode cX3_init 105 = .ok (.getfield 66, 3) := by decide +kernel
theorem dX3_init_108 : decode cX3_init 108 = .ok (.arraylength, 1) := by decide +kernel
theorem dX3_init_109 : decode cX3_init 109 = .ok (.if_icmp .ge 27, 3) := by decide +kernel
theorem dX3_init_112 : decode cX3_init 112 = .ok (.aload_n 0, 1) := by decide +kernel
theorem dX3_init_113 : decode cX3_init 113 = .ok (.getfield 66, 3) := by decide +kernel
theorem dX3_init_116 : decode cX3_init 116 = .ok (.iload 5, 2) := by decide +kernel
theorem dX3_init_118 : decode cX3_init 118 = .ok (.new 64, 3) := by decide +kernel
theorem dX3_init_121 : decode cX3_init 121 = .ok (.dup, 1) := by decide +kernel
theorem dX3_init_122 : decode cX3_init 122 = .ok (.iload 5, 2) := by decide +kernel
theorem dX3_init_124 : decode cX3_init 124 = .ok (.iload 4, 2) := by decide +kernel
theorem dX3_init_126 : decode cX3_init 126 = .ok (.invokespecial 70, 3) := by decide +kernel
theorem dX3_init_129 : decode cX3_init 129 = .ok (.aastore, 1) := by decide +kernel
theorem dX3_init_130 : decode cX3_init 130 = .ok (.iinc 5 1, 3) := by decide +kernel
theorem dX3_init_133 : decode cX3_init 133 = .ok (.goto (-31), 3) := by decide +kernel
theorem dX3_init_136 : decode cX3_init 136 = .ok (.return_, 1) := by decide +kernel
theorem dX3_channelAt_0 : decode cX3_channelAt 0 = .ok (.iload_n 1, 1) := by decide +kernel
theorem dX3_channelAt_1 : decode cX3_channelAt 1 = .ok (.ifCond .lt 21, 3) := by decide +kernel
theorem dX3_channelAt_4 : decode cX3_channelAt 4 = .ok (.iload_n 1, 1) := by decide +kernel
theorem dX3_channelAt_5 : decode cX3_channelAt 5 = .ok (.aload_n 0, 1) := by decide +kernel
theorem dX3_channelAt_6 : decode cX3_channelAt 6 = .ok (.getfield 66, 3) := by decide +kernel
theorem dX3_channelAt_9 : decode cX3_channelAt 9 = .ok (.arraylength, 1) := by decide +kernel
theorem dX3_channelAt_10 : decode cX3_channelAt 10 = .ok (.if_icmp .ge 12, 3) := by decide +kernel
theorem dX3_channelAt_13 : decode cX3_channelAt 13 = .ok (.aload_n 0, 1) := by decide +kernel
theorem dX3_channelAt_14 : decode cX3_channelAt 14 = .ok (.getfield 66, 3) := by decide +kernel
theorem dX3_channelAt_17 : decode cX3_channelAt 17 = .ok (.iload_n 1, 1) := by decide +kernel
theorem dX3_channelAt_18 : decode cX3_channelAt 18 = .ok (.aaload, 1) := by decide +kernel
theorem dX3_channelAt_19 : decode cX3_channelAt 19 = .ok (.goto 4, 3) := by decide +kernel
theorem dX3_channelAt_22 : decode cX3_channelAt 22 = .ok (.aconst_null, 1) := by decide +kernel
theorem dX3_channelAt_23 : decode cX3_channelAt 23 = .ok (.areturn, 1) := by decide +kernel
theorem dX3_packetAt_0 : decode cX3_packetAt 0 = .ok (.iload_n 1, 1) := by decide +kernel
theorem dX3_packetAt_1 : decode cX3_packetAt 1 = .ok (.ifCond .lt 29, 3) := by decide +kernel
theorem dX3_packetAt_4 : decode cX3_packetAt 4 = .ok (.iload_n 1, 1) := by decide +kernel
theorem dX3_packetAt_5 : decode cX3_packetAt 5 = .ok (.aload_n 0, 1) := by decide +kernel
theorem dX3_packetAt_6 : decode cX3_packetAt 6 = .ok (.getfield 31, 3) := by decide +kernel
theorem dX3_packetAt_9 : decode cX3_packetAt 9 = .ok (.if_icmp .ge 21, 3) := by decide +kernel
theorem dX3_packetAt_12 : decode cX3_packetAt 12 = .ok (.iload_n 1, 1) := by decide +kernel
theorem dX3_packetAt_13 : decode cX3_packetAt 13 = .ok (.aload_n 0, 1) := by decide +kernel
theorem dX3_packetAt_14 : decode cX3_packetAt 14 = .ok (.getfield 19, 3) := by decide +kernel
theorem dX3_packetAt_17 : decode cX3_packetAt 17 = .ok (.arraylength, 1) := by decide +kernel
theorem dX3_packetAt_18 : decode cX3_packetAt 18 = .ok (.if_icmp .ge 12, 3) := by decide +kernel
theorem dX3_packetAt_21 : decode cX3_packetAt 21 = .ok (.aload_n 0, 1) := by decide +kernel
theorem dX3_packetAt_22 : decode cX3_packetAt 22 = .ok (.getfield 19, 3) := by decide +kernel
theorem dX3_packetAt_25 : decode cX3_packetAt 25 = .ok (.iload_n 1, 1) := by decide +kernel
theorem dX3_packetAt_26 : decode cX3_packetAt 26 = .ok (.aaload, 1) := by decide +kernel
theorem dX3_packetAt_27 : decode cX3_packetAt 27 = .ok (.goto 4, 3) := by decide +kernel
theorem dX3_packetAt_30 : decode cX3_packetAt 30 = .ok (.aconst_null, 1) := by decide +kernel
theorem dX3_packetAt_31 : decode cX3_packetAt 31 = .ok (.areturn, 1) := by decide +kernel
theorem dX3_flitThatComesIn_0 : decode cX3_flitThatComesIn 0 = .ok (.iload_n 1, 1) := by decide +kernel
theorem dX3_flitThatComesIn_1 : decode cX3_flitThatComesIn 1 = .ok (.ifCond .lt 26, 3) := by decide +kernel
theorem dX3_flitThatComesIn_4 : decode cX3_flitThatComesIn 4 = .ok (.iload_n 1, 1) := by decide +kernel
theorem dX3_flitThatComesIn_5 : decode cX3_flitThatComesIn 5 = .ok (.bipush 16, 2) := by decide +kernel
theorem dX3_flitThatComesIn_7 : decode cX3_flitThatComesIn 7 = .ok (.if_icmp .ge 20, 3) := by decide +kernel
theorem dX3_flitThatComesIn_10 : decode cX3_flitThatComesIn 10 = .ok (.aload_n 0, 1) := by decide +kernel
theorem dX3_flitThatComesIn_11 : decode cX3_flitThatComesIn 11 = .ok (.getfield 11, 3) := by decide +kernel
theorem dX3_flitThatComesIn_14 : decode cX3_flitThatComesIn 14 = .ok (.aload_n 0, 1) := by decide +kernel
theorem dX3_flitThatComesIn_15 : decode cX3_flitThatComesIn 15 = .ok (.getfield 34, 3) := by decide +kernel
theorem dX3_flitThatComesIn_18 : decode cX3_flitThatComesIn 18 = .ok (.iload_n 1, 1) := by decide +kernel
theorem dX3_flitThatComesIn_19 : decode cX3_flitThatComesIn 19 = .ok (.iadd, 1) := by decide +kernel
theorem dX3_flitThatComesIn_20 : decode cX3_flitThatComesIn 20 = .ok (.bipush 15, 2) := by decide +kernel
theorem dX3_flitThatComesIn_22 : decode cX3_flitThatComesIn 22 = .ok (.iand, 1) := by decide +kernel
theorem dX3_flitThatComesIn_23 : decode cX3_flitThatComesIn 23 = .ok (.aaload, 1) := by decide +kernel
theorem dX3_flitThatComesIn_24 : decode cX3_flitThatComesIn 24 = .ok (.goto 4, 3) := by decide +kernel
theorem dX3_flitThatComesIn_27 : decode cX3_flitThatComesIn 27 = .ok (.aconst_null, 1) := by decide +kernel
theorem dX3_flitThatComesIn_28 : decode cX3_flitThatComesIn 28 = .ok (.areturn, 1) := by decide +kernel
theorem dX3_addRow_0 : decode cX3_addRow 0 = .ok (.aload_n 0, 1) := by decide +kernel
theorem dX3_addRow_1 : decode cX3_addRow 1 = .ok (.getfield 27, 3) := by decide +kernel
theorem dX3_addRow_4 : decode cX3_addRow 4 = .ok (.ifCond .lt 15, 3) := by decide +kernel
theorem dX3_addRow_7 : decode cX3_addRow 7 = .ok (.aload_n 0, 1) := by decide +kernel
theorem dX3_addRow_8 : decode cX3_addRow 8 = .ok (.getfield 27, 3) := by decide +kernel
theorem dX3_addRow_11 : decode cX3_addRow 11 = .ok (.aload_n 0, 1) := by decide +kernel
theorem dX3_addRow_12 : decode cX3_addRow 12 = .ok (.getfield 23, 3) := by decide +kernel
theorem dX3_addRow_15 : decode cX3_addRow 15 = .ok (.arraylength, 1) := by decide +kernel
theorem dX3_addRow_16 : decode cX3_addRow 16 = .ok (.if_icmp .lt 5, 3) := by decide +kernel
theorem dX3_addRow_19 : decode cX3_addRow 19 = .ok (.iconst 0, 1) := by decide +kernel
theorem dX3_addRow_20 : decode cX3_addRow 20 = .ok (.ireturn, 1) := by decide +kernel
theorem dX3_addRow_21 : decode cX3_addRow 21 = .ok (.aload_n 0, 1) := by decide +kernel
theorem dX3_addRow_22 : decode cX3_addRow 22 = .ok (.getfield 23, 3) := by decide +kernel
theorem dX3_addRow_25 : decode cX3_addRow 25 = .ok (.aload_n 0, 1) := by decide +kernel
theorem dX3_addRow_26 : decode cX3_addRow 26 = .ok (.getfield 27, 3) := by decide +kernel
theorem dX3_addRow_29 : decode cX3_addRow 29 = .ok (.iload_n 1, 1) := by decide +kernel
theorem dX3_addRow_30 : decode cX3_addRow 30 = .ok (.iastore, 1) := by decide +kernel
theorem dX3_addRow_31 : decode cX3_addRow 31 = .ok (.aload_n 0, 1) := by decide +kernel
theorem dX3_addRow_32 : decode cX3_addRow 32 = .ok (.dup, 1) := by decide +kernel
theorem dX3_addRow_33 : decode cX3_addRow 33 = .ok (.getfield 27, 3) := by decide +kernel
theorem dX3_addRow_36 : decode cX3_addRow 36 = .ok (.iconst 1, 1) := by decide +kernel
theorem dX3_addRow_37 : decode cX3_addRow 37 = .ok (.iadd, 1) := by decide +kernel
theorem dX3_addRow_38 : decode cX3_addRow 38 = .ok (.putfield 27, 3) := by decide +kernel
theorem dX3_addRow_41 : decode cX3_addRow 41 = .ok (.iconst 1, 1) := by decide +kernel
theorem dX3_addRow_42 : decode cX3_addRow 42 = .ok (.ireturn, 1) := by decide +kernel
theorem dX3_addPacket_0 : decode cX3_addPacket 0 = .ok (.aload_n 0, 1) := by decide +kernel
theorem dX3_addPacket_1 : decode cX3_addPacket 1 = .ok (.getfield 31, 3) := by decide +kernel
theorem dX3_addPacket_4 : decode cX3_addPacket 4 = .ok (.istore_n 3, 1) := by decide +kernel
theorem dX3_addPacket_5 : decode cX3_addPacket 5 = .ok (.iload_n 3, 1) := by decide +kernel
theorem dX3_addPacket_6 : decode cX3_addPacket 6 = .ok (.ifCond .lt 12, 3) := by decide +kernel
theorem dX3_addPacket_9 : decode cX3_addPacket 9 = .ok (.iload_n 3, 1) := by decide +kernel
theorem dX3_addPacket_10 : decode cX3_addPacket 10 = .ok (.aload_n 0, 1) := by decide +kernel
theorem dX3_addPacket_11 : decode cX3_addPacket 11 = .ok (.getfield 19, 3) := by decide +kernel
theorem dX3_addPacket_14 : decode cX3_addPacket 14 = .ok (.arraylength, 1) := by decide +kernel
theorem dX3_addPacket_15 : decode cX3_addPacket 15 = .ok (.if_icmp .lt 5, 3) := by decide +kernel
theorem dX3_addPacket_18 : decode cX3_addPacket 18 = .ok (.iconst (-1), 1) := by decide +kernel
theorem dX3_addPacket_19 : decode cX3_addPacket 19 = .ok (.ireturn, 1) := by decide +kernel
theorem dX3_addPacket_20 : decode cX3_addPacket 20 = .ok (.new 17, 3) := by decide +kernel
theorem dX3_addPacket_23 : decode cX3_addPacket 23 = .ok (.dup, 1) := by decide +kernel
theorem dX3_addPacket_24 : decode cX3_addPacket 24 = .ok (.iload_n 3, 1) := by decide +kernel
theorem dX3_addPacket_25 : decode cX3_addPacket 25 = .ok (.aload_n 1, 1) := by decide +kernel
theorem dX3_addPacket_26 : decode cX3_addPacket 26 = .ok (.aload_n 2, 1) := by decide +kernel
theorem dX3_addPacket_27 : decode cX3_addPacket 27 = .ok (.aload_n 0, 1) := by decide +kernel
theorem dX3_addPacket_28 : decode cX3_addPacket 28 = .ok (.getfield 34, 3) := by decide +kernel
theorem dX3_addPacket_31 : decode cX3_addPacket 31 = .ok (.invokespecial 73, 3) := by decide +kernel
theorem dX3_addPacket_34 : decode cX3_addPacket 34 = .ok (.astore 4, 2) := by decide +kernel
theorem dX3_addPacket_36 : decode cX3_addPacket 36 = .ok (.iconst 0, 1) := by decide +kernel
theorem dX3_addPacket_37 : decode cX3_addPacket 37 = .ok (.istore 5, 2) := by decide +kernel
theorem dX3_addPacket_39 : decode cX3_addPacket 39 = .ok (.iload 5, 2) := by decide +kernel
theorem dX3_addPacket_41 : decode cX3_addPacket 41 = .ok (.aload 4, 2) := by decide +kernel
theorem dX3_addPacket_43 : decode cX3_addPacket 43 = .ok (.getfield 76, 3) := by decide +kernel
theorem dX3_addPacket_46 : decode cX3_addPacket 46 = .ok (.if_icmp .ge 27, 3) := by decide +kernel
theorem dX3_addPacket_49 : decode cX3_addPacket 49 = .ok (.aload_n 1, 1) := by decide +kernel
theorem dX3_addPacket_50 : decode cX3_addPacket 50 = .ok (.getfield 79, 3) := by decide +kernel
theorem dX3_addPacket_53 : decode cX3_addPacket 53 = .ok (.new 9, 3) := by decide +kernel
theorem dX3_addPacket_56 : decode cX3_addPacket 56 = .ok (.dup, 1) := by decide +kernel
theorem dX3_addPacket_57 : decode cX3_addPacket 57 = .ok (.aload 4, 2) := by decide +kernel
theorem dX3_addPacket_59 : decode cX3_addPacket 59 = .ok (.iload 5, 2) := by decide +kernel
theorem dX3_addPacket_61 : decode cX3_addPacket 61 = .ok (.invokespecial 83, 3) := by decide +kernel
theorem dX3_addPacket_64 : decode cX3_addPacket 64 = .ok (.invokevirtual 86, 3) := by decide +kernel
theorem dX3_addPacket_67 : decode cX3_addPacket 67 = .ok (.iinc 5 1, 3) := by decide +kernel
theorem dX3_addPacket_70 : decode cX3_addPacket 70 = .ok (.goto (-31), 3) := by decide +kernel
theorem dX3_addPacket_73 : decode cX3_addPacket 73 = .ok (.aload 4, 2) := by decide +kernel
theorem dX3_addPacket_75 : decode cX3_addPacket 75 = .ok (.aload_n 0, 1) := by decide +kernel
theorem dX3_addPacket_76 : decode cX3_addPacket 76 = .ok (.getfield 34, 3) := by decide +kernel
theorem dX3_addPacket_79 : decode cX3_addPacket 79 = .ok (.aload_n 0, 1) := by decide +kernel
theorem dX3_addPacket_80 : decode cX3_addPacket 80 = .ok (.getfield 58, 3) := by decide +kernel
theorem dX3_addPacket_83 : decode cX3_addPacket 83 = .ok (.iadd, 1) := by decide +kernel
theorem dX3_addPacket_84 : decode cX3_addPacket 84 = .ok (.aload_n 1, 1) := by decide +kernel
theorem dX3_addPacket_85 : decode cX3_addPacket 85 = .ok (.getfield 92, 3) := by decide +kernel
theorem dX3_addPacket_88 : decode cX3_addPacket 88 = .ok (.iadd, 1) := by decide +kernel
theorem dX3_addPacket_89 : decode cX3_addPacket 89 = .ok (.aload_n 1, 1) := by decide +kernel
theorem dX3_addPacket_90 : decode cX3_addPacket 90 = .ok (.getfield 79, 3) := by decide +kernel
theorem dX3_addPacket_93 : decode cX3_addPacket 93 = .ok (.getfield 95, 3) := by decide +kernel
theorem dX3_addPacket_96 : decode cX3_addPacket 96 = .ok (.aload_n 0, 1) := by decide +kernel
theorem dX3_addPacket_97 : decode cX3_addPacket 97 = .ok (.getfield 58, 3) := by decide +kernel
theorem dX3_addPacket_100 : decode cX3_addPacket 100 = .ok (.aload_n 0, 1) := by decide +kernel
theorem dX3_addPacket_101 : decode cX3_addPacket 101 = .ok (.getfield 61, 3) := by decide +kernel
theorem dX3_addPacket_104 : decode cX3_addPacket 104 = .ok (.iadd, 1) := by decide +kernel
theorem dX3_addPacket_105 : decode cX3_addPacket 105 = .ok (.aload_n 0, 1) := by decide +kernel
theorem dX3_addPacket_106 : decode cX3_addPacket 106 = .ok (.getfield 66, 3) := by decide +kernel
theorem dX3_addPacket_109 : decode cX3_addPacket 109 = .ok (.arraylength, 1) := by decide +kernel
theorem dX3_addPacket_110 : decode cX3_addPacket 110 = .ok (.iadd, 1) := by decide +kernel
theorem dX3_addPacket_111 : decode cX3_addPacket 111 = .ok (.imul, 1) := by decide +kernel
theorem dX3_addPacket_112 : decode cX3_addPacket 112 = .ok (.iadd, 1) := by decide +kernel
theorem dX3_addPacket_113 : decode cX3_addPacket 113 = .ok (.putfield 98, 3) := by decide +kernel
theorem dX3_addPacket_116 : decode cX3_addPacket 116 = .ok (.aload_n 0, 1) := by decide +kernel
theorem dX3_addPacket_117 : decode cX3_addPacket 117 = .ok (.getfield 19, 3) := by decide +kernel
theorem dX3_addPacket_120 : decode cX3_addPacket 120 = .ok (.iload_n 3, 1) := by decide +kernel
theorem dX3_addPacket_121 : decode cX3_addPacket 121 = .ok (.aload 4, 2) := by decide +kernel
theorem dX3_addPacket_123 : decode cX3_addPacket 123 = .ok (.aastore, 1) := by decide +kernel
theorem dX3_addPacket_124 : decode cX3_addPacket 124 = .ok (.aload_n 0, 1) := by decide +kernel
theorem dX3_addPacket_125 : decode cX3_addPacket 125 = .ok (.dup, 1) := by decide +kernel
theorem dX3_addPacket_126 : decode cX3_addPacket 126 = .ok (.getfield 31, 3) := by decide +kernel
theorem dX3_addPacket_129 : decode cX3_addPacket 129 = .ok (.iconst 1, 1) := by decide +kernel
theorem dX3_addPacket_130 : decode cX3_addPacket 130 = .ok (.iadd, 1) := by decide +kernel
theorem dX3_addPacket_131 : decode cX3_addPacket 131 = .ok (.putfield 31, 3) := by decide +kernel
theorem dX3_addPacket_134 : decode cX3_addPacket 134 = .ok (.iload_n 3, 1) := by decide +kernel
theorem dX3_addPacket_135 : decode cX3_addPacket 135 = .ok (.ireturn, 1) := by decide +kernel
theorem dX3_earliestToTake_0 : decode cX3_earliestToTake 0 = .ok (.iconst 0, 1) := by decide +kernel
theorem dX3_earliestToTake_1 : decode cX3_earliestToTake 1 = .ok (.istore_n 2, 1) := by decide +kernel
theorem dX3_earliestToTake_2 : decode cX3_earliestToTake 2 = .ok (.iload_n 2, 1) := by decide +kernel
theorem dX3_earliestToTake_3 : decode cX3_earliestToTake 3 = .ok (.aload_n 0, 1) := by decide +kernel
theorem dX3_earliestToTake_4 : decode cX3_earliestToTake 4 = .ok (.getfield 31, 3) := by decide +kernel
theorem dX3_earliestToTake_7 : decode cX3_earliestToTake 7 = .ok (.if_icmp .ge 36, 3) := by decide +kernel
theorem dX3_earliestToTake_10 : decode cX3_earliestToTake 10 = .ok (.aload_n 0, 1) := by decide +kernel
theorem dX3_earliestToTake_11 : decode cX3_earliestToTake 11 = .ok (.iload_n 2, 1) := by decide +kernel
theorem dX3_earliestToTake_12 : decode cX3_earliestToTake 12 = .ok (.invokevirtual 101, 3) := by decide +kernel
theorem dX3_earliestToTake_15 : decode cX3_earliestToTake 15 = .ok (.astore_n 3, 1) := by decide +kernel
theorem dX3_earliestToTake_16 : decode cX3_earliestToTake 16 = .ok (.aload_n 3, 1) := by decide +kernel
theorem dX3_earliestToTake_17 : decode cX3_earliestToTake 17 = .ok (.ifnull 20, 3) := by decide +kernel
theorem dX3_earliestToTake_20 : decode cX3_earliestToTake 20 = .ok (.aload_n 3, 1) := by decide +kernel
theorem dX3_earliestToTake_21 : decode cX3_earliestToTake 21 = .ok (.getfield 105, 3) := by decide +kernel
theorem dX3_earliestToTake_24 : decode cX3_earliestToTake 24 = .ok (.aload_n 1, 1) := by decide +kernel
theorem dX3_earliestToTake_25 : decode cX3_earliestToTake 25 = .ok (.if_acmp .ne 12, 3) := by decide +kernel
theorem dX3_earliestToTake_28 : decode cX3_earliestToTake 28 = .ok (.aload_n 3, 1) := by decide +kernel
theorem dX3_earliestToTake_29 : decode cX3_earliestToTake 29 = .ok (.invokevirtual 109, 3) := by decide +kernel
theorem dX3_earliestToTake_32 : decode cX3_earliestToTake 32 = .ok (.ifCond .eq 5, 3) := by decide +kernel
theorem dX3_earliestToTake_35 : decode cX3_earliestToTake 35 = .ok (.aload_n 3, 1) := by decide +kernel
theorem dX3_earliestToTake_36 : decode cX3_earliestToTake 36 = .ok (.areturn, 1) := by decide +kernel
theorem dX3_earliestToTake_37 : decode cX3_earliestToTake 37 = .ok (.iinc 2 1, 3) := by decide +kernel
theorem dX3_earliestToTake_40 : decode cX3_earliestToTake 40 = .ok (.goto (-38), 3) := by decide +kernel
theorem dX3_earliestToTake_43 : decode cX3_earliestToTake 43 = .ok (.aconst_null, 1) := by decide +kernel
theorem dX3_earliestToTake_44 : decode cX3_earliestToTake 44 = .ok (.areturn, 1) := by decide +kernel
theorem dX3_passCycle_0 : decode cX3_passCycle 0 = .ok (.aload_n 0, 1) := by decide +kernel
theorem dX3_passCycle_1 : decode cX3_passCycle 1 = .ok (.getfield 27, 3) := by decide +kernel
theorem dX3_passCycle_4 : decode cX3_passCycle 4 = .ok (.ifCond .gt 10, 3) := by decide +kernel
theorem dX3_passCycle_7 : decode cX3_passCycle 7 = .ok (.aload_n 0, 1) := by decide +kernel
theorem dX3_passCycle_8 : decode cX3_passCycle 8 = .ok (.getfield 37, 3) := by decide +kernel
theorem dX3_passCycle_11 : decode cX3_passCycle 11 = .ok (.ifCond .eq 11, 3) := by decide +kernel
theorem dX3_passCycle_14 : decode cX3_passCycle 14 = .ok (.aload_n 0, 1) := by decide +kernel
theorem dX3_passCycle_15 : decode cX3_passCycle 15 = .ok (.aload_n 0, 1) := by decide +kernel
theorem dX3_passCycle_16 : decode cX3_passCycle 16 = .ok (.getfield 34, 3) := by decide +kernel
theorem dX3_passCycle_19 : decode cX3_passCycle 19 = .ok (.putfield 55, 3) := by decide +kernel
theorem dX3_passCycle_22 : decode cX3_passCycle 22 = .ok (.aload_n 0, 1) := by decide +kernel
theorem dX3_passCycle_23 : decode cX3_passCycle 23 = .ok (.getfield 66, 3) := by decide +kernel
theorem dX3_passCycle_26 : decode cX3_passCycle 26 = .ok (.astore_n 1, 1) := by decide +kernel
theorem dX3_passCycle_27 : decode cX3_passCycle 27 = .ok (.aload_n 1, 1) := by decide +kernel
theorem dX3_passCycle_28 : decode cX3_passCycle 28 = .ok (.arraylength, 1) := by decide +kernel
theorem dX3_passCycle_29 : decode cX3_passCycle 29 = .ok (.istore_n 2, 1) := by decide +kernel
theorem dX3_passCycle_30 : decode cX3_passCycle 30 = .ok (.iconst 0, 1) := by decide +kernel
theorem dX3_passCycle_31 : decode cX3_passCycle 31 = .ok (.istore_n 3, 1) := by decide +kernel
theorem dX3_passCycle_32 : decode cX3_passCycle 32 = .ok (.iload_n 3, 1) := by decide +kernel
theorem dX3_passCycle_33 : decode cX3_passCycle 33 = .ok (.iload_n 2, 1) := by decide +kernel
theorem dX3_passCycle_34 : decode cX3_passCycle 34 = .ok (.if_icmp .ge 23, 3) := by decide +kernel
theorem dX3_passCycle_37 : decode cX3_passCycle 37 = .ok (.aload_n 1, 1) := by decide +kernel
theorem dX3_passCycle_38 : decode cX3_passCycle 38 = .ok (.iload_n 3, 1) := by decide +kernel
theorem dX3_passCycle_39 : decode cX3_passCycle 39 = .ok (.aaload, 1) := by decide +kernel
theorem dX3_passCycle_40 : decode cX3_passCycle 40 = .ok (.astore 4, 2) := by decide +kernel
theorem dX3_passCycle_42 : decode cX3_passCycle 42 = .ok (.aload 4, 2) := by decide +kernel
theorem dX3_passCycle_44 : decode cX3_passCycle 44 = .ok (.aload_n 0, 1) := by decide +kernel
theorem dX3_passCycle_45 : decode cX3_passCycle 45 = .ok (.getfield 34, 3) := by decide +kernel
theorem dX3_passCycle_48 : decode cX3_passCycle 48 = .ok (.invokevirtual 113, 3) := by decide +kernel
theorem dX3_passCycle_51 : decode cX3_passCycle 51 = .ok (.iinc 3 1, 3) := by decide +kernel
theorem dX3_passCycle_54 : decode cX3_passCycle 54 = .ok (.goto (-22), 3) := by decide +kernel
theorem dX3_passCycle_57 : decode cX3_passCycle 57 = .ok (.aload_n 0, 1) := by decide +kernel
theorem dX3_passCycle_58 : decode cX3_passCycle 58 = .ok (.invokevirtual 117, 3) := by decide +kernel
theorem dX3_passCycle_61 : decode cX3_passCycle 61 = .ok (.aload_n 0, 1) := by decide +kernel
theorem dX3_passCycle_62 : decode cX3_passCycle 62 = .ok (.invokevirtual 120, 3) := by decide +kernel
theorem dX3_passCycle_65 : decode cX3_passCycle 65 = .ok (.istore_n 1, 1) := by decide +kernel
theorem dX3_passCycle_66 : decode cX3_passCycle 66 = .ok (.aload_n 0, 1) := by decide +kernel
theorem dX3_passCycle_67 : decode cX3_passCycle 67 = .ok (.invokevirtual 124, 3) := by decide +kernel
theorem dX3_passCycle_70 : decode cX3_passCycle 70 = .ok (.aload_n 0, 1) := by decide +kernel
theorem dX3_passCycle_71 : decode cX3_passCycle 71 = .ok (.dup, 1) := by decide +kernel
theorem dX3_passCycle_72 : decode cX3_passCycle 72 = .ok (.getfield 34, 3) := by decide +kernel
theorem dX3_passCycle_75 : decode cX3_passCycle 75 = .ok (.iconst 1, 1) := by decide +kernel
theorem dX3_passCycle_76 : decode cX3_passCycle 76 = .ok (.iadd, 1) := by decide +kernel
theorem dX3_passCycle_77 : decode cX3_passCycle 77 = .ok (.putfield 34, 3) := by decide +kernel
theorem dX3_passCycle_80 : decode cX3_passCycle 80 = .ok (.iload_n 1, 1) := by decide +kernel
theorem dX3_passCycle_81 : decode cX3_passCycle 81 = .ok (.ireturn, 1) := by decide +kernel
theorem dX3_landFlit_0 : decode cX3_landFlit 0 = .ok (.aload_n 0, 1) := by decide +kernel
theorem dX3_landFlit_1 : decode cX3_landFlit 1 = .ok (.getfield 34, 3) := by decide +kernel
theorem dX3_landFlit_4 : decode cX3_landFlit 4 = .ok (.bipush 15, 2) := by decide +kernel
theorem dX3_landFlit_6 : decode cX3_landFlit 6 = .ok (.iand, 1) := by decide +kernel
theorem dX3_landFlit_7 : decode cX3_landFlit 7 = .ok (.istore_n 1, 1) := by decide +kernel
theorem dX3_landFlit_8 : decode cX3_landFlit 8 = .ok (.aload_n 0, 1) := by decide +kernel
theorem dX3_landFlit_9 : decode cX3_landFlit 9 = .ok (.getfield 11, 3) := by decide +kernel
theorem dX3_landFlit_12 : decode cX3_landFlit 12 = .ok (.iload_n 1, 1) := by decide +kernel
theorem dX3_landFlit_13 : decode cX3_landFlit 13 = .ok (.aaload, 1) := by decide +kernel
theorem dX3_landFlit_14 : decode cX3_landFlit 14 = .ok (.astore_n 2, 1) := by decide +kernel
theorem dX3_landFlit_15 : decode cX3_landFlit 15 = .ok (.aload_n 2, 1) := by decide +kernel
theorem dX3_landFlit_16 : decode cX3_landFlit 16 = .ok (.ifnonnull 4, 3) := by decide +kernel
theorem dX3_landFlit_19 : decode cX3_landFlit 19 = .ok (.return_, 1) := by decide +kernel
theorem dX3_landFlit_20 : decode cX3_landFlit 20 = .ok (.aload_n 0, 1) := by decide +kernel
theorem dX3_landFlit_21 : decode cX3_landFlit 21 = .ok (.getfield 11, 3) := by decide +kernel
theorem dX3_landFlit_24 : decode cX3_landFlit 24 = .ok (.iload_n 1, 1) := by decide +kernel
theorem dX3_landFlit_25 : decode cX3_landFlit 25 = .ok (.aconst_null, 1) := by decide +kernel
theorem dX3_landFlit_26 : decode cX3_landFlit 26 = .ok (.aastore, 1) := by decide +kernel
theorem dX3_landFlit_27 : decode cX3_landFlit 27 = .ok (.aload_n 2, 1) := by decide +kernel
theorem dX3_landFlit_28 : decode cX3_landFlit 28 = .ok (.getfield 127, 3) := by decide +kernel
theorem dX3_landFlit_31 : decode cX3_landFlit 31 = .ok (.getfield 105, 3) := by decide +kernel
theorem dX3_landFlit_34 : decode cX3_landFlit 34 = .ok (.astore_n 3, 1) := by decide +kernel
theorem dX3_landFlit_35 : decode cX3_landFlit 35 = .ok (.aload_n 3, 1) := by decide +kernel
theorem dX3_landFlit_36 : decode cX3_landFlit 36 = .ok (.getfield 131, 3) := by decide +kernel
theorem dX3_landFlit_39 : decode cX3_landFlit 39 = .ok (.getfield 95, 3) := by decide +kernel
theorem dX3_landFlit_42 : decode cX3_landFlit 42 = .ok (.aload_n 3, 1) := by decide +kernel
theorem dX3_landFlit_43 : decode cX3_landFlit 43 = .ok (.getfield 92, 3) := by decide +kernel
theorem dX3_landFlit_46 : decode cX3_landFlit 46 = .ok (.if_icmp .lt 13, 3) := by decide +kernel
theorem dX3_landFlit_49 : decode cX3_landFlit 49 = .ok (.aload_n 0, 1) := by decide +kernel
theorem dX3_landFlit_50 : decode cX3_landFlit 50 = .ok (.dup, 1) := by decide +kernel
theorem dX3_landFlit_51 : decode cX3_landFlit 51 = .ok (.getfield 49, 3) := by decide +kernel
theorem dX3_landFlit_54 : decode cX3_landFlit 54 = .ok (.iconst 1, 1) := by decide +kernel
theorem dX3_landFlit_55 : decode cX3_landFlit 55 = .ok (.iadd, 1) := by decide +kernel
theorem dX3_landFlit_56 : decode cX3_landFlit 56 = .ok (.putfield 49, 3) := by decide +kernel
theorem dX3_landFlit_59 : decode cX3_landFlit 59 = .ok (.aload_n 3, 1) := by decide +kernel
theorem dX3_landFlit_60 : decode cX3_landFlit 60 = .ok (.aload_n 2, 1) := by decide +kernel
theorem dX3_landFlit_61 : decode cX3_landFlit 61 = .ok (.invokevirtual 134, 3) := by decide +kernel
theorem dX3_landFlit_64 : decode cX3_landFlit 64 = .ok (.return_, 1) := by decide +kernel
theorem dX3_drainBuffers_0 : decode cX3_drainBuffers 0 = .ok (.aload_n 0, 1) := by decide +kernel
theorem dX3_drainBuffers_1 : decode cX3_drainBuffers 1 = .ok (.invokevirtual 137, 3) := by decide +kernel
theorem dX3_drainBuffers_4 : decode cX3_drainBuffers 4 = .ok (.istore_n 1, 1) := by decide +kernel
theorem dX3_drainBuffers_5 : decode cX3_drainBuffers 5 = .ok (.iconst 0, 1) := by decide +kernel
theorem dX3_drainBuffers_6 : decode cX3_drainBuffers 6 = .ok (.istore_n 2, 1) := by decide +kernel
theorem dX3_drainBuffers_7 : decode cX3_drainBuffers 7 = .ok (.aload_n 0, 1) := by decide +kernel
theorem dX3_drainBuffers_8 : decode cX3_drainBuffers 8 = .ok (.getfield 66, 3) := by decide +kernel
theorem dX3_drainBuffers_11 : decode cX3_drainBuffers 11 = .ok (.astore_n 3, 1) := by decide +kernel
theorem dX3_drainBuffers_12 : decode cX3_drainBuffers 12 = .ok (.aload_n 3, 1) := by decide +kernel
theorem dX3_drainBuffers_13 : decode cX3_drainBuffers 13 = .ok (.arraylength, 1) := by decide +kernel
theorem dX3_drainBuffers_14 : decode cX3_drainBuffers 14 = .ok (.istore 4, 2) := by decide +kernel
theorem dX3_drainBuffers_16 : decode cX3_drainBuffers 16 = .ok (.iconst 0, 1) := by decide +kernel
theorem dX3_drainBuffers_17 : decode cX3_drainBuffers 17 = .ok (.istore 5, 2) := by decide +kernel
theorem dX3_drainBuffers_19 : decode cX3_drainBuffers 19 = .ok (.iload 5, 2) := by decide +kernel
theorem dX3_drainBuffers_21 : decode cX3_drainBuffers 21 = .ok (.iload 4, 2) := by decide +kernel
theorem dX3_drainBuffers_23 : decode cX3_drainBuffers 23 = .ok (.if_icmp .ge 56, 3) := by decide +kernel
theorem dX3_drainBuffers_26 : decode cX3_drainBuffers 26 = .ok (.aload_n 3, 1) := by decide +kernel
theorem dX3_drainBuffers_27 : decode cX3_drainBuffers 27 = .ok (.iload 5, 2) := by decide +kernel
theorem dX3_drainBuffers_29 : decode cX3_drainBuffers 29 = .ok (.aaload, 1) := by decide +kernel
theorem dX3_drainBuffers_30 : decode cX3_drainBuffers 30 = .ok (.astore 6, 2) := by decide +kernel
theorem dX3_drainBuffers_32 : decode cX3_drainBuffers 32 = .ok (.iload_n 1, 1) := by decide +kernel
theorem dX3_drainBuffers_33 : decode cX3_drainBuffers 33 = .ok (.aload 6, 2) := by decide +kernel
theorem dX3_drainBuffers_35 : decode cX3_drainBuffers 35 = .ok (.getfield 140, 3) := by decide +kernel
theorem dX3_drainBuffers_38 : decode cX3_drainBuffers 38 = .ok (.iushr, 1) := by decide +kernel
theorem dX3_drainBuffers_39 : decode cX3_drainBuffers 39 = .ok (.iconst 1, 1) := by decide +kernel
theorem dX3_drainBuffers_40 : decode cX3_drainBuffers 40 = .ok (.iand, 1) := by decide +kernel
theorem dX3_drainBuffers_41 : decode cX3_drainBuffers 41 = .ok (.ifCond .eq 32, 3) := by decide +kernel
theorem dX3_drainBuffers_44 : decode cX3_drainBuffers 44 = .ok (.aload 6, 2) := by decide +kernel
theorem dX3_drainBuffers_46 : decode cX3_drainBuffers 46 = .ok (.aload_n 0, 1) := by decide +kernel
theorem dX3_drainBuffers_47 : decode cX3_drainBuffers 47 = .ok (.getfield 34, 3) := by decide +kernel
theorem dX3_drainBuffers_50 : decode cX3_drainBuffers 50 = .ok (.aload_n 0, 1) := by decide +kernel
theorem dX3_drainBuffers_51 : decode cX3_drainBuffers 51 = .ok (.getfield 61, 3) := by decide +kernel
theorem dX3_drainBuffers_54 : decode cX3_drainBuffers 54 = .ok (.invokevirtual 143, 3) := by decide +kernel
theorem dX3_drainBuffers_57 : decode cX3_drainBuffers 57 = .ok (.astore 7, 2) := by decide +kernel
theorem dX3_drainBuffers_59 : decode cX3_drainBuffers 59 = .ok (.aload 7, 2) := by decide +kernel
theorem dX3_drainBuffers_61 : decode cX3_drainBuffers 61 = .ok (.ifnull 12, 3) := by decide +kernel
theorem dX3_drainBuffers_64 : decode cX3_drainBuffers 64 = .ok (.aload_n 0, 1) := by decide +kernel
theorem dX3_drainBuffers_65 : decode cX3_drainBuffers 65 = .ok (.aload 7, 2) := by decide +kernel
theorem dX3_drainBuffers_67 : decode cX3_drainBuffers 67 = .ok (.invokevirtual 147, 3) := by decide +kernel
theorem dX3_drainBuffers_70 : decode cX3_drainBuffers 70 = .ok (.iinc 2 1, 3) := by decide +kernel
theorem dX3_drainBuffers_73 : decode cX3_drainBuffers 73 = .ok (.iinc 5 1, 3) := by decide +kernel
theorem dX3_drainBuffers_76 : decode cX3_drainBuffers 76 = .ok (.goto (-57), 3) := by decide +kernel
theorem dX3_drainBuffers_79 : decode cX3_drainBuffers 79 = .ok (.iload_n 2, 1) := by decide +kernel
theorem dX3_drainBuffers_80 : decode cX3_drainBuffers 80 = .ok (.ireturn, 1) := by decide +kernel
theorem dX3_maskNow_0 : decode cX3_maskNow 0 = .ok (.aload_n 0, 1) := by decide +kernel
theorem dX3_maskNow_1 : decode cX3_maskNow 1 = .ok (.getfield 27, 3) := by decide +kernel
theorem dX3_maskNow_4 : decode cX3_maskNow 4 = .ok (.ifCond .le 15, 3) := by decide +kernel
theorem dX3_maskNow_7 : decode cX3_maskNow 7 = .ok (.aload_n 0, 1) := by decide +kernel
theorem dX3_maskNow_8 : decode cX3_maskNow 8 = .ok (.getfield 27, 3) := by decide +kernel
theorem dX3_maskNow_11 : decode cX3_maskNow 11 = .ok (.aload_n 0, 1) := by decide +kernel
theorem dX3_maskNow_12 : decode cX3_maskNow 12 = .ok (.getfield 23, 3) := by decide +kernel
theorem dX3_maskNow_15 : decode cX3_maskNow 15 = .ok (.arraylength, 1) := by decide +kernel
theorem dX3_maskNow_16 : decode cX3_maskNow 16 = .ok (.if_icmp .le 5, 3) := by decide +kernel
theorem dX3_maskNow_19 : decode cX3_maskNow 19 = .ok (.iconst (-1), 1) := by decide +kernel
theorem dX3_maskNow_20 : decode cX3_maskNow 20 = .ok (.ireturn, 1) := by decide +kernel
theorem dX3_maskNow_21 : decode cX3_maskNow 21 = .ok (.aload_n 0, 1) := by decide +kernel
theorem dX3_maskNow_22 : decode cX3_maskNow 22 = .ok (.getfield 23, 3) := by decide +kernel
theorem dX3_maskNow_25 : decode cX3_maskNow 25 = .ok (.aload_n 0, 1) := by decide +kernel
theorem dX3_maskNow_26 : decode cX3_maskNow 26 = .ok (.getfield 34, 3) := by decide +kernel
theorem dX3_maskNow_29 : decode cX3_maskNow 29 = .ok (.aload_n 0, 1) := by decide +kernel
theorem dX3_maskNow_30 : decode cX3_maskNow 30 = .ok (.getfield 27, 3) := by decide +kernel
theorem dX3_maskNow_33 : decode cX3_maskNow 33 = .ok (.invokestatic 151, 3) := by decide +kernel
theorem dX3_maskNow_36 : decode cX3_maskNow 36 = .ok (.iaload, 1) := by decide +kernel
theorem dX3_maskNow_37 : decode cX3_maskNow 37 = .ok (.ireturn, 1) := by decide +kernel
theorem dX3_noteArrived_0 : decode cX3_noteArrived 0 = .ok (.aload_n 1, 1) := by decide +kernel
theorem dX3_noteArrived_1 : decode cX3_noteArrived 1 = .ok (.aload_n 0, 1) := by decide +kernel
theorem dX3_noteArrived_2 : decode cX3_noteArrived 2 = .ok (.getfield 34, 3) := by decide +kernel
theorem dX3_noteArrived_5 : decode cX3_noteArrived 5 = .ok (.putfield 157, 3) := by decide +kernel
theorem dX3_noteArrived_8 : decode cX3_noteArrived 8 = .ok (.aload_n 0, 1) := by decide +kernel
theorem dX3_noteArrived_9 : decode cX3_noteArrived 9 = .ok (.getfield 34, 3) := by decide +kernel
theorem dX3_noteArrived_12 : decode cX3_noteArrived 12 = .ok (.aload_n 1, 1) := by decide +kernel
theorem dX3_noteArrived_13 : decode cX3_noteArrived 13 = .ok (.getfield 98, 3) := by decide +kernel
theorem dX3_noteArrived_16 : decode cX3_noteArrived 16 = .ok (.if_icmp .le 24, 3) := by decide +kernel
theorem dX3_noteArrived_19 : decode cX3_noteArrived 19 = .ok (.aload_n 0, 1) := by decide +kernel
theorem dX3_noteArrived_20 : decode cX3_noteArrived 20 = .ok (.getfield 55, 3) := by decide +kernel
theorem dX3_noteArrived_23 : decode cX3_noteArrived 23 = .ok (.aload_n 1, 1) := by decide +kernel
theorem dX3_noteArrived_24 : decode cX3_noteArrived 24 = .ok (.getfield 160, 3) := by decide +kernel
theorem dX3_noteArrived_27 : decode cX3_noteArrived 27 = .ok (.if_icmp .ge 13, 3) := by decide +kernel
theorem dX3_noteArrived_30 : decode cX3_noteArrived 30 = .ok (.aload_n 0, 1) := by decide +kernel
theorem dX3_noteArrived_31 : decode cX3_noteArrived 31 = .ok (.dup, 1) := by decide +kernel
theorem dX3_noteArrived_32 : decode cX3_noteArrived 32 = .ok (.getfield 52, 3) := by decide +kernel
theorem dX3_noteArrived_35 : decode cX3_noteArrived 35 = .ok (.iconst 1, 1) := by decide +kernel
theorem dX3_noteArrived_36 : decode cX3_noteArrived 36 = .ok (.iadd, 1) := by decide +kernel
theorem dX3_noteArrived_37 : decode cX3_noteArrived 37 = .ok (.putfield 52, 3) := by decide +kernel
theorem dX3_noteArrived_40 : decode cX3_noteArrived 40 = .ok (.return_, 1) := by decide +kernel
theorem dX3_sendFlit_0 : decode cX3_sendFlit 0 = .ok (.aload_n 0, 1) := by decide +kernel
theorem dX3_sendFlit_1 : decode cX3_sendFlit 1 = .ok (.getfield 37, 3) := by decide +kernel
theorem dX3_sendFlit_4 : decode cX3_sendFlit 4 = .ok (.iconst 2, 1) := by decide +kernel
theorem dX3_sendFlit_5 : decode cX3_sendFlit 5 = .ok (.if_icmp .ne 14, 3) := by decide +kernel
theorem dX3_sendFlit_8 : decode cX3_sendFlit 8 = .ok (.aload_n 0, 1) := by decide +kernel
theorem dX3_sendFlit_9 : decode cX3_sendFlit 9 = .ok (.invokevirtual 163, 3) := by decide +kernel
theorem dX3_sendFlit_12 : decode cX3_sendFlit 12 = .ok (.ifCond .eq 7, 3) := by decide +kernel
theorem dX3_sendFlit_15 : decode cX3_sendFlit 15 = .ok (.iconst 1, 1) := by decide +kernel
theorem dX3_sendFlit_16 : decode cX3_sendFlit 16 = .ok (.goto 4, 3) := by decide +kernel
theorem dX3_sendFlit_19 : decode cX3_sendFlit 19 = .ok (.iconst 0, 1) := by decide +kernel
theorem dX3_sendFlit_20 : decode cX3_sendFlit 20 = .ok (.istore_n 1, 1) := by decide +kernel
theorem dX3_sendFlit_21 : decode cX3_sendFlit 21 = .ok (.aload_n 0, 1) := by decide +kernel
theorem dX3_sendFlit_22 : decode cX3_sendFlit 22 = .ok (.iload_n 1, 1) := by decide +kernel
theorem dX3_sendFlit_23 : decode cX3_sendFlit 23 = .ok (.ifCond .eq 10, 3) := by decide +kernel
theorem dX3_sendFlit_26 : decode cX3_sendFlit 26 = .ok (.aload_n 0, 1) := by decide +kernel
theorem dX3_sendFlit_27 : decode cX3_sendFlit 27 = .ok (.getfield 40, 3) := by decide +kernel
theorem dX3_sendFlit_30 : decode cX3_sendFlit 30 = .ok (.goto 7, 3) := by decide +kernel
theorem dX3_sendFlit_33 : decode cX3_sendFlit 33 = .ok (.aload_n 0, 1) := by decide +kernel
theorem dX3_sendFlit_34 : decode cX3_sendFlit 34 = .ok (.invokevirtual 166, 3) := by decide +kernel
theorem dX3_sendFlit_37 : decode cX3_sendFlit 37 = .ok (.invokevirtual 169, 3) := by decide +kernel
theorem dX3_sendFlit_40 : decode cX3_sendFlit 40 = .ok (.astore_n 2, 1) := by decide +kernel
theorem dX3_sendFlit_41 : decode cX3_sendFlit 41 = .ok (.aload_n 2, 1) := by decide +kernel
theorem dX3_sendFlit_42 : decode cX3_sendFlit 42 = .ok (.ifnonnull 7, 3) := by decide +kernel
theorem dX3_sendFlit_45 : decode cX3_sendFlit 45 = .ok (.aconst_null, 1) := by decide +kernel
theorem dX3_sendFlit_46 : decode cX3_sendFlit 46 = .ok (.goto 7, 3) := by decide +kernel
theorem dX3_sendFlit_49 : decode cX3_sendFlit 49 = .ok (.aload_n 2, 1) := by decide +kernel
theorem dX3_sendFlit_50 : decode cX3_sendFlit 50 = .ok (.invokevirtual 173, 3) := by decide +kernel
theorem dX3_sendFlit_53 : decode cX3_sendFlit 53 = .ok (.astore_n 3, 1) := by decide +kernel
theorem dX3_sendFlit_54 : decode cX3_sendFlit 54 = .ok (.aload_n 2, 1) := by decide +kernel
theorem dX3_sendFlit_55 : decode cX3_sendFlit 55 = .ok (.ifnull 7, 3) := by decide +kernel
theorem dX3_sendFlit_58 : decode cX3_sendFlit 58 = .ok (.aload_n 3, 1) := by decide +kernel
theorem dX3_sendFlit_59 : decode cX3_sendFlit 59 = .ok (.ifnonnull 8, 3) := by decide +kernel
theorem dX3_sendFlit_62 : decode cX3_sendFlit 62 = .ok (.aload_n 0, 1) := by decide +kernel
theorem dX3_sendFlit_63 : decode cX3_sendFlit 63 = .ok (.invokevirtual 177, 3) := by decide +kernel
theorem dX3_sendFlit_66 : decode cX3_sendFlit 66 = .ok (.return_, 1) := by decide +kernel
theorem dX3_sendFlit_67 : decode cX3_sendFlit 67 = .ok (.aload_n 3, 1) := by decide +kernel
theorem dX3_sendFlit_68 : decode cX3_sendFlit 68 = .ok (.getfield 180, 3) := by decide +kernel
theorem dX3_sendFlit_71 : decode cX3_sendFlit 71 = .ok (.ifCond .ne 14, 3) := by decide +kernel
theorem dX3_sendFlit_74 : decode cX3_sendFlit 74 = .ok (.aload_n 3, 1) := by decide +kernel
theorem dX3_sendFlit_75 : decode cX3_sendFlit 75 = .ok (.getfield 127, 3) := by decide +kernel
theorem dX3_sendFlit_78 : decode cX3_sendFlit 78 = .ok (.aload_n 0, 1) := by decide +kernel
theorem dX3_sendFlit_79 : decode cX3_sendFlit 79 = .ok (.getfield 34, 3) := by decide +kernel
theorem dX3_sendFlit_82 : decode cX3_sendFlit 82 = .ok (.putfield 181, 3) := by decide +kernel
theorem dX3_sendFlit_85 : decode cX3_sendFlit 85 = .ok (.aload_n 0, 1) := by decide +kernel
theorem dX3_sendFlit_86 : decode cX3_sendFlit 86 = .ok (.getfield 11, 3) := by decide +kernel
theorem dX3_sendFlit_89 : decode cX3_sendFlit 89 = .ok (.aload_n 0, 1) := by decide +kernel
theorem dX3_sendFlit_90 : decode cX3_sendFlit 90 = .ok (.getfield 34, 3) := by decide +kernel
theorem dX3_sendFlit_93 : decode cX3_sendFlit 93 = .ok (.aload_n 0, 1) := by decide +kernel
theorem dX3_sendFlit_94 : decode cX3_sendFlit 94 = .ok (.getfield 58, 3) := by decide +kernel
theorem dX3_sendFlit_97 : decode cX3_sendFlit 97 = .ok (.iadd, 1) := by decide +kernel
theorem dX3_sendFlit_98 : decode cX3_sendFlit 98 = .ok (.bipush 15, 2) := by decide +kernel
theorem dX3_sendFlit_100 : decode cX3_sendFlit 100 = .ok (.iand, 1) := by decide +kernel
theorem dX3_sendFlit_101 : decode cX3_sendFlit 101 = .ok (.aload_n 3, 1) := by decide +kernel
theorem dX3_sendFlit_102 : decode cX3_sendFlit 102 = .ok (.aastore, 1) := by decide +kernel
theorem dX3_sendFlit_103 : decode cX3_sendFlit 103 = .ok (.aload_n 2, 1) := by decide +kernel
theorem dX3_sendFlit_104 : decode cX3_sendFlit 104 = .ok (.getfield 140, 3) := by decide +kernel
theorem dX3_sendFlit_107 : decode cX3_sendFlit 107 = .ok (.aload_n 0, 1) := by decide +kernel
theorem dX3_sendFlit_108 : decode cX3_sendFlit 108 = .ok (.getfield 40, 3) := by decide +kernel
theorem dX3_sendFlit_111 : decode cX3_sendFlit 111 = .ok (.if_icmp .ne 15, 3) := by decide +kernel
theorem dX3_sendFlit_114 : decode cX3_sendFlit 114 = .ok (.aload_n 0, 1) := by decide +kernel
theorem dX3_sendFlit_115 : decode cX3_sendFlit 115 = .ok (.getfield 37, 3) := by decide +kernel
theorem dX3_sendFlit_118 : decode cX3_sendFlit 118 = .ok (.iconst 2, 1) := by decide +kernel
theorem dX3_sendFlit_119 : decode cX3_sendFlit 119 = .ok (.if_icmp .ne 11, 3) := by decide +kernel
theorem dX3_sendFlit_122 : decode cX3_sendFlit 122 = .ok (.iload_n 1, 1) := by decide +kernel
theorem dX3_sendFlit_123 : decode cX3_sendFlit 123 = .ok (.ifCond .ne 7, 3) := by decide +kernel
theorem dX3_sendFlit_126 : decode cX3_sendFlit 126 = .ok (.iconst 1, 1) := by decide +kernel
theorem dX3_sendFlit_127 : decode cX3_sendFlit 127 = .ok (.goto 4, 3) := by decide +kernel
theorem dX3_sendFlit_130 : decode cX3_sendFlit 130 = .ok (.iconst 0, 1) := by decide +kernel
theorem dX3_sendFlit_131 : decode cX3_sendFlit 131 = .ok (.istore 4, 2) := by decide +kernel
theorem dX3_sendFlit_133 : decode cX3_sendFlit 133 = .ok (.aload_n 0, 1) := by decide +kernel
theorem dX3_sendFlit_134 : decode cX3_sendFlit 134 = .ok (.iload 4, 2) := by decide +kernel
theorem dX3_sendFlit_136 : decode cX3_sendFlit 136 = .ok (.ifCond .eq 7, 3) := by decide +kernel
theorem dX3_sendFlit_139 : decode cX3_sendFlit 139 = .ok (.iconst 1, 1) := by decide +kernel
theorem dX3_sendFlit_140 : decode cX3_sendFlit 140 = .ok (.goto 9, 3) := by decide +kernel
theorem dX3_sendFlit_143 : decode cX3_sendFlit 143 = .ok (.aload_n 0, 1) := by decide +kernel
theorem dX3_sendFlit_144 : decode cX3_sendFlit 144 = .ok (.getfield 43, 3) := by decide +kernel
theorem dX3_sendFlit_147 : decode cX3_sendFlit 147 = .ok (.iconst 1, 1) := by decide +kernel
theorem dX3_sendFlit_148 : decode cX3_sendFlit 148 = .ok (.iadd, 1) := by decide +kernel
theorem dX3_sendFlit_149 : decode cX3_sendFlit 149 = .ok (.putfield 43, 3) := by decide +kernel
theorem dX3_sendFlit_152 : decode cX3_sendFlit 152 = .ok (.aload_n 0, 1) := by decide +kernel
theorem dX3_sendFlit_153 : decode cX3_sendFlit 153 = .ok (.aload_n 2, 1) := by decide +kernel
theorem dX3_sendFlit_154 : decode cX3_sendFlit 154 = .ok (.getfield 140, 3) := by decide +kernel
theorem dX3_sendFlit_157 : decode cX3_sendFlit 157 = .ok (.putfield 40, 3) := by decide +kernel
theorem dX3_sendFlit_160 : decode cX3_sendFlit 160 = .ok (.return_, 1) := by decide +kernel
theorem dX3_lastMayGoOn_0 : decode cX3_lastMayGoOn 0 = .ok (.aload_n 0, 1) := by decide +kernel
theorem dX3_lastMayGoOn_1 : decode cX3_lastMayGoOn 1 = .ok (.aload_n 0, 1) := by decide +kernel
theorem dX3_lastMayGoOn_2 : decode cX3_lastMayGoOn 2 = .ok (.getfield 40, 3) := by decide +kernel
theorem dX3_lastMayGoOn_5 : decode cX3_lastMayGoOn 5 = .ok (.invokevirtual 169, 3) := by decide +kernel
theorem dX3_lastMayGoOn_8 : decode cX3_lastMayGoOn 8 = .ok (.astore_n 1, 1) := by decide +kernel
theorem dX3_lastMayGoOn_9 : decode cX3_lastMayGoOn 9 = .ok (.aload_n 1, 1) := by decide +kernel
theorem dX3_lastMayGoOn_10 : decode cX3_lastMayGoOn 10 = .ok (.ifnull 25, 3) := by decide +kernel
theorem dX3_lastMayGoOn_13 : decode cX3_lastMayGoOn 13 = .ok (.aload_n 1, 1) := by decide +kernel
theorem dX3_lastMayGoOn_14 : decode cX3_lastMayGoOn 14 = .ok (.invokevirtual 184, 3) := by decide +kernel
theorem dX3_lastMayGoOn_17 : decode cX3_lastMayGoOn 17 = .ok (.ifCond .eq 18, 3) := by decide +kernel
theorem dX3_lastMayGoOn_20 : decode cX3_lastMayGoOn 20 = .ok (.aload_n 0, 1) := by decide +kernel
theorem dX3_lastMayGoOn_21 : decode cX3_lastMayGoOn 21 = .ok (.getfield 43, 3) := by decide +kernel
theorem dX3_lastMayGoOn_24 : decode cX3_lastMayGoOn 24 = .ok (.aload_n 1, 1) := by decide +kernel
theorem dX3_lastMayGoOn_25 : decode cX3_lastMayGoOn 25 = .ok (.getfield 187, 3) := by decide +kernel
theorem dX3_lastMayGoOn_28 : decode cX3_lastMayGoOn 28 = .ok (.if_icmp .ge 7, 3) := by decide +kernel
theorem dX3_lastMayGoOn_31 : decode cX3_lastMayGoOn 31 = .ok (.iconst 1, 1) := by decide +kernel
theorem dX3_lastMayGoOn_32 : decode cX3_lastMayGoOn 32 = .ok (.goto 4, 3) := by decide +kernel
theorem dX3_lastMayGoOn_35 : decode cX3_lastMayGoOn 35 = .ok (.iconst 0, 1) := by decide +kernel
theorem dX3_lastMayGoOn_36 : decode cX3_lastMayGoOn 36 = .ok (.ireturn, 1) := by decide +kernel
theorem dX3_chooseChannel_0 : decode cX3_chooseChannel 0 = .ok (.aload_n 0, 1) := by decide +kernel
theorem dX3_chooseChannel_1 : decode cX3_chooseChannel 1 = .ok (.getfield 37, 3) := by decide +kernel
theorem dX3_chooseChannel_4 : decode cX3_chooseChannel 4 = .ok (.iconst 1, 1) := by decide +kernel
theorem dX3_chooseChannel_5 : decode cX3_chooseChannel 5 = .ok (.if_icmp .ne 9, 3) := by decide +kernel
theorem dX3_chooseChannel_8 : decode cX3_chooseChannel 8 = .ok (.aload_n 0, 1) := by decide +kernel
theorem dX3_chooseChannel_9 : decode cX3_chooseChannel 9 = .ok (.iconst 0, 1) := by decide +kernel
theorem dX3_chooseChannel_10 : decode cX3_chooseChannel 10 = .ok (.invokevirtual 190, 3) := by decide +kernel
theorem dX3_chooseChannel_13 : decode cX3_chooseChannel 13 = .ok (.ireturn, 1) := by decide +kernel
theorem dX3_chooseChannel_14 : decode cX3_chooseChannel 14 = .ok (.aload_n 0, 1) := by decide +kernel
theorem dX3_chooseChannel_15 : decode cX3_chooseChannel 15 = .ok (.getfield 37, 3) := by decide +kernel
theorem dX3_chooseChannel_18 : decode cX3_chooseChannel 18 = .ok (.iconst 3, 1) := by decide +kernel
theorem dX3_chooseChannel_19 : decode cX3_chooseChannel 19 = .ok (.if_icmp .ne 10, 3) := by decide +kernel
theorem dX3_chooseChannel_22 : decode cX3_chooseChannel 22 = .ok (.aload_n 0, 1) := by decide +kernel
theorem dX3_chooseChannel_23 : decode cX3_chooseChannel 23 = .ok (.invokevirtual 194, 3) := by decide +kernel
theorem dX3_chooseChannel_26 : decode cX3_chooseChannel 26 = .ok (.goto 4, 3) := by decide +kernel
theorem dX3_chooseChannel_29 : decode cX3_chooseChannel 29 = .ok (.aconst_null, 1) := by decide +kernel
theorem dX3_chooseChannel_30 : decode cX3_chooseChannel 30 = .ok (.astore_n 1, 1) := by decide +kernel
theorem dX3_chooseChannel_31 : decode cX3_chooseChannel 31 = .ok (.aload_n 1, 1) := by decide +kernel
theorem dX3_chooseChannel_32 : decode cX3_chooseChannel 32 = .ok (.ifnull 19, 3) := by decide +kernel
theorem dX3_chooseChannel_35 : decode cX3_chooseChannel 35 = .ok (.aload_n 1, 1) := by decide +kernel
theorem dX3_chooseChannel_36 : decode cX3_chooseChannel 36 = .ok (.invokevirtual 184, 3) := by decide +kernel
theorem dX3_chooseChannel_39 : decode cX3_chooseChannel 39 = .ok (.ifCond .eq 10, 3) := by decide +kernel
theorem dX3_chooseChannel_42 : decode cX3_chooseChannel 42 = .ok (.aload_n 1, 1) := by decide +kernel
theorem dX3_chooseChannel_43 : decode cX3_chooseChannel 43 = .ok (.getfield 140, 3) := by decide +kernel
theorem dX3_chooseChannel_46 : decode cX3_chooseChannel 46 = .ok (.goto 4, 3) := by decide +kernel
theorem dX3_chooseChannel_49 : decode cX3_chooseChannel 49 = .ok (.iconst (-1), 1) := by decide +kernel
theorem dX3_chooseChannel_50 : decode cX3_chooseChannel 50 = .ok (.ireturn, 1) := by decide +kernel
theorem dX3_chooseChannel_51 : decode cX3_chooseChannel 51 = .ok (.aload_n 0, 1) := by decide +kernel
theorem dX3_chooseChannel_52 : decode cX3_chooseChannel 52 = .ok (.aload_n 0, 1) := by decide +kernel
theorem dX3_chooseChannel_53 : decode cX3_chooseChannel 53 = .ok (.getfield 40, 3) := by decide +kernel
theorem dX3_chooseChannel_56 : decode cX3_chooseChannel 56 = .ok (.iconst 1, 1) := by decide +kernel
theorem dX3_chooseChannel_57 : decode cX3_chooseChannel 57 = .ok (.iadd, 1) := by decide +kernel
theorem dX3_chooseChannel_58 : decode cX3_chooseChannel 58 = .ok (.invokevirtual 190, 3) := by decide +kernel
theorem dX3_chooseChannel_61 : decode cX3_chooseChannel 61 = .ok (.ireturn, 1) := by decide +kernel
theorem dX3_firstInsidePacket_0 : decode cX3_firstInsidePacket 0 = .ok (.aload_n 0, 1) := by decide +kernel
theorem dX3_firstInsidePacket_1 : decode cX3_firstInsidePacket 1 = .ok (.getfield 66, 3) := by decide +kernel
theorem dX3_firstInsidePacket_4 : decode cX3_firstInsidePacket 4 = .ok (.astore_n 1, 1) := by decide +kernel
theorem dX3_firstInsidePacket_5 : decode cX3_firstInsidePacket 5 = .ok (.aload_n 1, 1) := by decide +kernel
theorem dX3_firstInsidePacket_6 : decode cX3_firstInsidePacket 6 = .ok (.arraylength, 1) := by decide +kernel
theorem dX3_firstInsidePacket_7 : decode cX3_firstInsidePacket 7 = .ok (.istore_n 2, 1) := by decide +kernel
theorem dX3_firstInsidePacket_8 : decode cX3_firstInsidePacket 8 = .ok (.iconst 0, 1) := by decide +kernel
theorem dX3_firstInsidePacket_9 : decode cX3_firstInsidePacket 9 = .ok (.istore_n 3, 1) := by decide +kernel
theorem dX3_firstInsidePacket_10 : decode cX3_firstInsidePacket 10 = .ok (.iload_n 3, 1) := by decide +kernel
theorem dX3_firstInsidePacket_11 : decode cX3_firstInsidePacket 11 = .ok (.iload_n 2, 1) := by decide +kernel
theorem dX3_firstInsidePacket_12 : decode cX3_firstInsidePacket 12 = .ok (.if_icmp .ge 25, 3) := by decide +kernel
theorem dX3_firstInsidePacket_15 : decode cX3_firstInsidePacket 15 = .ok (.aload_n 1, 1) := by decide +kernel
theorem dX3_firstInsidePacket_16 : decode cX3_firstInsidePacket 16 = .ok (.iload_n 3, 1) := by decide +kernel
theorem dX3_firstInsidePacket_17 : decode cX3_firstInsidePacket 17 = .ok (.aaload, 1) := by decide +kernel
theorem dX3_firstInsidePacket_18 : decode cX3_firstInsidePacket 18 = .ok (.astore 4, 2) := by decide +kernel
theorem dX3_firstInsidePacket_20 : decode cX3_firstInsidePacket 20 = .ok (.aload 4, 2) := by decide +kernel
theorem dX3_firstInsidePacket_22 : decode cX3_firstInsidePacket 22 = .ok (.invokevirtual 198, 3) := by decide +kernel
theorem dX3_firstInsidePacket_25 : decode cX3_firstInsidePacket 25 = .ok (.ifCond .eq 6, 3) := by decide +kernel
theorem dX3_firstInsidePacket_28 : decode cX3_firstInsidePacket 28 = .ok (.aload 4, 2) := by decide +kernel
theorem dX3_firstInsidePacket_30 : decode cX3_firstInsidePacket 30 = .ok (.areturn, 1) := by decide +kernel
theorem dX3_firstInsidePacket_31 : decode cX3_firstInsidePacket 31 = .ok (.iinc 3 1, 3) := by decide +kernel
theorem dX3_firstInsidePacket_34 : decode cX3_firstInsidePacket 34 = .ok (.goto (-24), 3) := by decide +kernel
theorem dX3_firstInsidePacket_37 : decode cX3_firstInsidePacket 37 = .ok (.aconst_null, 1) := by decide +kernel
theorem dX3_firstInsidePacket_38 : decode cX3_firstInsidePacket 38 = .ok (.areturn, 1) := by decide +kernel
theorem dX3_firstAbleFrom_0 : decode cX3_firstAbleFrom 0 = .ok (.iconst 0, 1) := by decide +kernel
theorem dX3_firstAbleFrom_1 : decode cX3_firstAbleFrom 1 = .ok (.istore_n 2, 1) := by decide +kernel
theorem dX3_firstAbleFrom_2 : decode cX3_firstAbleFrom 2 = .ok (.iload_n 2, 1) := by decide +kernel
theorem dX3_firstAbleFrom_3 : decode cX3_firstAbleFrom 3 = .ok (.aload_n 0, 1) := by decide +kernel
theorem dX3_firstAbleFrom_4 : decode cX3_firstAbleFrom 4 = .ok (.getfield 66, 3) := by decide +kernel
theorem dX3_firstAbleFrom_7 : decode cX3_firstAbleFrom 7 = .ok (.arraylength, 1) := by decide +kernel
theorem dX3_firstAbleFrom_8 : decode cX3_firstAbleFrom 8 = .ok (.if_icmp .ge 58, 3) := by decide +kernel
theorem dX3_firstAbleFrom_11 : decode cX3_firstAbleFrom 11 = .ok (.iload_n 1, 1) := by decide +kernel
theorem dX3_firstAbleFrom_12 : decode cX3_firstAbleFrom 12 = .ok (.iload_n 2, 1) := by decide +kernel
theorem dX3_firstAbleFrom_13 : decode cX3_firstAbleFrom 13 = .ok (.iadd, 1) := by decide +kernel
theorem dX3_firstAbleFrom_14 : decode cX3_firstAbleFrom 14 = .ok (.istore_n 3, 1) := by decide +kernel
theorem dX3_firstAbleFrom_15 : decode cX3_firstAbleFrom 15 = .ok (.aload_n 0, 1) := by decide +kernel
theorem dX3_firstAbleFrom_16 : decode cX3_firstAbleFrom 16 = .ok (.iload_n 3, 1) := by decide +kernel
theorem dX3_firstAbleFrom_17 : decode cX3_firstAbleFrom 17 = .ok (.aload_n 0, 1) := by decide +kernel
theorem dX3_firstAbleFrom_18 : decode cX3_firstAbleFrom 18 = .ok (.getfield 66, 3) := by decide +kernel
theorem dX3_firstAbleFrom_21 : decode cX3_firstAbleFrom 21 = .ok (.arraylength, 1) := by decide +kernel
theorem dX3_firstAbleFrom_22 : decode cX3_firstAbleFrom 22 = .ok (.if_icmp .ge 7, 3) := by decide +kernel
theorem dX3_firstAbleFrom_25 : decode cX3_firstAbleFrom 25 = .ok (.iload_n 3, 1) := by decide +kernel
theorem dX3_firstAbleFrom_26 : decode cX3_firstAbleFrom 26 = .ok (.goto 10, 3) := by decide +kernel
theorem dX3_firstAbleFrom_29 : decode cX3_firstAbleFrom 29 = .ok (.iload_n 3, 1) := by decide +kernel
theorem dX3_firstAbleFrom_30 : decode cX3_firstAbleFrom 30 = .ok (.aload_n 0, 1) := by decide +kernel
theorem dX3_firstAbleFrom_31 : decode cX3_firstAbleFrom 31 = .ok (.getfield 66, 3) := by decide +kernel
theorem dX3_firstAbleFrom_34 : decode cX3_firstAbleFrom 34 = .ok (.arraylength, 1) := by decide +kernel
theorem dX3_firstAbleFrom_35 : decode cX3_firstAbleFrom 35 = .ok (.isub, 1) := by decide +kernel
theorem dX3_firstAbleFrom_36 : decode cX3_firstAbleFrom 36 = .ok (.invokevirtual 169, 3) := by decide +kernel
theorem dX3_firstAbleFrom_39 : decode cX3_firstAbleFrom 39 = .ok (.astore 4, 2) := by decide +kernel
theorem dX3_firstAbleFrom_41 : decode cX3_firstAbleFrom 41 = .ok (.aload 4, 2) := by decide +kernel
theorem dX3_firstAbleFrom_43 : decode cX3_firstAbleFrom 43 = .ok (.ifnull 17, 3) := by decide +kernel
theorem dX3_firstAbleFrom_46 : decode cX3_firstAbleFrom 46 = .ok (.aload 4, 2) := by decide +kernel
theorem dX3_firstAbleFrom_48 : decode cX3_firstAbleFrom 48 = .ok (.invokevirtual 184, 3) := by decide +kernel
theorem dX3_firstAbleFrom_51 : decode cX3_firstAbleFrom 51 = .ok (.ifCond .eq 9, 3) := by decide +kernel
theorem dX3_firstAbleFrom_54 : decode cX3_firstAbleFrom 54 = .ok (.aload 4, 2) := by decide +kernel
theorem dX3_firstAbleFrom_56 : decode cX3_firstAbleFrom 56 = .ok (.getfield 140, 3) := by decide +kernel
theorem dX3_firstAbleFrom_59 : decode cX3_firstAbleFrom 59 = .ok (.ireturn, 1) := by decide +kernel
theorem dX3_firstAbleFrom_60 : decode cX3_firstAbleFrom 60 = .ok (.iinc 2 1, 3) := by decide +kernel
theorem dX3_firstAbleFrom_63 : decode cX3_firstAbleFrom 63 = .ok (.goto (-61), 3) := by decide +kernel
theorem dX3_firstAbleFrom_66 : decode cX3_firstAbleFrom 66 = .ok (.iconst (-1), 1) := by decide +kernel
theorem dX3_firstAbleFrom_67 : decode cX3_firstAbleFrom 67 = .ok (.ireturn, 1) := by decide +kernel
theorem dX3_noteStalled_0 : decode cX3_noteStalled 0 = .ok (.aload_n 0, 1) := by decide +kernel
theorem dX3_noteStalled_1 : decode cX3_noteStalled 1 = .ok (.getfield 66, 3) := by decide +kernel
theorem dX3_noteStalled_4 : decode cX3_noteStalled 4 = .ok (.astore_n 1, 1) := by decide +kernel
theorem dX3_noteStalled_5 : decode cX3_noteStalled 5 = .ok (.aload_n 1, 1) := by decide +kernel
theorem dX3_noteStalled_6 : decode cX3_noteStalled 6 = .ok (.arraylength, 1) := by decide +kernel
theorem dX3_noteStalled_7 : decode cX3_noteStalled 7 = .ok (.istore_n 2, 1) := by decide +kernel
theorem dX3_noteStalled_8 : decode cX3_noteStalled 8 = .ok (.iconst 0, 1) := by decide +kernel
theorem dX3_noteStalled_9 : decode cX3_noteStalled 9 = .ok (.istore_n 3, 1) := by decide +kernel
theorem dX3_noteStalled_10 : decode cX3_noteStalled 10 = .ok (.iload_n 3, 1) := by decide +kernel
theorem dX3_noteStalled_11 : decode cX3_noteStalled 11 = .ok (.iload_n 2, 1) := by decide +kernel
theorem dX3_noteStalled_12 : decode cX3_noteStalled 12 = .ok (.if_icmp .ge 36, 3) := by decide +kernel
theorem dX3_noteStalled_15 : decode cX3_noteStalled 15 = .ok (.aload_n 1, 1) := by decide +kernel
theorem dX3_noteStalled_16 : decode cX3_noteStalled 16 = .ok (.iload_n 3, 1) := by decide +kernel
theorem dX3_noteStalled_17 : decode cX3_noteStalled 17 = .ok (.aaload, 1) := by decide +kernel
theorem dX3_noteStalled_18 : decode cX3_noteStalled 18 = .ok (.astore 4, 2) := by decide +kernel
theorem dX3_noteStalled_20 : decode cX3_noteStalled 20 = .ok (.aload 4, 2) := by decide +kernel
theorem dX3_noteStalled_22 : decode cX3_noteStalled 22 = .ok (.getfield 79, 3) := by decide +kernel
theorem dX3_noteStalled_25 : decode cX3_noteStalled 25 = .ok (.getfield 95, 3) := by decide +kernel
theorem dX3_noteStalled_28 : decode cX3_noteStalled 28 = .ok (.ifCond .le 14, 3) := by decide +kernel
theorem dX3_noteStalled_31 : decode cX3_noteStalled 31 = .ok (.aload_n 0, 1) := by decide +kernel
theorem dX3_noteStalled_32 : decode cX3_noteStalled 32 = .ok (.dup, 1) := by decide +kernel
theorem dX3_noteStalled_33 : decode cX3_noteStalled 33 = .ok (.getfield 46, 3) := by decide +kernel
theorem dX3_noteStalled_36 : decode cX3_noteStalled 36 = .ok (.iconst 1, 1) := by decide +kernel
theorem dX3_noteStalled_37 : decode cX3_noteStalled 37 = .ok (.iadd, 1) := by decide +kernel
theorem dX3_noteStalled_38 : decode cX3_noteStalled 38 = .ok (.putfield 46, 3) := by decide +kernel
theorem dX3_noteStalled_41 : decode cX3_noteStalled 41 = .ok (.return_, 1) := by decide +kernel
theorem dX3_noteStalled_42 : decode cX3_noteStalled 42 = .ok (.iinc 3 1, 3) := by decide +kernel
theorem dX3_noteStalled_45 : decode cX3_noteStalled 45 = .ok (.goto (-35), 3) := by decide +kernel
theorem dX3_noteStalled_48 : decode cX3_noteStalled 48 = .ok (.return_, 1) := by decide +kernel
theorem dX3_property_0 : decode cX3_property 0 = .ok (.iload_n 1, 1) := by decide +kernel
theorem dX3_property_1 : decode cX3_property 1 = .ok (.tableswitch 128 0 12 #[67, 72, 78, 83, 88, 93, 98, 128, 103, 108, 113, 118, 123], 67) := by decide +kernel
theorem dX3_property_68 : decode cX3_property 68 = .ok (.aload_n 0, 1) := by decide +kernel
theorem dX3_property_69 : decode cX3_property 69 = .ok (.getfield 34, 3) := by decide +kernel
theorem dX3_property_72 : decode cX3_property 72 = .ok (.ireturn, 1) := by decide +kernel
theorem dX3_property_73 : decode cX3_property 73 = .ok (.aload_n 0, 1) := by decide +kernel
theorem dX3_property_74 : decode cX3_property 74 = .ok (.getfield 66, 3) := by decide +kernel
theorem dX3_property_77 : decode cX3_property 77 = .ok (.arraylength, 1) := by decide +kernel
theorem dX3_property_78 : decode cX3_property 78 = .ok (.ireturn, 1) := by decide +kernel
theorem dX3_property_79 : decode cX3_property 79 = .ok (.aload_n 0, 1) := by decide +kernel
theorem dX3_property_80 : decode cX3_property 80 = .ok (.getfield 58, 3) := by decide +kernel
theorem dX3_property_83 : decode cX3_property 83 = .ok (.ireturn, 1) := by decide +kernel
theorem dX3_property_84 : decode cX3_property 84 = .ok (.aload_n 0, 1) := by decide +kernel
theorem dX3_property_85 : decode cX3_property 85 = .ok (.getfield 61, 3) := by decide +kernel
theorem dX3_property_88 : decode cX3_property 88 = .ok (.ireturn, 1) := by decide +kernel
theorem dX3_property_89 : decode cX3_property 89 = .ok (.aload_n 0, 1) := by decide +kernel
theorem dX3_property_90 : decode cX3_property 90 = .ok (.getfield 37, 3) := by decide +kernel
theorem dX3_property_93 : decode cX3_property 93 = .ok (.ireturn, 1) := by decide +kernel
theorem dX3_property_94 : decode cX3_property 94 = .ok (.aload_n 0, 1) := by decide +kernel
theorem dX3_property_95 : decode cX3_property 95 = .ok (.getfield 27, 3) := by decide +kernel
theorem dX3_property_98 : decode cX3_property 98 = .ok (.ireturn, 1) := by decide +kernel
theorem dX3_property_99 : decode cX3_property 99 = .ok (.aload_n 0, 1) := by decide +kernel
theorem dX3_property_100 : decode cX3_property 100 = .ok (.getfield 31, 3) := by decide +kernel
theorem dX3_property_103 : decode cX3_property 103 = .ok (.ireturn, 1) := by decide +kernel
theorem dX3_property_104 : decode cX3_property 104 = .ok (.aload_n 0, 1) := by decide +kernel
theorem dX3_property_105 : decode cX3_property 105 = .ok (.getfield 40, 3) := by decide +kernel
theorem dX3_property_108 : decode cX3_property 108 = .ok (.ireturn, 1) := by decide +kernel
theorem dX3_property_109 : decode cX3_property 109 = .ok (.aload_n 0, 1) := by decide +kernel
theorem dX3_property_110 : decode cX3_property 110 = .ok (.getfield 43, 3) := by decide +kernel
theorem dX3_property_113 : decode cX3_property 113 = .ok (.ireturn, 1) := by decide +kernel
theorem dX3_property_114 : decode cX3_property 114 = .ok (.aload_n 0, 1) := by decide +kernel
theorem dX3_property_115 : decode cX3_property 115 = .ok (.getfield 46, 3) := by decide +kernel
theorem dX3_property_118 : decode cX3_property 118 = .ok (.ireturn, 1) := by decide +kernel
theorem dX3_property_119 : decode cX3_property 119 = .ok (.aload_n 0, 1) := by decide +kernel
theorem dX3_property_120 : decode cX3_property 120 = .ok (.getfield 49, 3) := by decide +kernel
theorem dX3_property_123 : decode cX3_property 123 = .ok (.ireturn, 1) := by decide +kernel
theorem dX3_property_124 : decode cX3_property 124 = .ok (.aload_n 0, 1) := by decide +kernel
theorem dX3_property_125 : decode cX3_property 125 = .ok (.getfield 52, 3) := by decide +kernel
theorem dX3_property_128 : decode cX3_property 128 = .ok (.ireturn, 1) := by decide +kernel
theorem dX3_property_129 : decode cX3_property 129 = .ok (.iconst (-1), 1) := by decide +kernel
theorem dX3_property_130 : decode cX3_property 130 = .ok (.ireturn, 1) := by decide +kernel
theorem dX4_init_0 : decode cX4_init 0 = .ok (.aload_n 0, 1) := by decide +kernel
theorem dX4_init_1 : decode cX4_init 1 = .ok (.invokespecial 3, 3) := by decide +kernel
theorem dX4_init_4 : decode cX4_init 4 = .ok (.aload_n 0, 1) := by decide +kernel
theorem dX4_init_5 : decode cX4_init 5 = .ok (.iconst (-1), 1) := by decide +kernel
theorem dX4_init_6 : decode cX4_init 6 = .ok (.putfield 9, 3) := by decide +kernel
theorem dX4_init_9 : decode cX4_init 9 = .ok (.aload_n 0, 1) := by decide +kernel
theorem dX4_init_10 : decode cX4_init 10 = .ok (.iconst (-1), 1) := by decide +kernel
theorem dX4_init_11 : decode cX4_init 11 = .ok (.putfield 15, 3) := by decide +kernel
theorem dX4_init_14 : decode cX4_init 14 = .ok (.aload_n 0, 1) := by decide +kernel
theorem dX4_init_15 : decode cX4_init 15 = .ok (.iconst 0, 1) := by decide +kernel
theorem dX4_init_16 : decode cX4_init 16 = .ok (.putfield 18, 3) := by decide +kernel
theorem dX4_init_19 : decode cX4_init 19 = .ok (.aload_n 0, 1) := by decide +kernel
theorem dX4_init_20 : decode cX4_init 20 = .ok (.iconst 0, 1) := by decide +kernel
theorem dX4_init_21 : decode cX4_init 21 = .ok (.putfield 21, 3) := by decide +kernel
theorem dX4_init_24 : decode cX4_init 24 = .ok (.aload_n 0, 1) := by decide +kernel
theorem dX4_init_25 : decode cX4_init 25 = .ok (.iload_n 1, 1) := by decide +kernel
theorem dX4_init_26 : decode cX4_init 26 = .ok (.putfield 25, 3) := by decide +kernel
theorem dX4_init_29 : decode cX4_init 29 = .ok (.aload_n 0, 1) := by decide +kernel
theorem dX4_init_30 : decode cX4_init 30 = .ok (.aload_n 2, 1) := by decide +kernel
theorem dX4_init_31 : decode cX4_init 31 = .ok (.putfield 28, 3) := by decide +kernel
theorem dX4_init_34 : decode cX4_init 34 = .ok (.aload_n 0, 1) := by decide +kernel
theorem dX4_init_35 : decode cX4_init 35 = .ok (.aload_n 3, 1) := by decide +kernel
theorem dX4_init_36 : decode cX4_init 36 = .ok (.putfield 32, 3) := by decide +kernel
theorem dX4_init_39 : decode cX4_init 39 = .ok (.aload_n 0, 1) := by decide +kernel
theorem dX4_init_40 : decode cX4_init 40 = .ok (.iload 4, 2) := by decide +kernel
theorem dX4_init_42 : decode cX4_init 42 = .ok (.putfield 36, 3) := by decide +kernel
theorem dX4_init_45 : decode cX4_init 45 = .ok (.aload_n 0, 1) := by decide +kernel
theorem dX4_init_46 : decode cX4_init 46 = .ok (.aload_n 3, 1) := by decide +kernel
theorem dX4_init_47 : decode cX4_init 47 = .ok (.arraylength, 1) := by decide +kernel
theorem dX4_init_48 : decode cX4_init 48 = .ok (.ifCond .ne 7, 3) := by decide +kernel
theorem dX4_init_51 : decode cX4_init 51 = .ok (.iconst 1, 1) := by decide +kernel
theorem dX4_init_52 : decode cX4_init 52 = .ok (.goto 11, 3) := by decide +kernel
theorem dX4_init_55 : decode cX4_init 55 = .ok (.aload_n 3, 1) := by decide +kernel
theorem dX4_init_56 : decode cX4_init 56 = .ok (.arraylength, 1) := by decide +kernel
theorem dX4_init_57 : decode cX4_init 57 = .ok (.iconst 4, 1) := by decide +kernel
theorem dX4_init_58 : decode cX4_init 58 = .ok (.iadd, 1) := by decide +kernel
theorem dX4_init_59 : decode cX4_init 59 = .ok (.iconst 1, 1) := by decide +kernel
theorem dX4_init_60 : decode cX4_init 60 = .ok (.isub, 1) := by decide +kernel
theorem dX4_init_61 : decode cX4_init 61 = .ok (.iconst 4, 1) := by decide +kernel
theorem dX4_init_62 : decode cX4_init 62 = .ok (.idiv, 1) := by decide +kernel
theorem dX4_init_63 : decode cX4_init 63 = .ok (.putfield 39, 3) := by decide +kernel
theorem dX4_init_66 : decode cX4_init 66 = .ok (.return_, 1) := by decide +kernel
theorem dX4_canBeTaken_0 : decode cX4_canBeTaken 0 = .ok (.aload_n 0, 1) := by decide +kernel
theorem dX4_canBeTaken_1 : decode cX4_canBeTaken 1 = .ok (.getfield 15, 3) := by decide +kernel
theorem dX4_canBeTaken_4 : decode cX4_canBeTaken 4 = .ok (.iconst (-1), 1) := by decide +kernel
theorem dX4_canBeTaken_5 : decode cX4_canBeTaken 5 = .ok (.if_icmp .eq 14, 3) := by decide +kernel
theorem dX4_canBeTaken_8 : decode cX4_canBeTaken 8 = .ok (.aload_n 0, 1) := by decide +kernel
theorem dX4_canBeTaken_9 : decode cX4_canBeTaken 9 = .ok (.getfield 21, 3) := by decide +kernel
theorem dX4_canBeTaken_12 : decode cX4_canBeTaken 12 = .ok (.ifCond .ne 7, 3) := by decide +kernel
theorem dX4_canBeTaken_15 : decode cX4_canBeTaken 15 = .ok (.iconst 1, 1) := by decide +kernel
theorem dX4_canBeTaken_16 : decode cX4_canBeTaken 16 = .ok (.goto 4, 3) := by decide +kernel
theorem dX4_canBeTaken_19 : decode cX4_canBeTaken 19 = .ok (.iconst 0, 1) := by decide +kernel
theorem dX4_canBeTaken_20 : decode cX4_canBeTaken 20 = .ok (.ireturn, 1) := by decide +kernel
theorem dX4_property_0 : decode cX4_property 0 = .ok (.iload_n 1, 1) := by decide +kernel
theorem dX4_property_1 : decode cX4_property 1 = .ok (.tableswitch 99 0 7 #[47, 55, 61, 66, 71, 76, 81, 86], 47) := by decide +kernel
theorem dX4_property_48 : decode cX4_property 48 = .ok (.aload_n 0, 1) := by decide +kernel
theorem dX4_property_49 : decode cX4_property 49 = .ok (.getfield 28, 3) := by decide +kernel
theorem dX4_property_52 : decode cX4_property 52 = .ok (.getfield 42, 3) := by decide +kernel
theorem dX4_property_55 : decode cX4_property 55 = .ok (.ireturn, 1) := by decide +kernel
theorem dX4_property_56 : decode cX4_property 56 = .ok (.aload_n 0, 1) := by decide +kernel
theorem dX4_property_57 : decode cX4_property 57 = .ok (.getfield 32, 3) := by decide +kernel
theorem dX4_property_60 : decode cX4_property 60 = .ok (.arraylength, 1) := by decide +kernel
theorem dX4_property_61 : decode cX4_property 61 = .ok (.ireturn, 1) := by decide +kernel
theorem dX4_property_62 : decode cX4_property 62 = .ok (.aload_n 0, 1) := by decide +kernel
theorem dX4_property_63 : decode cX4_property 63 = .ok (.getfield 39, 3) := by decide +kernel
theorem dX4_property_66 : decode cX4_property 66 = .ok (.ireturn, 1) := by decide +kernel
theorem dX4_property_67 : decode cX4_property 67 = .ok (.aload_n 0, 1) := by decide +kernel
theorem dX4_property_68 : decode cX4_property 68 = .ok (.getfield 36, 3) := by decide +kernel
theorem dX4_property_71 : decode cX4_property 71 = .ok (.ireturn, 1) := by decide +kernel
theorem dX4_property_72 : decode cX4_property 72 = .ok (.aload_n 0, 1) := by decide +kernel
theorem dX4_property_73 : decode cX4_property 73 = .ok (.getfield 9, 3) := by decide +kernel
theorem dX4_property_76 : decode cX4_property 76 = .ok (.ireturn, 1) := by decide +kernel
theorem dX4_property_77 : decode cX4_property 77 = .ok (.aload_n 0, 1) := by decide +kernel
theorem dX4_property_78 : decode cX4_property 78 = .ok (.getfield 15, 3) := by decide +kernel
theorem dX4_property_81 : decode cX4_property 81 = .ok (.ireturn, 1) := by decide +kernel
theorem dX4_property_82 : decode cX4_property 82 = .ok (.aload_n 0, 1) := by decide +kernel
theorem dX4_property_83 : decode cX4_property 83 = .ok (.getfield 18, 3) := by decide +kernel
theorem dX4_property_86 : decode cX4_property 86 = .ok (.ireturn, 1) := by decide +kernel
theorem dX4_property_87 : decode cX4_property 87 = .ok (.aload_n 0, 1) := by decide +kernel
theorem dX4_property_88 : decode cX4_property 88 = .ok (.getfield 21, 3) := by decide +kernel
theorem dX4_property_91 : decode cX4_property 91 = .ok (.ifCond .eq 7, 3) := by decide +kernel
theorem dX4_property_94 : decode cX4_property 94 = .ok (.iconst 1, 1) := by decide +kernel
theorem dX4_property_95 : decode cX4_property 95 = .ok (.goto 4, 3) := by decide +kernel
theorem dX4_property_98 : decode cX4_property 98 = .ok (.iconst 0, 1) := by decide +kernel
theorem dX4_property_99 : decode cX4_property 99 = .ok (.ireturn, 1) := by decide +kernel
theorem dX4_property_100 : decode cX4_property 100 = .ok (.iconst (-1), 1) := by decide +kernel
theorem dX4_property_101 : decode cX4_property 101 = .ok (.ireturn, 1) := by decide +kernel
theorem dX5_init_0 : decode cX5_init 0 = .ok (.aload_n 0, 1) := by decide +kernel
theorem dX5_init_1 : decode cX5_init 1 = .ok (.invokespecial 3, 3) := by decide +kernel
theorem dX5_init_4 : decode cX5_init 4 = .ok (.aload_n 0, 1) := by decide +kernel
theorem dX5_init_5 : decode cX5_init 5 = .ok (.bipush 60, 2) := by decide +kernel
theorem dX5_init_7 : decode cX5_init 7 = .ok (.newarray .byte, 2) := by decide +kernel
theorem dX5_init_9 : decode cX5_init 9 = .ok (.putfield 9, 3) := by decide +kernel
theorem dX5_init_12 : decode cX5_init 12 = .ok (.aload_n 0, 1) := by decide +kernel
theorem dX5_init_13 : decode cX5_init 13 = .ok (.iconst 0, 1) := by decide +kernel
theorem dX5_init_14 : decode cX5_init 14 = .ok (.putfield 13, 3) := by decide +kernel
theorem dX5_init_17 : decode cX5_init 17 = .ok (.aload_n 0, 1) := by decide +kernel
theorem dX5_init_18 : decode cX5_init 18 = .ok (.iconst 0, 1) := by decide +kernel
theorem dX5_init_19 : decode cX5_init 19 = .ok (.newarray .byte, 2) := by decide +kernel
theorem dX5_init_21 : decode cX5_init 21 = .ok (.putfield 17, 3) := by decide +kernel
theorem dX5_init_24 : decode cX5_init 24 = .ok (.aload_n 0, 1) := by decide +kernel
theorem dX5_init_25 : decode cX5_init 25 = .ok (.new 20, 3) := by decide +kernel
theorem dX5_init_28 : decode cX5_init 28 = .ok (.dup, 1) := by decide +kernel
theorem dX5_init_29 : decode cX5_init 29 = .ok (.iconst 4, 1) := by decide +kernel
theorem dX5_init_30 : decode cX5_init 30 = .ok (.iconst 3, 1) := by decide +kernel
theorem dX5_init_31 : decode cX5_init 31 = .ok (.iconst 2, 1) := by decide +kernel
theorem dX5_init_32 : decode cX5_init 32 = .ok (.iconst 4, 1) := by decide +kernel
theorem dX5_init_33 : decode cX5_init 33 = .ok (.invokespecial 22, 3) := by decide +kernel
theorem dX5_init_36 : decode cX5_init 36 = .ok (.putfield 25, 3) := by decide +kernel
theorem dX5_init_39 : decode cX5_init 39 = .ok (.return_, 1) := by decide +kernel
theorem dX5_link_0 : decode cX5_link 0 = .ok (.iload_n 1, 1) := by decide +kernel
theorem dX5_link_1 : decode cX5_link 1 = .ok (.bipush 8, 2) := by decide +kernel
theorem dX5_link_3 : decode cX5_link 3 = .ok (.invokestatic 29, 3) := by decide +kernel
theorem dX5_link_6 : decode cX5_link 6 = .ok (.ifCond .ne 13, 3) := by decide +kernel
theorem dX5_link_9 : decode cX5_link 9 = .ok (.new 33, 3) := by decide +kernel
theorem dX5_link_12 : decode cX5_link 12 = .ok (.dup, 1) := by decide +kernel
theorem dX5_link_13 : decode cX5_link 13 = .ok (.ldc 35, 2) := by decide +kernel
theorem dX5_link_15 : decode cX5_link 15 = .ok (.invokespecial 37, 3) := by decide +kernel
theorem dX5_link_18 : decode cX5_link 18 = .ok (.athrow, 1) := by decide +kernel
theorem dX5_link_19 : decode cX5_link 19 = .ok (.iload_n 2, 1) := by decide +kernel
theorem dX5_link_20 : decode cX5_link 20 = .ok (.bipush 16, 2) := by decide +kernel
theorem dX5_link_22 : decode cX5_link 22 = .ok (.invokestatic 29, 3) := by decide +kernel
theorem dX5_link_25 : decode cX5_link 25 = .ok (.ifCond .eq 12, 3) := by decide +kernel
theorem dX5_link_28 : decode cX5_link 28 = .ok (.iload_n 3, 1) := by decide +kernel
theorem dX5_link_29 : decode cX5_link 29 = .ok (.bipush 16, 2) := by decide +kernel
theorem dX5_link_31 : decode cX5_link 31 = .ok (.invokestatic 29, 3) := by decide +kernel
theorem dX5_link_34 : decode cX5_link 34 = .ok (.ifCond .ne 13, 3) := by decide +kernel
theorem dX5_link_37 : decode cX5_link 37 = .ok (.new 33, 3) := by decide +kernel
theorem dX5_link_40 : decode cX5_link 40 = .ok (.dup, 1) := by decide +kernel
theorem dX5_link_41 : decode cX5_link 41 = .ok (.ldc 40, 2) := by decide +kernel
theorem dX5_link_43 : decode cX5_link 43 = .ok (.invokespecial 37, 3) := by decide +kernel
theorem dX5_link_46 : decode cX5_link 46 = .ok (.athrow, 1) := by decide +kernel
theorem dX5_link_47 : decode cX5_link 47 = .ok (.iload 4, 2) := by decide +kernel
theorem dX5_link_49 : decode cX5_link 49 = .ok (.bipush 16, 2) := by decide +kernel
theorem dX5_link_51 : decode cX5_link 51 = .ok (.invokestatic 29, 3) := by decide +kernel
theorem dX5_link_54 : decode cX5_link 54 = .ok (.ifCond .ne 13, 3) := by decide +kernel
theorem dX5_link_57 : decode cX5_link 57 = .ok (.new 33, 3) := by decide +kernel
theorem dX5_link_60 : decode cX5_link 60 = .ok (.dup, 1) := by decide +kernel
theorem dX5_link_61 : decode cX5_link 61 = .ok (.ldc 42, 2) := by decide +kernel
theorem dX5_link_63 : decode cX5_link 63 = .ok (.invokespecial 37, 3) := by decide +kernel
theorem dX5_link_66 : decode cX5_link 66 = .ok (.athrow, 1) := by decide +kernel
theorem dX5_link_67 : decode cX5_link 67 = .ok (.aload_n 0, 1) := by decide +kernel
theorem dX5_link_68 : decode cX5_link 68 = .ok (.new 20, 3) := by decide +kernel
theorem dX5_link_71 : decode cX5_link 71 = .ok (.dup, 1) := by decide +kernel
theorem dX5_link_72 : decode cX5_link 72 = .ok (.iload_n 1, 1) := by decide +kernel
theorem dX5_link_73 : decode cX5_link 73 = .ok (.iload_n 2, 1) := by decide +kernel
theorem dX5_link_74 : decode cX5_link 74 = .ok (.iload_n 3, 1) := by decide +kernel
theorem dX5_link_75 : decode cX5_link 75 = .ok (.iload 4, 2) := by decide +kernel
theorem dX5_link_77 : decode cX5_link 77 = .ok (.invokespecial 22, 3) := by decide +kernel
theorem dX5_link_80 : decode cX5_link 80 = .ok (.putfield 25, 3) := by decide +kernel
theorem dX5_link_83 : decode cX5_link 83 = .ok (.return_, 1) := by decide +kernel
theorem dX5_depth_0 : decode cX5_depth 0 = .ok (.aload_n 0, 1) := by decide +kernel
theorem dX5_depth_1 : decode cX5_depth 1 = .ok (.getfield 25, 3) := by decide +kernel
theorem dX5_depth_4 : decode cX5_depth 4 = .ok (.iload_n 1, 1) := by decide +kernel
theorem dX5_depth_5 : decode cX5_depth 5 = .ok (.invokevirtual 44, 3) := by decide +kernel
theorem dX5_depth_8 : decode cX5_depth 8 = .ok (.astore_n 3, 1) := by decide +kernel
theorem dX5_depth_9 : decode cX5_depth 9 = .ok (.aload_n 3, 1) := by decide +kernel
theorem dX5_depth_10 : decode cX5_depth 10 = .ok (.ifnull 12, 3) := by decide +kernel
theorem dX5_depth_13 : decode cX5_depth 13 = .ok (.iload_n 2, 1) := by decide +kernel
theorem dX5_depth_14 : decode cX5_depth 14 = .ok (.bipush 16, 2) := by decide +kernel
theorem dX5_depth_16 : decode cX5_depth 16 = .ok (.invokestatic 29, 3) := by decide +kernel
theorem dX5_depth_19 : decode cX5_depth 19 = .ok (.ifCond .ne 13, 3) := by decide +kernel
theorem dX5_depth_22 : decode cX5_depth 22 = .ok (.new 33, 3) := by decide +kernel
theorem dX5_depth_25 : decode cX5_depth 25 = .ok (.dup, 1) := by decide +kernel
theorem dX5_depth_26 : decode cX5_depth 26 = .ok (.ldc 48, 2) := by decide +kernel
theorem dX5_depth_28 : decode cX5_depth 28 = .ok (.invokespecial 37, 3) := by decide +kernel
theorem dX5_depth_31 : decode cX5_depth 31 = .ok (.athrow, 1) := by decide +kernel
theorem dX5_depth_32 : decode cX5_depth 32 = .ok (.aload_n 0, 1) := by decide +kernel
theorem dX5_depth_33 : decode cX5_depth 33 = .ok (.getfield 25, 3) := by decide +kernel
theorem dX5_depth_36 : decode cX5_depth 36 = .ok (.getfield 50, 3) := by decide +kernel
theorem dX5_depth_39 : decode cX5_depth 39 = .ok (.ifCond .eq 13, 3) := by decide +kernel
theorem dX5_depth_42 : decode cX5_depth 42 = .ok (.new 53, 3) := by decide +kernel
theorem dX5_depth_45 : decode cX5_depth 45 = .ok (.dup, 1) := by decide +kernel
theorem dX5_depth_46 : decode cX5_depth 46 = .ok (.ldc 55, 2) := by decide +kernel
theorem dX5_depth_48 : decode cX5_depth 48 = .ok (.invokespecial 57, 3) := by decide +kernel
theorem dX5_depth_51 : decode cX5_depth 51 = .ok (.athrow, 1) := by decide +kernel
theorem dX5_depth_52 : decode cX5_depth 52 = .ok (.aload_n 3, 1) := by decide +kernel
theorem dX5_depth_53 : decode cX5_depth 53 = .ok (.getfield 58, 3) := by decide +kernel
theorem dX5_depth_56 : decode cX5_depth 56 = .ok (.istore 4, 2) := by decide +kernel
theorem dX5_depth_58 : decode cX5_depth 58 = .ok (.aload_n 3, 1) := by decide +kernel
theorem dX5_depth_59 : decode cX5_depth 59 = .ok (.iload_n 2, 1) := by decide +kernel
theorem dX5_depth_60 : decode cX5_depth 60 = .ok (.putfield 58, 3) := by decide +kernel
theorem dX5_depth_63 : decode cX5_depth 63 = .ok (.aload_n 3, 1) := by decide +kernel
theorem dX5_depth_64 : decode cX5_depth 64 = .ok (.iload_n 2, 1) := by decide +kernel
theorem dX5_depth_65 : decode cX5_depth 65 = .ok (.putfield 63, 3) := by decide +kernel
theorem dX5_depth_68 : decode cX5_depth 68 = .ok (.iload 4, 2) := by decide +kernel
theorem dX5_depth_70 : decode cX5_depth 70 = .ok (.ireturn, 1) := by decide +kernel
theorem dX5_weight_0 : decode cX5_weight 0 = .ok (.aload_n 0, 1) := by decide +kernel
theorem dX5_weight_1 : decode cX5_weight 1 = .ok (.getfield 25, 3) := by decide +kernel
theorem dX5_weight_4 : decode cX5_weight 4 = .ok (.iload_n 1, 1) := by decide +kernel
theorem dX5_weight_5 : decode cX5_weight 5 = .ok (.invokevirtual 44, 3) := by decide +kernel
theorem dX5_weight_8 : decode cX5_weight 8 = .ok (.astore_n 3, 1) := by decide +kernel
theorem dX5_weight_9 : decode cX5_weight 9 = .ok (.aload_n 3, 1) := by decide +kernel
theorem dX5_weight_10 : decode cX5_weight 10 = .ok (.ifnull 12, 3) := by decide +kernel
theorem dX5_weight_13 : decode cX5_weight 13 = .ok (.iload_n 2, 1) := by decide +kernel
theorem dX5_weight_14 : decode cX5_weight 14 = .ok (.bipush 15, 2) := by decide +kernel
theorem dX5_weight_16 : decode cX5_weight 16 = .ok (.invokestatic 29, 3) := by decide +kernel
theorem dX5_weight_19 : decode cX5_weight 19 = .ok (.ifCond .ne 13, 3) := by decide +kernel
theorem dX5_weight_22 : decode cX5_weight 22 = .ok (.new 33, 3) := by decide +kernel
theorem dX5_weight_25 : decode cX5_weight 25 = .ok (.dup, 1) := by decide +kernel
theorem dX5_weight_26 : decode cX5_weight 26 = .ok (.ldc 66, 2) := by decide +kernel
theorem dX5_weight_28 : decode cX5_weight 28 = .ok (.invokespecial 37, 3) := by decide +kernel
theorem dX5_weight_31 : decode cX5_weight 31 = .ok (.athrow, 1) := by decide +kernel
theorem dX5_weight_32 : decode cX5_weight 32 = .ok (.aload_n 3, 1) := by decide +kernel
theorem dX5_weight_33 : decode cX5_weight 33 = .ok (.getfield 68, 3) := by decide +kernel
theorem dX5_weight_36 : decode cX5_weight 36 = .ok (.istore 4, 2) := by decide +kernel
theorem dX5_weight_38 : decode cX5_weight 38 = .ok (.aload_n 3, 1) := by decide +kernel
theorem dX5_weight_39 : decode cX5_weight 39 = .ok (.iload_n 2, 1) := by decide +kernel
theorem dX5_weight_40 : decode cX5_weight 40 = .ok (.putfield 68, 3) := by decide +kernel
theorem dX5_weight_43 : decode cX5_weight 43 = .ok (.iload 4, 2) := by decide +kernel
theorem dX5_weight_45 : decode cX5_weight 45 = .ok (.ireturn, 1) := by decide +kernel
theorem dX5_arbiter_0 : decode cX5_arbiter 0 = .ok (.iload_n 1, 1) := by decide +kernel
theorem dX5_arbiter_1 : decode cX5_arbiter 1 = .ok (.ifCond .lt 8, 3) := by decide +kernel
theorem dX5_arbiter_4 : decode cX5_arbiter 4 = .ok (.iload_n 1, 1) := by decide +kernel
theorem dX5_arbiter_5 : decode cX5_arbiter 5 = .ok (.iconst 3, 1) := by decide +kernel
theorem dX5_arbiter_6 : decode cX5_arbiter 6 = .ok (.if_icmp .le 13, 3) := by decide +kernel
theorem dX5_arbiter_9 : decode cX5_arbiter 9 = .ok (.new 33, 3) := by decide +kernel
theorem dX5_arbiter_12 : decode cX5_arbiter 12 = .ok (.dup, 1) := by decide +kernel
theorem dX5_arbiter_13 : decode cX5_arbiter 13 = .ok (.ldc 71, 2) := by decide +kernel
theorem dX5_arbiter_15 : decode cX5_arbiter 15 = .ok (.invokespecial 37, 3) := by decide +kernel
theorem dX5_arbiter_18 : decode cX5_arbiter 18 = .ok (.athrow, 1) := by decide +kernel
theorem dX5_arbiter_19 : decode cX5_arbiter 19 = .ok (.aload_n 0, 1) := by decide +kernel
theorem dX5_arbiter_20 : decode cX5_arbiter 20 = .ok (.getfield 25, 3) := by decide +kernel
theorem dX5_arbiter_23 : decode cX5_arbiter 23 = .ok (.getfield 73, 3) := by decide +kernel
theorem dX5_arbiter_26 : decode cX5_arbiter 26 = .ok (.istore_n 2, 1) := by decide +kernel
theorem dX5_arbiter_27 : decode cX5_arbiter 27 = .ok (.aload_n 0, 1) := by decide +kernel
theorem dX5_arbiter_28 : decode cX5_arbiter 28 = .ok (.getfield 25, 3) := by decide +kernel
theorem dX5_arbiter_31 : decode cX5_arbiter 31 = .ok (.iload_n 1, 1) := by decide +kernel
theorem dX5_arbiter_32 : decode cX5_arbiter 32 = .ok (.putfield 73, 3) := by decide +kernel
theorem dX5_arbiter_35 : decode cX5_arbiter 35 = .ok (.iload_n 2, 1) := by decide +kernel
theorem dX5_arbiter_36 : decode cX5_arbiter 36 = .ok (.ireturn, 1) := by decide +kernel
theorem dX5_mask_0 : decode cX5_mask 0 = .ok (.aload_n 0, 1) := by decide +kernel
theorem dX5_mask_1 : decode cX5_mask 1 = .ok (.getfield 25, 3) := by decide +kernel
theorem dX5_mask_4 : decode cX5_mask 4 = .ok (.iload_n 1, 1) := by decide +kernel
theorem dX5_mask_5 : decode cX5_mask 5 = .ok (.invokevirtual 76, 3) := by decide +kernel
theorem dX5_mask_8 : decode cX5_mask 8 = .ok (.ifCond .ne 13, 3) := by decide +kernel
theorem dX5_mask_11 : decode cX5_mask 11 = .ok (.new 80, 3) := by decide +kernel
theorem dX5_mask_14 : decode cX5_mask 14 = .ok (.dup, 1) := by decide +kernel
theorem dX5_mask_15 : decode cX5_mask 15 = .ok (.ldc 82, 2) := by decide +kernel
theorem dX5_mask_17 : decode cX5_mask 17 = .ok (.invokespecial 84, 3) := by decide +kernel
theorem dX5_mask_20 : decode cX5_mask 20 = .ok (.athrow, 1) := by decide +kernel
theorem dX5_mask_21 : decode cX5_mask 21 = .ok (.aload_n 0, 1) := by decide +kernel
theorem dX5_mask_22 : decode cX5_mask 22 = .ok (.getfield 25, 3) := by decide +kernel
theorem dX5_mask_25 : decode cX5_mask 25 = .ok (.getfield 85, 3) := by decide +kernel
theorem dX5_mask_28 : decode cX5_mask 28 = .ok (.ireturn, 1) := by decide +kernel
theorem dX5_free_0 : decode cX5_free 0 = .ok (.aload_n 0, 1) := by decide +kernel
theorem dX5_free_1 : decode cX5_free 1 = .ok (.getfield 25, 3) := by decide +kernel
theorem dX5_free_4 : decode cX5_free 4 = .ok (.getfield 85, 3) := by decide +kernel
theorem dX5_free_7 : decode cX5_free 7 = .ok (.istore_n 1, 1) := by decide +kernel
theorem dX5_free_8 : decode cX5_free 8 = .ok (.aload_n 0, 1) := by decide +kernel
theorem dX5_free_9 : decode cX5_free 9 = .ok (.getfield 25, 3) := by decide +kernel
theorem dX5_free_12 : decode cX5_free 12 = .ok (.iconst 0, 1) := by decide +kernel
theorem dX5_free_13 : decode cX5_free 13 = .ok (.putfield 85, 3) := by decide +kernel
theorem dX5_free_16 : decode cX5_free 16 = .ok (.iload_n 1, 1) := by decide +kernel
theorem dX5_free_17 : decode cX5_free 17 = .ok (.ireturn, 1) := by decide +kernel
theorem dX5_feed_0 : decode cX5_feed 0 = .ok (.iload_n 1, 1) := by decide +kernel
theorem dX5_feed_1 : decode cX5_feed 1 = .ok (.bipush 16, 2) := by decide +kernel
theorem dX5_feed_3 : decode cX5_feed 3 = .ok (.invokestatic 29, 3) := by decide +kernel
theorem dX5_feed_6 : decode cX5_feed 6 = .ok (.ifCond .ne 13, 3) := by decide +kernel
theorem dX5_feed_9 : decode cX5_feed 9 = .ok (.new 33, 3) := by decide +kernel
theorem dX5_feed_12 : decode cX5_feed 12 = .ok (.dup, 1) := by decide +kernel
theorem dX5_feed_13 : decode cX5_feed 13 = .ok (.ldc 88, 2) := by decide +kernel
theorem dX5_feed_15 : decode cX5_feed 15 = .ok (.invokespecial 37, 3) := by decide +kernel
theorem dX5_feed_18 : decode cX5_feed 18 = .ok (.athrow, 1) := by decide +kernel
theorem dX5_feed_19 : decode cX5_feed 19 = .ok (.aload_n 0, 1) := by decide +kernel
theorem dX5_feed_20 : decode cX5_feed 20 = .ok (.getfield 13, 3) := by decide +kernel
theorem dX5_feed_23 : decode cX5_feed 23 = .ok (.iload_n 1, 1) := by decide +kernel
theorem dX5_feed_24 : decode cX5_feed 24 = .ok (.iadd, 1) := by decide +kernel
theorem dX5_feed_25 : decode cX5_feed 25 = .ok (.bipush 60, 2) := by decide +kernel
theorem dX5_feed_27 : decode cX5_feed 27 = .ok (.if_icmp .le 13, 3) := by decide +kernel
theorem dX5_feed_30 : decode cX5_feed 30 = .ok (.new 80, 3) := by decide +kernel
theorem dX5_feed_33 : decode cX5_feed 33 = .ok (.dup, 1) := by decide +kernel
theorem dX5_feed_34 : decode cX5_feed 34 = .ok (.ldc 90, 2) := by decide +kernel
theorem dX5_feed_36 : decode cX5_feed 36 = .ok (.invokespecial 84, 3) := by decide +kernel
theorem dX5_feed_39 : decode cX5_feed 39 = .ok (.athrow, 1) := by decide +kernel
theorem dX5_feed_40 : decode cX5_feed 40 = .ok (.iconst 0, 1) := by decide +kernel
theorem dX5_feed_41 : decode cX5_feed 41 = .ok (.istore 6, 2) := by decide +kernel
theorem dX5_feed_43 : decode cX5_feed 43 = .ok (.iload 6, 2) := by decide +kernel
theorem dX5_feed_45 : decode cX5_feed 45 = .ok (.iload_n 1, 1) := by decide +kernel
theorem dX5_feed_46 : decode cX5_feed 46 = .ok (.if_icmp .ge 41, 3) := by decide +kernel
theorem dX5_feed_49 : decode cX5_feed 49 = .ok (.iload 6, 2) := by decide +kernel
theorem dX5_feed_51 : decode cX5_feed 51 = .ok (.bipush 8, 2) := by decide +kernel
theorem dX5_feed_53 : decode cX5_feed 53 = .ok (.if_icmp .ge 7, 3) := by decide +kernel
theorem dX5_feed_56 : decode cX5_feed 56 = .ok (.lload_n 2, 1) := by decide +kernel
theorem dX5_feed_57 : decode cX5_feed 57 = .ok (.goto 5, 3) := by decide +kernel
theorem dX5_feed_60 : decode cX5_feed 60 = .ok (.lload 4, 2) := by decide +kernel
theorem dX5_feed_62 : decode cX5_feed 62 = .ok (.lstore 7, 2) := by decide +kernel
theorem dX5_feed_64 : decode cX5_feed 64 = .ok (.aload_n 0, 1) := by decide +kernel
theorem dX5_feed_65 : decode cX5_feed 65 = .ok (.lload 7, 2) := by decide +kernel
theorem dX5_feed_67 : decode cX5_feed 67 = .ok (.bipush 8, 2) := by decide +kernel
theorem dX5_feed_69 : decode cX5_feed 69 = .ok (.iload 6, 2) := by decide +kernel
theorem dX5_feed_71 : decode cX5_feed 71 = .ok (.bipush 7, 2) := by decide +kernel
theorem dX5_feed_73 : decode cX5_feed 73 = .ok (.iand, 1) := by decide +kernel
theorem dX5_feed_74 : decode cX5_feed 74 = .ok (.imul, 1) := by decide +kernel
theorem dX5_feed_75 : decode cX5_feed 75 = .ok (.lushr, 1) := by decide +kernel
theorem dX5_feed_76 : decode cX5_feed 76 = .ok (.l2i, 1) := by decide +kernel
theorem dX5_feed_77 : decode cX5_feed 77 = .ok (.i2b, 1) := by decide +kernel
theorem dX5_feed_78 : decode cX5_feed 78 = .ok (.invokevirtual 92, 3) := by decide +kernel
theorem dX5_feed_81 : decode cX5_feed 81 = .ok (.iinc 6 1, 3) := by decide +kernel
theorem dX5_feed_84 : decode cX5_feed 84 = .ok (.goto (-41), 3) := by decide +kernel
theorem dX5_feed_87 : decode cX5_feed 87 = .ok (.aload_n 0, 1) := by decide +kernel
theorem dX5_feed_88 : decode cX5_feed 88 = .ok (.getfield 13, 3) := by decide +kernel
theorem dX5_feed_91 : decode cX5_feed 91 = .ok (.ireturn, 1) := by decide +kernel
theorem dX5_offer_0 : decode cX5_offer 0 = .ok (.aload_n 0, 1) := by decide +kernel
theorem dX5_offer_1 : decode cX5_offer 1 = .ok (.getfield 13, 3) := by decide +kernel
theorem dX5_offer_4 : decode cX5_offer 4 = .ok (.istore_n 2, 1) := by decide +kernel
theorem dX5_offer_5 : decode cX5_offer 5 = .ok (.aload_n 0, 1) := by decide +kernel
theorem dX5_offer_6 : decode cX5_offer 6 = .ok (.iconst 0, 1) := by decide +kernel
theorem dX5_offer_7 : decode cX5_offer 7 = .ok (.putfield 13, 3) := by decide +kernel
theorem dX5_offer_10 : decode cX5_offer 10 = .ok (.aload_n 0, 1) := by decide +kernel
theorem dX5_offer_11 : decode cX5_offer 11 = .ok (.getfield 25, 3) := by decide +kernel
theorem dX5_offer_14 : decode cX5_offer 14 = .ok (.iload_n 1, 1) := by decide +kernel
theorem dX5_offer_15 : decode cX5_offer 15 = .ok (.invokevirtual 44, 3) := by decide +kernel
theorem dX5_offer_18 : decode cX5_offer 18 = .ok (.astore_n 3, 1) := by decide +kernel
theorem dX5_offer_19 : decode cX5_offer 19 = .ok (.aload_n 3, 1) := by decide +kernel
theorem dX5_offer_20 : decode cX5_offer 20 = .ok (.ifnonnull 13, 3) := by decide +kernel
theorem dX5_offer_23 : decode cX5_offer 23 = .ok (.new 33, 3) := by decide +kernel
theorem dX5_offer_26 : decode cX5_offer 26 = .ok (.dup, 1) := by decide +kernel
theorem dX5_offer_27 : decode cX5_offer 27 = .ok (.ldc 96, 2) := by decide +kernel
theorem dX5_offer_29 : decode cX5_offer 29 = .ok (.invokespecial 37, 3) := by decide +kernel
theorem dX5_offer_32 : decode cX5_offer 32 = .ok (.athrow, 1) := by decide +kernel
theorem dX5_offer_33 : decode cX5_offer 33 = .ok (.aload_n 0, 1) := by decide +kernel
theorem dX5_offer_34 : decode cX5_offer 34 = .ok (.getfield 25, 3) := by decide +kernel
theorem dX5_offer_37 : decode cX5_offer 37 = .ok (.getfield 98, 3) := by decide +kernel
theorem dX5_offer_40 : decode cX5_offer 40 = .ok (.sipush 250, 3) := by decide +kernel
theorem dX5_offer_43 : decode cX5_offer 43 = .ok (.if_icmp .lt 13, 3) := by decide +kernel
theorem dX5_offer_46 : decode cX5_offer 46 = .ok (.new 80, 3) := by decide +kernel
theorem dX5_offer_49 : decode cX5_offer 49 = .ok (.dup, 1) := by decide +kernel
theorem dX5_offer_50 : decode cX5_offer 50 = .ok (.ldc 101, 2) := by decide +kernel
theorem dX5_offer_52 : decode cX5_offer 52 = .ok (.invokespecial 84, 3) := by decide +kernel
theorem dX5_offer_55 : decode cX5_offer 55 = .ok (.athrow, 1) := by decide +kernel
theorem dX5_offer_56 : decode cX5_offer 56 = .ok (.aload_n 0, 1) := by decide +kernel
theorem dX5_offer_57 : decode cX5_offer 57 = .ok (.getfield 25, 3) := by decide +kernel
theorem dX5_offer_60 : decode cX5_offer 60 = .ok (.aload_n 3, 1) := by decide +kernel
theorem dX5_offer_61 : decode cX5_offer 61 = .ok (.aload_n 0, 1) := by decide +kernel
theorem dX5_offer_62 : decode cX5_offer 62 = .ok (.getfield 9, 3) := by decide +kernel
theorem dX5_offer_65 : decode cX5_offer 65 = .ok (.iload_n 2, 1) := by decide +kernel
theorem dX5_offer_66 : decode cX5_offer 66 = .ok (.invokestatic 103, 3) := by decide +kernel
theorem dX5_offer_69 : decode cX5_offer 69 = .ok (.invokevirtual 109, 3) := by decide +kernel
theorem dX5_offer_72 : decode cX5_offer 72 = .ok (.ireturn, 1) := by decide +kernel
theorem dX5_run_0 : decode cX5_run 0 = .ok (.iload_n 1, 1) := by decide +kernel
theorem dX5_run_1 : decode cX5_run 1 = .ok (.sipush 5000, 3) := by decide +kernel
theorem dX5_run_4 : decode cX5_run 4 = .ok (.invokestatic 29, 3) := by decide +kernel
theorem dX5_run_7 : decode cX5_run 7 = .ok (.ifCond .ne 13, 3) := by decide +kernel
theorem dX5_run_10 : decode cX5_run 10 = .ok (.new 33, 3) := by decide +kernel
theorem dX5_run_13 : decode cX5_run 13 = .ok (.dup, 1) := by decide +kernel
theorem dX5_run_14 : decode cX5_run 14 = .ok (.ldc 113, 2) := by decide +kernel
theorem dX5_run_16 : decode cX5_run 16 = .ok (.invokespecial 37, 3) := by decide +kernel
theorem dX5_run_19 : decode cX5_run 19 = .ok (.athrow, 1) := by decide +kernel
theorem dX5_run_20 : decode cX5_run 20 = .ok (.iconst 0, 1) := by decide +kernel
theorem dX5_run_21 : decode cX5_run 21 = .ok (.istore_n 2, 1) := by decide +kernel
theorem dX5_run_22 : decode cX5_run 22 = .ok (.iconst 0, 1) := by decide +kernel
theorem dX5_run_23 : decode cX5_run 23 = .ok (.istore_n 3, 1) := by decide +kernel
theorem dX5_run_24 : decode cX5_run 24 = .ok (.iload_n 3, 1) := by decide +kernel
theorem dX5_run_25 : decode cX5_run 25 = .ok (.iload_n 1, 1) := by decide +kernel
theorem dX5_run_26 : decode cX5_run 26 = .ok (.if_icmp .ge 19, 3) := by decide +kernel
theorem dX5_run_29 : decode cX5_run 29 = .ok (.iload_n 2, 1) := by decide +kernel
theorem dX5_run_30 : decode cX5_run 30 = .ok (.aload_n 0, 1) := by decide +kernel
theorem dX5_run_31 : decode cX5_run 31 = .ok (.getfield 25, 3) := by decide +kernel
theorem dX5_run_34 : decode cX5_run 34 = .ok (.invokevirtual 115, 3) := by decide +kernel
theorem dX5_run_37 : decode cX5_run 37 = .ok (.iadd, 1) := by decide +kernel
theorem dX5_run_38 : decode cX5_run 38 = .ok (.istore_n 2, 1) := by decide +kernel
theorem dX5_run_39 : decode cX5_run 39 = .ok (.iinc 3 1, 3) := by decide +kernel
theorem dX5_run_42 : decode cX5_run 42 = .ok (.goto (-18), 3) := by decide +kernel
theorem dX5_run_45 : decode cX5_run 45 = .ok (.iload_n 2, 1) := by decide +kernel
theorem dX5_run_46 : decode cX5_run 46 = .ok (.ireturn, 1) := by decide +kernel
theorem dX5_take_0 : decode cX5_take 0 = .ok (.aload_n 0, 1) := by decide +kernel
theorem dX5_take_1 : decode cX5_take 1 = .ok (.getfield 25, 3) := by decide +kernel
theorem dX5_take_4 : decode cX5_take 4 = .ok (.iload_n 1, 1) := by decide +kernel
theorem dX5_take_5 : decode cX5_take 5 = .ok (.invokevirtual 44, 3) := by decide +kernel
theorem dX5_take_8 : decode cX5_take 8 = .ok (.astore_n 2, 1) := by decide +kernel
theorem dX5_take_9 : decode cX5_take 9 = .ok (.aload_n 2, 1) := by decide +kernel
theorem dX5_take_10 : decode cX5_take 10 = .ok (.ifnonnull 13, 3) := by decide +kernel
theorem dX5_take_13 : decode cX5_take 13 = .ok (.new 33, 3) := by decide +kernel
theorem dX5_take_16 : decode cX5_take 16 = .ok (.dup, 1) := by decide +kernel
theorem dX5_take_17 : decode cX5_take 17 = .ok (.ldc 96, 2) := by decide +kernel
theorem dX5_take_19 : decode cX5_take 19 = .ok (.invokespecial 37, 3) := by decide +kernel
theorem dX5_take_22 : decode cX5_take 22 = .ok (.athrow, 1) := by decide +kernel
theorem dX5_take_23 : decode cX5_take 23 = .ok (.aload_n 0, 1) := by decide +kernel
theorem dX5_take_24 : decode cX5_take 24 = .ok (.getfield 25, 3) := by decide +kernel
theorem dX5_take_27 : decode cX5_take 27 = .ok (.aload_n 2, 1) := by decide +kernel
theorem dX5_take_28 : decode cX5_take 28 = .ok (.invokevirtual 119, 3) := by decide +kernel
theorem dX5_take_31 : decode cX5_take 31 = .ok (.astore_n 3, 1) := by decide +kernel
theorem dX5_take_32 : decode cX5_take 32 = .ok (.aload_n 3, 1) := by decide +kernel
theorem dX5_take_33 : decode cX5_take 33 = .ok (.ifnonnull 5, 3) := by decide +kernel
theorem dX5_take_36 : decode cX5_take 36 = .ok (.iconst (-1), 1) := by decide +kernel
theorem dX5_take_37 : decode cX5_take 37 = .ok (.ireturn, 1) := by decide +kernel
theorem dX5_take_38 : decode cX5_take 38 = .ok (.aload_n 3, 1) := by decide +kernel
theorem dX5_take_39 : decode cX5_take 39 = .ok (.iconst 1, 1) := by decide +kernel
theorem dX5_take_40 : decode cX5_take 40 = .ok (.putfield 123, 3) := by decide +kernel
theorem dX5_take_43 : decode cX5_take 43 = .ok (.aload_n 2, 1) := by decide +kernel
theorem dX5_take_44 : decode cX5_take 44 = .ok (.dup, 1) := by decide +kernel
theorem dX5_take_45 : decode cX5_take 45 = .ok (.getfield 129, 3) := by decide +kernel
theorem dX5_take_48 : decode cX5_take 48 = .ok (.iconst 1, 1) := by decide +kernel
theorem dX5_take_49 : decode cX5_take 49 = .ok (.iadd, 1) := by decide +kernel
theorem dX5_take_50 : decode cX5_take 50 = .ok (.putfield 129, 3) := by decide +kernel
theorem dX5_take_53 : decode cX5_take 53 = .ok (.aload_n 0, 1) := by decide +kernel
theorem dX5_take_54 : decode cX5_take 54 = .ok (.aload_n 3, 1) := by decide +kernel
theorem dX5_take_55 : decode cX5_take 55 = .ok (.getfield 132, 3) := by decide +kernel
theorem dX5_take_58 : decode cX5_take 58 = .ok (.putfield 17, 3) := by decide +kernel
theorem dX5_take_61 : decode cX5_take 61 = .ok (.aload_n 3, 1) := by decide +kernel
theorem dX5_take_62 : decode cX5_take 62 = .ok (.getfield 135, 3) := by decide +kernel
theorem dX5_take_65 : decode cX5_take 65 = .ok (.ireturn, 1) := by decide +kernel
theorem dX5_answer_0 : decode cX5_answer 0 = .ok (.iload_n 1, 1) := by decide +kernel
theorem dX5_answer_1 : decode cX5_answer 1 = .ok (.ifCond .lt 25, 3) := by decide +kernel
theorem dX5_answer_4 : decode cX5_answer 4 = .ok (.iload_n 1, 1) := by decide +kernel
theorem dX5_answer_5 : decode cX5_answer 5 = .ok (.aload_n 0, 1) := by decide +kernel
theorem dX5_answer_6 : decode cX5_answer 6 = .ok (.getfield 17, 3) := by decide +kernel
theorem dX5_answer_9 : decode cX5_answer 9 = .ok (.arraylength, 1) := by decide +kernel
theorem dX5_answer_10 : decode cX5_answer 10 = .ok (.if_icmp .ge 16, 3) := by decide +kernel
theorem dX5_answer_13 : decode cX5_answer 13 = .ok (.aload_n 0, 1) := by decide +kernel
theorem dX5_answer_14 : decode cX5_answer 14 = .ok (.getfield 17, 3) := by decide +kernel
theorem dX5_answer_17 : decode cX5_answer 17 = .ok (.iload_n 1, 1) := by decide +kernel
theorem dX5_answer_18 : decode cX5_answer 18 = .ok (.baload, 1) := by decide +kernel
theorem dX5_answer_19 : decode cX5_answer 19 = .ok (.sipush 255, 3) := by decide +kernel
theorem dX5_answer_22 : decode cX5_answer 22 = .ok (.iand, 1) := by decide +kernel
theorem dX5_answer_23 : decode cX5_answer 23 = .ok (.goto 4, 3) := by decide +kernel
theorem dX5_answer_26 : decode cX5_answer 26 = .ok (.iconst (-1), 1) := by decide +kernel
theorem dX5_answer_27 : decode cX5_answer 27 = .ok (.ireturn, 1) := by decide +kernel
theorem dX5_look_0 : decode cX5_look 0 = .ok (.aload_n 0, 1) := by decide +kernel
theorem dX5_look_1 : decode cX5_look 1 = .ok (.getfield 25, 3) := by decide +kernel
theorem dX5_look_4 : decode cX5_look 4 = .ok (.iload_n 1, 1) := by decide +kernel
theorem dX5_look_5 : decode cX5_look 5 = .ok (.invokevirtual 44, 3) := by decide +kernel
theorem dX5_look_8 : decode cX5_look 8 = .ok (.astore_n 3, 1) := by decide +kernel
theorem dX5_look_9 : decode cX5_look 9 = .ok (.aload_n 3, 1) := by decide +kernel
theorem dX5_look_10 : decode cX5_look 10 = .ok (.ifnonnull 7, 3) := by decide +kernel
theorem dX5_look_13 : decode cX5_look 13 = .ok (.iconst (-1), 1) := by decide +kernel
theorem dX5_look_14 : decode cX5_look 14 = .ok (.goto 8, 3) := by decide +kernel
theorem dX5_look_17 : decode cX5_look 17 = .ok (.aload_n 3, 1) := by decide +kernel
theorem dX5_look_18 : decode cX5_look 18 = .ok (.iload_n 2, 1) := by decide +kernel
theorem dX5_look_19 : decode cX5_look 19 = .ok (.invokevirtual 138, 3) := by decide +kernel
theorem dX5_look_22 : decode cX5_look 22 = .ok (.ireturn, 1) := by decide +kernel
theorem dX5_packet_0 : decode cX5_packet 0 = .ok (.aload_n 0, 1) := by decide +kernel
theorem dX5_packet_1 : decode cX5_packet 1 = .ok (.getfield 25, 3) := by decide +kernel
theorem dX5_packet_4 : decode cX5_packet 4 = .ok (.iload_n 1, 1) := by decide +kernel
theorem dX5_packet_5 : decode cX5_packet 5 = .ok (.invokevirtual 142, 3) := by decide +kernel
theorem dX5_packet_8 : decode cX5_packet 8 = .ok (.astore_n 3, 1) := by decide +kernel
theorem dX5_packet_9 : decode cX5_packet 9 = .ok (.aload_n 3, 1) := by decide +kernel
theorem dX5_packet_10 : decode cX5_packet 10 = .ok (.ifnonnull 7, 3) := by decide +kernel
theorem dX5_packet_13 : decode cX5_packet 13 = .ok (.iconst (-1), 1) := by decide +kernel
theorem dX5_packet_14 : decode cX5_packet 14 = .ok (.goto 8, 3) := by decide +kernel
theorem dX5_packet_17 : decode cX5_packet 17 = .ok (.aload_n 3, 1) := by decide +kernel
theorem dX5_packet_18 : decode cX5_packet 18 = .ok (.iload_n 2, 1) := by decide +kernel
theorem dX5_packet_19 : decode cX5_packet 19 = .ok (.invokevirtual 146, 3) := by decide +kernel
theorem dX5_packet_22 : decode cX5_packet 22 = .ok (.ireturn, 1) := by decide +kernel
theorem dX5_wire_0 : decode cX5_wire 0 = .ok (.aload_n 0, 1) := by decide +kernel
theorem dX5_wire_1 : decode cX5_wire 1 = .ok (.getfield 25, 3) := by decide +kernel
theorem dX5_wire_4 : decode cX5_wire 4 = .ok (.iload_n 1, 1) := by decide +kernel
theorem dX5_wire_5 : decode cX5_wire 5 = .ok (.invokevirtual 147, 3) := by decide +kernel
theorem dX5_wire_8 : decode cX5_wire 8 = .ok (.astore_n 3, 1) := by decide +kernel
theorem dX5_wire_9 : decode cX5_wire 9 = .ok (.aload_n 3, 1) := by decide +kernel
theorem dX5_wire_10 : decode cX5_wire 10 = .ok (.ifnonnull 7, 3) := by decide +kernel
theorem dX5_wire_13 : decode cX5_wire 13 = .ok (.iconst (-1), 1) := by decide +kernel
theorem dX5_wire_14 : decode cX5_wire 14 = .ok (.goto 8, 3) := by decide +kernel
theorem dX5_wire_17 : decode cX5_wire 17 = .ok (.aload_n 3, 1) := by decide +kernel
theorem dX5_wire_18 : decode cX5_wire 18 = .ok (.iload_n 2, 1) := by decide +kernel
theorem dX5_wire_19 : decode cX5_wire 19 = .ok (.invokevirtual 151, 3) := by decide +kernel
theorem dX5_wire_22 : decode cX5_wire 22 = .ok (.ireturn, 1) := by decide +kernel
theorem dX5_buffer_0 : decode cX5_buffer 0 = .ok (.aload_n 0, 1) := by decide +kernel
theorem dX5_buffer_1 : decode cX5_buffer 1 = .ok (.getfield 25, 3) := by decide +kernel
theorem dX5_buffer_4 : decode cX5_buffer 4 = .ok (.iload_n 1, 1) := by decide +kernel
theorem dX5_buffer_5 : decode cX5_buffer 5 = .ok (.invokevirtual 44, 3) := by decide +kernel
theorem dX5_buffer_8 : decode cX5_buffer 8 = .ok (.astore 4, 2) := by decide +kernel
theorem dX5_buffer_10 : decode cX5_buffer 10 = .ok (.aload 4, 2) := by decide +kernel
theorem dX5_buffer_12 : decode cX5_buffer 12 = .ok (.ifnonnull 5, 3) := by decide +kernel
theorem dX5_buffer_15 : decode cX5_buffer 15 = .ok (.iconst (-1), 1) := by decide +kernel
theorem dX5_buffer_16 : decode cX5_buffer 16 = .ok (.ireturn, 1) := by decide +kernel
theorem dX5_buffer_17 : decode cX5_buffer 17 = .ok (.aload 4, 2) := by decide +kernel
theorem dX5_buffer_19 : decode cX5_buffer 19 = .ok (.getfield 154, 3) := by decide +kernel
theorem dX5_buffer_22 : decode cX5_buffer 22 = .ok (.iload_n 2, 1) := by decide +kernel
theorem dX5_buffer_23 : decode cX5_buffer 23 = .ok (.invokevirtual 158, 3) := by decide +kernel
theorem dX5_buffer_26 : decode cX5_buffer 26 = .ok (.astore 5, 2) := by decide +kernel
theorem dX5_buffer_28 : decode cX5_buffer 28 = .ok (.aload 5, 2) := by decide +kernel
theorem dX5_buffer_30 : decode cX5_buffer 30 = .ok (.ifnonnull 7, 3) := by decide +kernel
theorem dX5_buffer_33 : decode cX5_buffer 33 = .ok (.iconst (-1), 1) := by decide +kernel
theorem dX5_buffer_34 : decode cX5_buffer 34 = .ok (.goto 9, 3) := by decide +kernel
theorem dX5_buffer_37 : decode cX5_buffer 37 = .ok (.aload 5, 2) := by decide +kernel
theorem dX5_buffer_39 : decode cX5_buffer 39 = .ok (.iload_n 3, 1) := by decide +kernel
theorem dX5_buffer_40 : decode cX5_buffer 40 = .ok (.invokevirtual 151, 3) := by decide +kernel
theorem dX5_buffer_43 : decode cX5_buffer 43 = .ok (.ireturn, 1) := by decide +kernel
theorem dX5_back_0 : decode cX5_back 0 = .ok (.aload_n 0, 1) := by decide +kernel
theorem dX5_back_1 : decode cX5_back 1 = .ok (.getfield 25, 3) := by decide +kernel
theorem dX5_back_4 : decode cX5_back 4 = .ok (.iload_n 1, 1) := by decide +kernel
theorem dX5_back_5 : decode cX5_back 5 = .ok (.invokevirtual 44, 3) := by decide +kernel
theorem dX5_back_8 : decode cX5_back 8 = .ok (.astore_n 3, 1) := by decide +kernel
theorem dX5_back_9 : decode cX5_back 9 = .ok (.aload_n 3, 1) := by decide +kernel
theorem dX5_back_10 : decode cX5_back 10 = .ok (.ifnull 13, 3) := by decide +kernel
theorem dX5_back_13 : decode cX5_back 13 = .ok (.iload_n 2, 1) := by decide +kernel
theorem dX5_back_14 : decode cX5_back 14 = .ok (.ifCond .lt 9, 3) := by decide +kernel
theorem dX5_back_17 : decode cX5_back 17 = .ok (.iload_n 2, 1) := by decide +kernel
theorem dX5_back_18 : decode cX5_back 18 = .ok (.bipush 16, 2) := by decide +kernel
theorem dX5_back_20 : decode cX5_back 20 = .ok (.if_icmp .lt 5, 3) := by decide +kernel
theorem dX5_back_23 : decode cX5_back 23 = .ok (.iconst 0, 1) := by decide +kernel
theorem dX5_back_24 : decode cX5_back 24 = .ok (.ireturn, 1) := by decide +kernel
theorem dX5_back_25 : decode cX5_back 25 = .ok (.aload_n 3, 1) := by decide +kernel
theorem dX5_back_26 : decode cX5_back 26 = .ok (.getfield 163, 3) := by decide +kernel
theorem dX5_back_29 : decode cX5_back 29 = .ok (.aload_n 0, 1) := by decide +kernel
theorem dX5_back_30 : decode cX5_back 30 = .ok (.getfield 25, 3) := by decide +kernel
theorem dX5_back_33 : decode cX5_back 33 = .ok (.getfield 50, 3) := by decide +kernel
theorem dX5_back_36 : decode cX5_back 36 = .ok (.iload_n 2, 1) := by decide +kernel
theorem dX5_back_37 : decode cX5_back 37 = .ok (.iadd, 1) := by decide +kernel
theorem dX5_back_38 : decode cX5_back 38 = .ok (.bipush 15, 2) := by decide +kernel
theorem dX5_back_40 : decode cX5_back 40 = .ok (.iand, 1) := by decide +kernel
theorem dX5_back_41 : decode cX5_back 41 = .ok (.iaload, 1) := by decide +kernel
theorem dX5_back_42 : decode cX5_back 42 = .ok (.ireturn, 1) := by decide +kernel
theorem dX5_count_0 : decode cX5_count 0 = .ok (.iload_n 1, 1) := by decide +kernel
theorem dX5_count_1 : decode cX5_count 1 = .ok (.bipush 7, 2) := by decide +kernel
theorem dX5_count_3 : decode cX5_count 3 = .ok (.if_icmp .ne 10, 3) := by decide +kernel
theorem dX5_count_6 : decode cX5_count 6 = .ok (.aload_n 0, 1) := by decide +kernel
theorem dX5_count_7 : decode cX5_count 7 = .ok (.getfield 13, 3) := by decide +kernel
theorem dX5_count_10 : decode cX5_count 10 = .ok (.goto 11, 3) := by decide +kernel
theorem dX5_count_13 : decode cX5_count 13 = .ok (.aload_n 0, 1) := by decide +kernel
theorem dX5_count_14 : decode cX5_count 14 = .ok (.getfield 25, 3) := by decide +kernel
theorem dX5_count_17 : decode cX5_count 17 = .ok (.iload_n 1, 1) := by decide +kernel
theorem dX5_count_18 : decode cX5_count 18 = .ok (.invokevirtual 167, 3) := by decide +kernel
theorem dX5_count_21 : decode cX5_count 21 = .ok (.ireturn, 1) := by decide +kernel
theorem dX5_isWithin_0 : decode cX5_isWithin 0 = .ok (.iload_n 0, 1) := by decide +kernel
theorem dX5_isWithin_1 : decode cX5_isWithin 1 = .ok (.iconst 1, 1) := by decide +kernel
theorem dX5_isWithin_2 : decode cX5_isWithin 2 = .ok (.if_icmp .lt 12, 3) := by decide +kernel
theorem dX5_isWithin_5 : decode cX5_isWithin 5 = .ok (.iload_n 0, 1) := by decide +kernel
theorem dX5_isWithin_6 : decode cX5_isWithin 6 = .ok (.iload_n 1, 1) := by decide +kernel
theorem dX5_isWithin_7 : decode cX5_isWithin 7 = .ok (.if_icmp .gt 7, 3) := by decide +kernel
theorem dX5_isWithin_10 : decode cX5_isWithin 10 = .ok (.iconst 1, 1) := by decide +kernel
theorem dX5_isWithin_11 : decode cX5_isWithin 11 = .ok (.goto 4, 3) := by decide +kernel
theorem dX5_isWithin_14 : decode cX5_isWithin 14 = .ok (.iconst 0, 1) := by decide +kernel
theorem dX5_isWithin_15 : decode cX5_isWithin 15 = .ok (.ireturn, 1) := by decide +kernel
theorem dX5_putOnTape_0 : decode cX5_putOnTape 0 = .ok (.aload_n 0, 1) := by decide +kernel
theorem dX5_putOnTape_1 : decode cX5_putOnTape 1 = .ok (.getfield 13, 3) := by decide +kernel
theorem dX5_putOnTape_4 : decode cX5_putOnTape 4 = .ok (.ifCond .lt 35, 3) := by decide +kernel
theorem dX5_putOnTape_7 : decode cX5_putOnTape 7 = .ok (.aload_n 0, 1) := by decide +kernel
theorem dX5_putOnTape_8 : decode cX5_putOnTape 8 = .ok (.getfield 13, 3) := by decide +kernel
theorem dX5_putOnTape_11 : decode cX5_putOnTape 11 = .ok (.aload_n 0, 1) := by decide +kernel
theorem dX5_putOnTape_12 : decode cX5_putOnTape 12 = .ok (.getfield 9, 3) := by decide +kernel
theorem dX5_putOnTape_15 : decode cX5_putOnTape 15 = .ok (.arraylength, 1) := by decide +kernel
theorem dX5_putOnTape_16 : decode cX5_putOnTape 16 = .ok (.if_icmp .ge 23, 3) := by decide +kernel
theorem dX5_putOnTape_19 : decode cX5_putOnTape 19 = .ok (.aload_n 0, 1) := by decide +kernel
theorem dX5_putOnTape_20 : decode cX5_putOnTape 20 = .ok (.getfield 9, 3) := by decide +kernel
theorem dX5_putOnTape_23 : decode cX5_putOnTape 23 = .ok (.aload_n 0, 1) := by decide +kernel
theorem dX5_putOnTape_24 : decode cX5_putOnTape 24 = .ok (.getfield 13, 3) := by decide +kernel
theorem dX5_putOnTape_27 : decode cX5_putOnTape 27 = .ok (.iload_n 1, 1) := by decide +kernel
theorem dX5_putOnTape_28 : decode cX5_putOnTape 28 = .ok (.bastore, 1) := by decide +kernel
theorem dX5_putOnTape_29 : decode cX5_putOnTape 29 = .ok (.aload_n 0, 1) := by decide +kernel
theorem dX5_putOnTape_30 : decode cX5_putOnTape 30 = .ok (.dup, 1) := by decide +kernel
theorem dX5_putOnTape_31 : decode cX5_putOnTape 31 = .ok (.getfield 13, 3) := by decide +kernel
theorem dX5_putOnTape_34 : decode cX5_putOnTape 34 = .ok (.iconst 1, 1) := by decide +kernel
theorem dX5_putOnTape_35 : decode cX5_putOnTape 35 = .ok (.iadd, 1) := by decide +kernel
theorem dX5_putOnTape_36 : decode cX5_putOnTape 36 = .ok (.putfield 13, 3) := by decide +kernel
theorem dX5_putOnTape_39 : decode cX5_putOnTape 39 = .ok (.return_, 1) := by decide +kernel
theorem dJ9_floorMod_7cf53_0 : decode cJ9_floorMod_7cf53 0 = .ok (.iload_n 0, 1) := by decide +kernel
theorem dJ9_floorMod_7cf53_1 : decode cJ9_floorMod_7cf53 1 = .ok (.iload_n 1, 1) := by decide +kernel
theorem dJ9_floorMod_7cf53_2 : decode cJ9_floorMod_7cf53 2 = .ok (.irem, 1) := by decide +kernel
theorem dJ9_floorMod_7cf53_3 : decode cJ9_floorMod_7cf53 3 = .ok (.istore_n 2, 1) := by decide +kernel
theorem dJ9_floorMod_7cf53_4 : decode cJ9_floorMod_7cf53 4 = .ok (.iload_n 0, 1) := by decide +kernel
theorem dJ9_floorMod_7cf53_5 : decode cJ9_floorMod_7cf53 5 = .ok (.iload_n 1, 1) := by decide +kernel
theorem dJ9_floorMod_7cf53_6 : decode cJ9_floorMod_7cf53 6 = .ok (.ixor, 1) := by decide +kernel
theorem dJ9_floorMod_7cf53_7 : decode cJ9_floorMod_7cf53 7 = .ok (.ifCond .ge 11, 3) := by decide +kernel
theorem dJ9_floorMod_7cf53_10 : decode cJ9_floorMod_7cf53 10 = .ok (.iload_n 2, 1) := by decide +kernel
theorem dJ9_floorMod_7cf53_11 : decode cJ9_floorMod_7cf53 11 = .ok (.ifCond .eq 7, 3) := by decide +kernel
theorem dJ9_floorMod_7cf53_14 : decode cJ9_floorMod_7cf53 14 = .ok (.iload_n 2, 1) := by decide +kernel
theorem dJ9_floorMod_7cf53_15 : decode cJ9_floorMod_7cf53 15 = .ok (.iload_n 1, 1) := by decide +kernel
theorem dJ9_floorMod_7cf53_16 : decode cJ9_floorMod_7cf53 16 = .ok (.iadd, 1) := by decide +kernel
theorem dJ9_floorMod_7cf53_17 : decode cJ9_floorMod_7cf53 17 = .ok (.ireturn, 1) := by decide +kernel
theorem dJ9_floorMod_7cf53_18 : decode cJ9_floorMod_7cf53 18 = .ok (.iload_n 2, 1) := by decide +kernel
theorem dJ9_floorMod_7cf53_19 : decode cJ9_floorMod_7cf53 19 = .ok (.ireturn, 1) := by decide +kernel
theorem dJ9_max_7cf53_0 : decode cJ9_max_7cf53 0 = .ok (.iload_n 0, 1) := by decide +kernel
theorem dJ9_max_7cf53_1 : decode cJ9_max_7cf53 1 = .ok (.iload_n 1, 1) := by decide +kernel
theorem dJ9_max_7cf53_2 : decode cJ9_max_7cf53 2 = .ok (.if_icmp .lt 7, 3) := by decide +kernel
theorem dJ9_max_7cf53_5 : decode cJ9_max_7cf53 5 = .ok (.iload_n 0, 1) := by decide +kernel
theorem dJ9_max_7cf53_6 : decode cJ9_max_7cf53 6 = .ok (.goto 4, 3) := by decide +kernel
theorem dJ9_max_7cf53_9 : decode cJ9_max_7cf53 9 = .ok (.iload_n 1, 1) := by decide +kernel
theorem dJ9_max_7cf53_10 : decode cJ9_max_7cf53 10 = .ok (.ireturn, 1) := by decide +kernel
theorem dJ9_min_7cf53_0 : decode cJ9_min_7cf53 0 = .ok (.iload_n 0, 1) := by decide +kernel
theorem dJ9_min_7cf53_1 : decode cJ9_min_7cf53 1 = .ok (.iload_n 1, 1) := by decide +kernel
theorem dJ9_min_7cf53_2 : decode cJ9_min_7cf53 2 = .ok (.if_icmp .gt 7, 3) := by decide +kernel
theorem dJ9_min_7cf53_5 : decode cJ9_min_7cf53 5 = .ok (.iload_n 0, 1) := by decide +kernel
theorem dJ9_min_7cf53_6 : decode cJ9_min_7cf53 6 = .ok (.goto 4, 3) := by decide +kernel
theorem dJ9_min_7cf53_9 : decode cJ9_min_7cf53 9 = .ok (.iload_n 1, 1) := by decide +kernel
theorem dJ9_min_7cf53_10 : decode cJ9_min_7cf53 10 = .ok (.ireturn, 1) := by decide +kernel
theorem dJ7_copyOf_9075b_0 : decode cJ7_copyOf_9075b 0 = .ok (.iload_n 1, 1) := by decide +kernel
theorem dJ7_copyOf_9075b_1 : decode cJ7_copyOf_9075b 1 = .ok (.aload_n 0, 1) := by decide +kernel
theorem dJ7_copyOf_9075b_2 : decode cJ7_copyOf_9075b 2 = .ok (.arraylength, 1) := by decide +kernel
theorem dJ7_copyOf_9075b_3 : decode cJ7_copyOf_9075b 3 = .ok (.if_icmp .ne 11, 3) := by decide +kernel
theorem dJ7_copyOf_9075b_6 : decode cJ7_copyOf_9075b 6 = .ok (.aload_n 0, 1) := by decide +kernel
theorem dJ7_copyOf_9075b_7 : decode cJ7_copyOf_9075b 7 = .ok (.invokevirtual 310, 3) := by decide +kernel
theorem dJ7_copyOf_9075b_10 : decode cJ7_copyOf_9075b 10 = .ok (.checkcast 311, 3) := by decide +kernel
theorem dJ7_copyOf_9075b_13 : decode cJ7_copyOf_9075b 13 = .ok (.areturn, 1) := by decide +kernel
theorem dJ7_copyOf_9075b_14 : decode cJ7_copyOf_9075b 14 = .ok (.iload_n 1, 1) := by decide +kernel
theorem dJ7_copyOf_9075b_15 : decode cJ7_copyOf_9075b 15 = .ok (.newarray .byte, 2) := by decide +kernel
theorem dJ7_copyOf_9075b_17 : decode cJ7_copyOf_9075b 17 = .ok (.astore_n 2, 1) := by decide +kernel
theorem dJ7_copyOf_9075b_18 : decode cJ7_copyOf_9075b 18 = .ok (.aload_n 0, 1) := by decide +kernel
theorem dJ7_copyOf_9075b_19 : decode cJ7_copyOf_9075b 19 = .ok (.iconst 0, 1) := by decide +kernel
theorem dJ7_copyOf_9075b_20 : decode cJ7_copyOf_9075b 20 = .ok (.aload_n 2, 1) := by decide +kernel
theorem dJ7_copyOf_9075b_21 : decode cJ7_copyOf_9075b 21 = .ok (.iconst 0, 1) := by decide +kernel
theorem dJ7_copyOf_9075b_22 : decode cJ7_copyOf_9075b 22 = .ok (.aload_n 0, 1) := by decide +kernel
theorem dJ7_copyOf_9075b_23 : decode cJ7_copyOf_9075b 23 = .ok (.arraylength, 1) := by decide +kernel
theorem dJ7_copyOf_9075b_24 : decode cJ7_copyOf_9075b 24 = .ok (.iload_n 1, 1) := by decide +kernel
theorem dJ7_copyOf_9075b_25 : decode cJ7_copyOf_9075b 25 = .ok (.invokestatic 304, 3) := by decide +kernel
theorem dJ7_copyOf_9075b_28 : decode cJ7_copyOf_9075b 28 = .ok (.invokestatic 150, 3) := by decide +kernel
theorem dJ7_copyOf_9075b_31 : decode cJ7_copyOf_9075b 31 = .ok (.aload_n 2, 1) := by decide +kernel
theorem dJ7_copyOf_9075b_32 : decode cJ7_copyOf_9075b 32 = .ok (.areturn, 1) := by decide +kernel
