theorem dX0_init_0 : decode cX0_init 0 = .ok (.aload_n 0, 1) := by decide +kernel
theorem dX0_init_1 : decode cX0_init 1 = .ok (.invokespecial 3, 3) := by decide +kernel
theorem dX0_init_4 : decode cX0_init 4 = .ok (.aload_n 0, 1) := by decide +kernel
theorem dX0_init_5 : decode cX0_init 5 = .ok (.bipush 8, 2) := by decide +kernel
theorem dX0_init_7 : decode cX0_init 7 = .ok (.anewarray 9, 3) := by decide +kernel
theorem dX0_init_10 : decode cX0_init 10 = .ok (.putfield 11, 3) := by decide +kernel
theorem dX0_init_13 : decode cX0_init 13 = .ok (.aload_n 0, 1) := by decide +kernel
theorem dX0_init_14 : decode cX0_init 14 = .ok (.iconst 0, 1) := by decide +kernel
theorem dX0_init_15 : decode cX0_init 15 = .ok (.putfield 17, 3) := by decide +kernel
theorem dX0_init_18 : decode cX0_init 18 = .ok (.return_, 1) := by decide +kernel
theorem dX0_moduleNamed_0 : decode cX0_moduleNamed 0 = .ok (.iconst 0, 1) := by decide +kernel
theorem dX0_moduleNamed_1 : decode cX0_moduleNamed 1 = .ok (.istore_n 3, 1) := by decide +kernel
theorem dX0_moduleNamed_2 : decode cX0_moduleNamed 2 = .ok (.iload_n 3, 1) := by decide +kernel
theorem dX0_moduleNamed_3 : decode cX0_moduleNamed 3 = .ok (.aload_n 0, 1) := by decide +kernel
theorem dX0_moduleNamed_4 : decode cX0_moduleNamed 4 = .ok (.getfield 17, 3) := by decide +kernel
theorem dX0_moduleNamed_7 : decode cX0_moduleNamed 7 = .ok (.if_icmp .ge 30, 3) := by decide +kernel
theorem dX0_moduleNamed_10 : decode cX0_moduleNamed 10 = .ok (.aload_n 0, 1) := by decide +kernel
theorem dX0_moduleNamed_11 : decode cX0_moduleNamed 11 = .ok (.getfield 11, 3) := by decide +kernel
theorem dX0_moduleNamed_14 : decode cX0_moduleNamed 14 = .ok (.iload_n 3, 1) := by decide +kernel
theorem dX0_moduleNamed_15 : decode cX0_moduleNamed 15 = .ok (.aaload, 1) := by decide +kernel
theorem dX0_moduleNamed_16 : decode cX0_moduleNamed 16 = .ok (.getfield 21, 3) := by decide +kernel
theorem dX0_moduleNamed_19 : decode cX0_moduleNamed 19 = .ok (.lload_n 1, 1) := by decide +kernel
theorem dX0_moduleNamed_20 : decode cX0_moduleNamed 20 = .ok (.lcmp, 1) := by decide +kernel
theorem dX0_moduleNamed_21 : decode cX0_moduleNamed 21 = .ok (.ifCond .ne 10, 3) := by decide +kernel
theorem dX0_moduleNamed_24 : decode cX0_moduleNamed 24 = .ok (.aload_n 0, 1) := by decide +kernel
theorem dX0_moduleNamed_25 : decode cX0_moduleNamed 25 = .ok (.getfield 11, 3) := by decide +kernel
theorem dX0_moduleNamed_28 : decode cX0_moduleNamed 28 = .ok (.iload_n 3, 1) := by decide +kernel
theorem dX0_moduleNamed_29 : decode cX0_moduleNamed 29 = .ok (.aaload, 1) := by decide +kernel
theorem dX0_moduleNamed_30 : decode cX0_moduleNamed 30 = .ok (.areturn, 1) := by decide +kernel
theorem dX0_moduleNamed_31 : decode cX0_moduleNamed 31 = .ok (.iinc 3 1, 3) := by decide +kernel
theorem dX0_moduleNamed_34 : decode cX0_moduleNamed 34 = .ok (.goto (-32), 3) := by decide +kernel
theorem dX0_moduleNamed_37 : decode cX0_moduleNamed 37 = .ok (.aconst_null, 1) := by decide +kernel
theorem dX0_moduleNamed_38 : decode cX0_moduleNamed 38 = .ok (.areturn, 1) := by decide +kernel
theorem dX0_canTakeModule_0 : decode cX0_canTakeModule 0 = .ok (.aload_n 0, 1) := by decide +kernel
theorem dX0_canTakeModule_1 : decode cX0_canTakeModule 1 = .ok (.getfield 17, 3) := by decide +kernel
theorem dX0_canTakeModule_4 : decode cX0_canTakeModule 4 = .ok (.bipush 8, 2) := by decide +kernel
theorem dX0_canTakeModule_6 : decode cX0_canTakeModule 6 = .ok (.if_icmp .ge 15, 3) := by decide +kernel
theorem dX0_canTakeModule_9 : decode cX0_canTakeModule 9 = .ok (.aload_n 0, 1) := by decide +kernel
theorem dX0_canTakeModule_10 : decode cX0_canTakeModule 10 = .ok (.lload_n 1, 1) := by decide +kernel
theorem dX0_canTakeModule_11 : decode cX0_canTakeModule 11 = .ok (.invokevirtual 25, 3) := by decide +kernel
theorem dX0_canTakeModule_14 : decode cX0_canTakeModule 14 = .ok (.ifnonnull 7, 3) := by decide +kernel
theorem dX0_canTakeModule_17 : decode cX0_canTakeModule 17 = .ok (.iconst 1, 1) := by decide +kernel
theorem dX0_canTakeModule_18 : decode cX0_canTakeModule 18 = .ok (.goto 4, 3) := by decide +kernel
theorem dX0_canTakeModule_21 : decode cX0_canTakeModule 21 = .ok (.iconst 0, 1) := by decide +kernel
theorem dX0_canTakeModule_22 : decode cX0_canTakeModule 22 = .ok (.ireturn, 1) := by decide +kernel
theorem dX0_addModule_0 : decode cX0_addModule 0 = .ok (.new 9, 3) := by decide +kernel
theorem dX0_addModule_3 : decode cX0_addModule 3 = .ok (.dup, 1) := by decide +kernel
theorem dX0_addModule_4 : decode cX0_addModule 4 = .ok (.aload_n 0, 1) := by decide +kernel
theorem dX0_addModule_5 : decode cX0_addModule 5 = .ok (.getfield 17, 3) := by decide +kernel
theorem dX0_addModule_8 : decode cX0_addModule 8 = .ok (.lload_n 1, 1) := by decide +kernel
theorem dX0_addModule_9 : decode cX0_addModule 9 = .ok (.iload_n 3, 1) := by decide +kernel
theorem dX0_addModule_10 : decode cX0_addModule 10 = .ok (.invokespecial 29, 3) := by decide +kernel
theorem dX0_addModule_13 : decode cX0_addModule 13 = .ok (.astore 4, 2) := by decide +kernel
theorem dX0_addModule_15 : decode cX0_addModule 15 = .ok (.aload_n 0, 1) := by decide +kernel
theorem dX0_addModule_16 : decode cX0_addModule 16 = .ok (.getfield 17, 3) := by decide +kernel
theorem dX0_addModule_19 : decode cX0_addModule 19 = .ok (.bipush 8, 2) := by decide +kernel
theorem dX0_addModule_21 : decode cX0_addModule 21 = .ok (.if_icmp .ge 24, 3) := by decide +kernel
theorem dX0_addModule_24 : decode cX0_addModule 24 = .ok (.aload_n 0, 1) := by decide +kernel
theorem dX0_addModule_25 : decode cX0_addModule 25 = .ok (.getfield 11, 3) := by decide +kernel
theorem dX0_addModule_28 : decode cX0_addModule 28 = .ok (.aload_n 0, 1) := by decide +kernel
theorem dX0_addModule_29 : decode cX0_addModule 29 = .ok (.getfield 17, 3) := by decide +kernel
theorem dX0_addModule_32 : decode cX0_addModule 32 = .ok (.aload 4, 2) := by decide +kernel
theorem dX0_addModule_34 : decode cX0_addModule 34 = .ok (.aastore, 1) := by decide +kernel
theorem dX0_addModule_35 : decode cX0_addModule 35 = .ok (.aload_n 0, 1) := by decide +kernel
theorem dX0_addModule_36 : decode cX0_addModule 36 = .ok (.dup, 1) := by decide +kernel
theorem dX0_addModule_37 : decode cX0_addModule 37 = .ok (.getfield 17, 3) := by decide +kernel
theorem dX0_addModule_40 : decode cX0_addModule 40 = .ok (.iconst 1, 1) := by decide +kernel
theorem dX0_addModule_41 : decode cX0_addModule 41 = .ok (.iadd, 1) := by decide +kernel
theorem dX0_addModule_42 : decode cX0_addModule 42 = .ok (.putfield 17, 3) := by decide +kernel
theorem dX0_addModule_45 : decode cX0_addModule 45 = .ok (.aload 4, 2) := by decide +kernel
theorem dX0_addModule_47 : decode cX0_addModule 47 = .ok (.areturn, 1) := by decide +kernel
theorem dX0_faultAsWhole_0 : decode cX0_faultAsWhole 0 = .ok (.iconst 0, 1) := by decide +kernel
theorem dX0_faultAsWhole_1 : decode cX0_faultAsWhole 1 = .ok (.istore_n 1, 1) := by decide +kernel
theorem dX0_faultAsWhole_2 : decode cX0_faultAsWhole 2 = .ok (.iload_n 1, 1) := by decide +kernel
theorem dX0_faultAsWhole_3 : decode cX0_faultAsWhole 3 = .ok (.aload_n 0, 1) := by decide +kernel
theorem dX0_faultAsWhole_4 : decode cX0_faultAsWhole 4 = .ok (.getfield 17, 3) := by decide +kernel
theorem dX0_faultAsWhole_7 : decode cX0_faultAsWhole 7 = .ok (.if_icmp .ge 19, 3) := by decide +kernel
theorem dX0_faultAsWhole_10 : decode cX0_faultAsWhole 10 = .ok (.aload_n 0, 1) := by decide +kernel
theorem dX0_faultAsWhole_11 : decode cX0_faultAsWhole 11 = .ok (.aload_n 0, 1) := by decide +kernel
theorem dX0_faultAsWhole_12 : decode cX0_faultAsWhole 12 = .ok (.getfield 11, 3) := by decide +kernel
theorem dX0_faultAsWhole_15 : decode cX0_faultAsWhole 15 = .ok (.iload_n 1, 1) := by decide +kernel
theorem dX0_faultAsWhole_16 : decode cX0_faultAsWhole 16 = .ok (.aaload, 1) := by decide +kernel
theorem dX0_faultAsWhole_17 : decode cX0_faultAsWhole 17 = .ok (.invokevirtual 32, 3) := by decide +kernel
theorem dX0_faultAsWhole_20 : decode cX0_faultAsWhole 20 = .ok (.iinc 1 1, 3) := by decide +kernel
theorem dX0_faultAsWhole_23 : decode cX0_faultAsWhole 23 = .ok (.goto (-21), 3) := by decide +kernel
theorem dX0_faultAsWhole_26 : decode cX0_faultAsWhole 26 = .ok (.sipush 1001, 3) := by decide +kernel
theorem dX0_faultAsWhole_29 : decode cX0_faultAsWhole 29 = .ok (.istore_n 1, 1) := by decide +kernel
theorem dX0_faultAsWhole_30 : decode cX0_faultAsWhole 30 = .ok (.iconst 0, 1) := by decide +kernel
theorem dX0_faultAsWhole_31 : decode cX0_faultAsWhole 31 = .ok (.istore_n 2, 1) := by decide +kernel
theorem dX0_faultAsWhole_32 : decode cX0_faultAsWhole 32 = .ok (.iload_n 2, 1) := by decide +kernel
theorem dX0_faultAsWhole_33 : decode cX0_faultAsWhole 33 = .ok (.aload_n 0, 1) := by decide +kernel
theorem dX0_faultAsWhole_34 : decode cX0_faultAsWhole 34 = .ok (.getfield 17, 3) := by decide +kernel
theorem dX0_faultAsWhole_37 : decode cX0_faultAsWhole 37 = .ok (.if_icmp .ge 23, 3) := by decide +kernel
theorem dX0_faultAsWhole_40 : decode cX0_faultAsWhole 40 = .ok (.iload_n 1, 1) := by decide +kernel
theorem dX0_faultAsWhole_41 : decode cX0_faultAsWhole 41 = .ok (.aload_n 0, 1) := by decide +kernel
theorem dX0_faultAsWhole_42 : decode cX0_faultAsWhole 42 = .ok (.getfield 11, 3) := by decide +kernel
theorem dX0_faultAsWhole_45 : decode cX0_faultAsWhole 45 = .ok (.iload_n 2, 1) := by decide +kernel
theorem dX0_faultAsWhole_46 : decode cX0_faultAsWhole 46 = .ok (.aaload, 1) := by decide +kernel
theorem dX0_faultAsWhole_47 : decode cX0_faultAsWhole 47 = .ok (.invokevirtual 36, 3) := by decide +kernel
theorem dX0_faultAsWhole_50 : decode cX0_faultAsWhole 50 = .ok (.invokestatic 40, 3) := by decide +kernel
theorem dX0_faultAsWhole_53 : decode cX0_faultAsWhole 53 = .ok (.istore_n 1, 1) := by decide +kernel
theorem dX0_faultAsWhole_54 : decode cX0_faultAsWhole 54 = .ok (.iinc 2 1, 3) := by decide +kernel
theorem dX0_faultAsWhole_57 : decode cX0_faultAsWhole 57 = .ok (.goto (-25), 3) := by decide +kernel
theorem dX0_faultAsWhole_60 : decode cX0_faultAsWhole 60 = .ok (.iload_n 1, 1) := by decide +kernel
theorem dX0_faultAsWhole_61 : decode cX0_faultAsWhole 61 = .ok (.sipush 1001, 3) := by decide +kernel
theorem dX0_faultAsWhole_64 : decode cX0_faultAsWhole 64 = .ok (.if_icmp .ne 8, 3) := by decide +kernel
theorem dX0_faultAsWhole_67 : decode cX0_faultAsWhole 67 = .ok (.aload_n 0, 1) := by decide +kernel
theorem dX0_faultAsWhole_68 : decode cX0_faultAsWhole 68 = .ok (.invokevirtual 46, 3) := by decide +kernel
theorem dX0_faultAsWhole_71 : decode cX0_faultAsWhole 71 = .ok (.istore_n 1, 1) := by decide +kernel
theorem dX0_faultAsWhole_72 : decode cX0_faultAsWhole 72 = .ok (.iload_n 1, 1) := by decide +kernel
theorem dX0_faultAsWhole_73 : decode cX0_faultAsWhole 73 = .ok (.sipush 1001, 3) := by decide +kernel
theorem dX0_faultAsWhole_76 : decode cX0_faultAsWhole 76 = .ok (.if_icmp .ne 7, 3) := by decide +kernel
theorem dX0_faultAsWhole_79 : decode cX0_faultAsWhole 79 = .ok (.aload_n 0, 1) := by decide +kernel
theorem dX0_faultAsWhole_80 : decode cX0_faultAsWhole 80 = .ok (.invokevirtual 49, 3) := by decide +kernel
theorem dX0_faultAsWhole_83 : decode cX0_faultAsWhole 83 = .ok (.iload_n 1, 1) := by decide +kernel
theorem dX0_faultAsWhole_84 : decode cX0_faultAsWhole 84 = .ok (.ireturn, 1) := by decide +kernel
theorem dX0_nameKinds_0 : decode cX0_nameKinds 0 = .ok (.iconst 0, 1) := by decide +kernel
theorem dX0_nameKinds_1 : decode cX0_nameKinds 1 = .ok (.istore_n 2, 1) := by decide +kernel
theorem dX0_nameKinds_2 : decode cX0_nameKinds 2 = .ok (.iload_n 2, 1) := by decide +kernel
theorem dX0_nameKinds_3 : decode cX0_nameKinds 3 = .ok (.aload_n 1, 1) := by decide +kernel
theorem dX0_nameKinds_4 : decode cX0_nameKinds 4 = .ok (.getfield 52, 3) := by decide +kernel
theorem dX0_nameKinds_7 : decode cX0_nameKinds 7 = .ok (.if_icmp .ge 31, 3) := by decide +kernel
theorem dX0_nameKinds_10 : decode cX0_nameKinds 10 = .ok (.aload_n 1, 1) := by decide +kernel
theorem dX0_nameKinds_11 : decode cX0_nameKinds 11 = .ok (.getfield 55, 3) := by decide +kernel
theorem dX0_nameKinds_14 : decode cX0_nameKinds 14 = .ok (.iload_n 2, 1) := by decide +kernel
theorem dX0_nameKinds_15 : decode cX0_nameKinds 15 = .ok (.aaload, 1) := by decide +kernel
theorem dX0_nameKinds_16 : decode cX0_nameKinds 16 = .ok (.aload_n 0, 1) := by decide +kernel
theorem dX0_nameKinds_17 : decode cX0_nameKinds 17 = .ok (.aload_n 1, 1) := by decide +kernel
theorem dX0_nameKinds_18 : decode cX0_nameKinds 18 = .ok (.getfield 55, 3) := by decide +kernel
theorem dX0_nameKinds_21 : decode cX0_nameKinds 21 = .ok (.iload_n 2, 1) := by decide +kernel
theorem dX0_nameKinds_22 : decode cX0_nameKinds 22 = .ok (.aaload, 1) := by decide +kernel
theorem dX0_nameKinds_23 : decode cX0_nameKinds 23 = .ok (.getfield 59, 3) := by decide +kernel
theorem dX0_nameKinds_26 : decode cX0_nameKinds 26 = .ok (.invokevirtual 25, 3) := by decide +kernel
theorem dX0_nameKinds_29 : decode cX0_nameKinds 29 = .ok (.putfield 64, 3) := by decide +kernel
theorem dX0_nameKinds_32 : decode cX0_nameKinds 32 = .ok (.iinc 2 1, 3) := by decide +kernel
theorem dX0_nameKinds_35 : decode cX0_nameKinds 35 = .ok (.goto (-33), 3) := by decide +kernel
theorem dX0_nameKinds_38 : decode cX0_nameKinds 38 = .ok (.return_, 1) := by decide +kernel
theorem dX0_firstInRing_0 : decode cX0_firstInRing 0 = .ok (.bipush 8, 2) := by decide +kernel
theorem dX0_firstInRing_2 : decode cX0_firstInRing 2 = .ok (.newarray .int, 2) := by decide +kernel
theorem dX0_firstInRing_4 : decode cX0_firstInRing 4 = .ok (.astore_n 1, 1) := by decide +kernel
theorem dX0_firstInRing_5 : decode cX0_firstInRing 5 = .ok (.iconst 0, 1) := by decide +kernel
theorem dX0_firstInRing_6 : decode cX0_firstInRing 6 = .ok (.istore_n 2, 1) := by decide +kernel
theorem dX0_firstInRing_7 : decode cX0_firstInRing 7 = .ok (.iload_n 2, 1) := by decide +kernel
theorem dX0_firstInRing_8 : decode cX0_firstInRing 8 = .ok (.aload_n 0, 1) := by decide +kernel
theorem dX0_firstInRing_9 : decode cX0_firstInRing 9 = .ok (.getfield 17, 3) := by decide +kernel
theorem dX0_firstInRing_12 : decode cX0_firstInRing 12 = .ok (.if_icmp .ge 21, 3) := by decide +kernel
theorem dX0_firstInRing_15 : decode cX0_firstInRing 15 = .ok (.aload_n 1, 1) := by decide +kernel
theorem dX0_firstInRing_16 : decode cX0_firstInRing 16 = .ok (.iload_n 2, 1) := by decide +kernel
theorem dX0_firstInRing_17 : decode cX0_firstInRing 17 = .ok (.aload_n 0, 1) := by decide +kernel
theorem dX0_firstInRing_18 : decode cX0_firstInRing 18 = .ok (.getfield 11, 3) := by decide +kernel
theorem dX0_firstInRing_21 : decode cX0_firstInRing 21 = .ok (.iload_n 2, 1) := by decide +kernel
theorem dX0_firstInRing_22 : decode cX0_firstInRing 22 = .ok (.aaload, 1) := by decide +kernel
theorem dX0_firstInRing_23 : decode cX0_firstInRing 23 = .ok (.invokevirtual 68, 3) := by decide +kernel
theorem dX0_firstInRing_26 : decode cX0_firstInRing 26 = .ok (.iastore, 1) := by decide +kernel
theorem dX0_firstInRing_27 : decode cX0_firstInRing 27 = .ok (.iinc 2 1, 3) := by decide +kernel
theorem dX0_firstInRing_30 : decode cX0_firstInRing 30 = .ok (.goto (-23), 3) := by decide +kernel
theorem dX0_firstInRing_33 : decode cX0_firstInRing 33 = .ok (.iconst 0, 1) := by decide +kernel
theorem dX0_firstInRing_34 : decode cX0_firstInRing 34 = .ok (.istore_n 2, 1) := by decide +kernel
theorem dX0_firstInRing_35 : decode cX0_firstInRing 35 = .ok (.iload_n 2, 1) := by decide +kernel
theorem dX0_firstInRing_36 : decode cX0_firstInRing 36 = .ok (.aload_n 0, 1) := by decide +kernel
theorem dX0_firstInRing_37 : decode cX0_firstInRing 37 = .ok (.getfield 17, 3) := by decide +kernel
theorem dX0_firstInRing_40 : decode cX0_firstInRing 40 = .ok (.if_icmp .ge 45, 3) := by decide +kernel
theorem dX0_firstInRing_43 : decode cX0_firstInRing 43 = .ok (.iconst 0, 1) := by decide +kernel
theorem dX0_firstInRing_44 : decode cX0_firstInRing 44 = .ok (.istore_n 3, 1) := by decide +kernel
theorem dX0_firstInRing_45 : decode cX0_firstInRing 45 = .ok (.iload_n 3, 1) := by decide +kernel
theorem dX0_firstInRing_46 : decode cX0_firstInRing 46 = .ok (.aload_n 0, 1) := by decide +kernel
theorem dX0_firstInRing_47 : decode cX0_firstInRing 47 = .ok (.getfield 17, 3) := by decide +kernel
theorem dX0_firstInRing_50 : decode cX0_firstInRing 50 = .ok (.if_icmp .ge 29, 3) := by decide +kernel
theorem dX0_firstInRing_53 : decode cX0_firstInRing 53 = .ok (.aload_n 1, 1) := by decide +kernel
theorem dX0_firstInRing_54 : decode cX0_firstInRing 54 = .ok (.iload_n 3, 1) := by decide +kernel
theorem dX0_firstInRing_55 : decode cX0_firstInRing 55 = .ok (.iaload, 1) := by decide +kernel
theorem dX0_firstInRing_56 : decode cX0_firstInRing 56 = .ok (.iload_n 2, 1) := by decide +kernel
theorem dX0_firstInRing_57 : decode cX0_firstInRing 57 = .ok (.ishr, 1) := by decide +kernel
theorem dX0_firstInRing_58 : decode cX0_firstInRing 58 = .ok (.iconst 1, 1) := by decide +kernel
theorem dX0_firstInRing_59 : decode cX0_firstInRing 59 = .ok (.iand, 1) := by decide +kernel
theorem dX0_firstInRing_60 : decode cX0_firstInRing 60 = .ok (.iconst 1, 1) := by decide +kernel
theorem dX0_firstInRing_61 : decode cX0_firstInRing 61 = .ok (.if_icmp .ne 12, 3) := by decide +kernel
theorem dX0_firstInRing_64 : decode cX0_firstInRing 64 = .ok (.aload_n 1, 1) := by decide +kernel
theorem dX0_firstInRing_65 : decode cX0_firstInRing 65 = .ok (.iload_n 3, 1) := by decide +kernel
theorem dX0_firstInRing_66 : decode cX0_firstInRing 66 = .ok (.dup2, 1) := by decide +kernel
theorem dX0_firstInRing_67 : decode cX0_firstInRing 67 = .ok (.iaload, 1) := by decide +kernel
theorem dX0_firstInRing_68 : decode cX0_firstInRing 68 = .ok (.aload_n 1, 1) := by decide +kernel
theorem dX0_firstInRing_69 : decode cX0_firstInRing 69 = .ok (.iload_n 2, 1) := by decide +kernel
theorem dX0_firstInRing_70 : decode cX0_firstInRing 70 = .ok (.iaload, 1) := by decide +kernel
theorem dX0_firstInRing_71 : decode cX0_firstInRing 71 = .ok (.ior, 1) := by decide +kernel
theorem dX0_firstInRing_72 : decode cX0_firstInRing 72 = .ok (.iastore, 1) := by decide +kernel
theorem dX0_firstInRing_73 : decode cX0_firstInRing 73 = .ok (.iinc 3 1, 3) := by decide +kernel
theorem dX0_firstInRing_76 : decode cX0_firstInRing 76 = .ok (.goto (-31), 3) := by decide +kernel
theorem dX0_firstInRing_79 : decode cX0_firstInRing 79 = .ok (.iinc 2 1, 3) := by decide +kernel
theorem dX0_firstInRing_82 : decode cX0_firstInRing 82 = .ok (.goto (-47), 3) := by decide +kernel
theorem dX0_firstInRing_85 : decode cX0_firstInRing 85 = .ok (.iconst 0, 1) := by decide +kernel
theorem dX0_firstInRing_86 : decode cX0_firstInRing 86 = .ok (.istore_n 2, 1) := by decide +kernel
theorem dX0_firstInRing_87 : decode cX0_firstInRing 87 = .ok (.iload_n 2, 1) := by decide +kernel
theorem dX0_firstInRing_88 : decode cX0_firstInRing 88 = .ok (.aload_n 0, 1) := by decide +kernel
theorem dX0_firstInRing_89 : decode cX0_firstInRing 89 = .ok (.getfield 17, 3) := by decide +kernel
theorem dX0_firstInRing_92 : decode cX0_firstInRing 92 = .ok (.if_icmp .ge 30, 3) := by decide +kernel
theorem dX0_firstInRing_95 : decode cX0_firstInRing 95 = .ok (.aload_n 1, 1) := by decide +kernel
theorem dX0_firstInRing_96 : decode cX0_firstInRing 96 = .ok (.iload_n 2, 1) := by decide +kernel
theorem dX0_firstInRing_97 : decode cX0_firstInRing 97 = .ok (.iaload, 1) := by decide +kernel
theorem dX0_firstInRing_98 : decode cX0_firstInRing 98 = .ok (.iload_n 2, 1) := by decide +kernel
theorem dX0_firstInRing_99 : decode cX0_firstInRing 99 = .ok (.ishr, 1) := by decide +kernel
theorem dX0_firstInRing_100 : decode cX0_firstInRing 100 = .ok (.iconst 1, 1) := by decide +kernel
theorem dX0_firstInRing_101 : decode cX0_firstInRing 101 = .ok (.iand, 1) := by decide +kernel
theorem dX0_firstInRing_102 : decode cX0_firstInRing 102 = .ok (.iconst 1, 1) := by decide +kernel
theorem dX0_firstInRing_103 : decode cX0_firstInRing 103 = .ok (.if_icmp .ne 13, 3) := by decide +kernel
theorem dX0_firstInRing_106 : decode cX0_firstInRing 106 = .ok (.aload_n 0, 1) := by decide +kernel
theorem dX0_firstInRing_107 : decode cX0_firstInRing 107 = .ok (.getfield 11, 3) := by decide +kernel
theorem dX0_firstInRing_110 : decode cX0_firstInRing 110 = .ok (.iload_n 2, 1) := by decide +kernel
theorem dX0_firstInRing_111 : decode cX0_firstInRing 111 = .ok (.aaload, 1) := by decide +kernel
theorem dX0_firstInRing_112 : decode cX0_firstInRing 112 = .ok (.getfield 71, 3) := by decide +kernel
theorem dX0_firstInRing_115 : decode cX0_firstInRing 115 = .ok (.ireturn, 1) := by decide +kernel
theorem dX0_firstInRing_116 : decode cX0_firstInRing 116 = .ok (.iinc 2 1, 3) := by decide +kernel
theorem dX0_firstInRing_119 : decode cX0_firstInRing 119 = .ok (.goto (-32), 3) := by decide +kernel
theorem dX0_firstInRing_122 : decode cX0_firstInRing 122 = .ok (.sipush 1001, 3) := by decide +kernel
theorem dX0_firstInRing_125 : decode cX0_firstInRing 125 = .ok (.ireturn, 1) := by decide +kernel
theorem dX0_measureBelow_0 : decode cX0_measureBelow 0 = .ok (.iconst 0, 1) := by decide +kernel
theorem dX0_measureBelow_1 : decode cX0_measureBelow 1 = .ok (.istore_n 1, 1) := by decide +kernel
theorem dX0_measureBelow_2 : decode cX0_measureBelow 2 = .ok (.iload_n 1, 1) := by decide +kernel
theorem dX0_measureBelow_3 : decode cX0_measureBelow 3 = .ok (.aload_n 0, 1) := by decide +kernel
theorem dX0_measureBelow_4 : decode cX0_measureBelow 4 = .ok (.getfield 17, 3) := by decide +kernel
theorem dX0_measureBelow_7 : decode cX0_measureBelow 7 = .ok (.if_icmp .ge 43, 3) := by decide +kernel
theorem dX0_measureBelow_10 : decode cX0_measureBelow 10 = .ok (.iconst 0, 1) := by decide +kernel
theorem dX0_measureBelow_11 : decode cX0_measureBelow 11 = .ok (.istore_n 2, 1) := by decide +kernel
theorem dX0_measureBelow_12 : decode cX0_measureBelow 12 = .ok (.iload_n 2, 1) := by decide +kernel
theorem dX0_measureBelow_13 : decode cX0_measureBelow 13 = .ok (.aload_n 0, 1) := by decide +kernel
theorem dX0_measureBelow_14 : decode cX0_measureBelow 14 = .ok (.getfield 17, 3) := by decide +kernel
theorem dX0_measureBelow_17 : decode cX0_measureBelow 17 = .ok (.if_icmp .ge 27, 3) := by decide +kernel
theorem dX0_measureBelow_20 : decode cX0_measureBelow 20 = .ok (.aload_n 0, 1) := by decide +kernel
theorem dX0_measureBelow_21 : decode cX0_measureBelow 21 = .ok (.getfield 11, 3) := by decide +kernel
theorem dX0_measureBelow_24 : decode cX0_measureBelow 24 = .ok (.iload_n 2, 1) := by decide +kernel
theorem dX0_measureBelow_25 : decode cX0_measureBelow 25 = .ok (.aaload, 1) := by decide +kernel
theorem dX0_measureBelow_26 : decode cX0_measureBelow 26 = .ok (.aload_n 0, 1) := by decide +kernel
theorem dX0_measureBelow_27 : decode cX0_measureBelow 27 = .ok (.getfield 11, 3) := by decide +kernel
theorem dX0_measureBelow_30 : decode cX0_measureBelow 30 = .ok (.iload_n 2, 1) := by decide +kernel
theorem dX0_measureBelow_31 : decode cX0_measureBelow 31 = .ok (.aaload, 1) := by decide +kernel
theorem dX0_measureBelow_32 : decode cX0_measureBelow 32 = .ok (.invokevirtual 74, 3) := by decide +kernel
theorem dX0_measureBelow_35 : decode cX0_measureBelow 35 = .ok (.putfield 77, 3) := by decide +kernel
theorem dX0_measureBelow_38 : decode cX0_measureBelow 38 = .ok (.iinc 2 1, 3) := by decide +kernel
theorem dX0_measureBelow_41 : decode cX0_measureBelow 41 = .ok (.goto (-29), 3) := by decide +kernel
theorem dX0_measureBelow_44 : decode cX0_measureBelow 44 = .ok (.iinc 1 1, 3) := by decide +kernel
theorem dX0_measureBelow_47 : decode cX0_measureBelow 47 = .ok (.goto (-45), 3) := by decide +kernel
theorem dX0_measureBelow_50 : decode cX0_measureBelow 50 = .ok (.return_, 1) := by decide +kernel
theorem dX1_init_0 : decode cX1_init 0 = .ok (.aload_n 0, 1) := by decide +kernel
theorem dX1_init_1 : decode cX1_init 1 = .ok (.invokespecial 3, 3) := by decide +kernel
theorem dX1_init_4 : decode cX1_init 4 = .ok (.aload_n 0, 1) := by decide +kernel
theorem dX1_init_5 : decode cX1_init 5 = .ok (.iconst 0, 1) := by decide +kernel
theorem dX1_init_6 : decode cX1_init 6 = .ok (.putfield 9, 3) := by decide +kernel
theorem dX1_init_9 : decode cX1_init 9 = .ok (.aload_n 0, 1) := by decide +kernel
theorem dX1_init_10 : decode cX1_init 10 = .ok (.bipush 16, 2) := by decide +kernel
theorem dX1_init_12 : decode cX1_init 12 = .ok (.anewarray 15, 3) := by decide +kernel
theorem dX1_init_15 : decode cX1_init 15 = .ok (.putfield 17, 3) := by decide +kernel
theorem dX1_init_18 : decode cX1_init 18 = .ok (.aload_n 0, 1) := by decide +kernel
theorem dX1_init_19 : decode cX1_init 19 = .ok (.iconst 0, 1) := by decide +kernel
theorem dX1_init_20 : decode cX1_init 20 = .ok (.putfield 21, 3) := by decide +kernel
theorem dX1_init_23 : decode cX1_init 23 = .ok (.aload_n 0, 1) := by decide +kernel
theorem dX1_init_24 : decode cX1_init 24 = .ok (.aconst_null, 1) := by decide +kernel
theorem dX1_init_25 : decode cX1_init 25 = .ok (.putfield 25, 3) := by decide +kernel
theorem dX1_init_28 : decode cX1_init 28 = .ok (.aload_n 0, 1) := by decide +kernel
theorem dX1_init_29 : decode cX1_init 29 = .ok (.lload_n 1, 1) := by decide +kernel
theorem dX1_init_30 : decode cX1_init 30 = .ok (.putfield 29, 3) := by decide +kernel
theorem dX1_init_33 : decode cX1_init 33 = .ok (.aload_n 0, 1) := by decide +kernel
theorem dX1_init_34 : decode cX1_init 34 = .ok (.lload_n 3, 1) := by decide +kernel
theorem dX1_init_35 : decode cX1_init 35 = .ok (.putfield 33, 3) := by decide +kernel
theorem dX1_init_38 : decode cX1_init 38 = .ok (.aload_n 0, 1) := by decide +kernel
theorem dX1_init_39 : decode cX1_init 39 = .ok (.iload 5, 2) := by decide +kernel
theorem dX1_init_41 : decode cX1_init 41 = .ok (.putfield 36, 3) := by decide +kernel
theorem dX1_init_44 : decode cX1_init 44 = .ok (.return_, 1) := by decide +kernel
theorem dX1_isFull_0 : decode cX1_isFull 0 = .ok (.aload_n 0, 1) := by decide +kernel
theorem dX1_isFull_1 : decode cX1_isFull 1 = .ok (.getfield 21, 3) := by decide +kernel
theorem dX1_isFull_4 : decode cX1_isFull 4 = .ok (.bipush 16, 2) := by decide +kernel
theorem dX1_isFull_6 : decode cX1_isFull 6 = .ok (.if_icmp .lt 7, 3) := by decide +kernel
theorem dX1_isFull_9 : decode cX1_isFull 9 = .ok (.iconst 1, 1) := by decide +kernel
theorem dX1_isFull_10 : decode cX1_isFull 10 = .ok (.goto 4, 3) := by decide +kernel
theorem dX1_isFull_13 : decode cX1_isFull 13 = .ok (.iconst 0, 1) := by decide +kernel
theorem dX1_isFull_14 : decode cX1_isFull 14 = .ok (.ireturn, 1) := by decide +kernel
theorem dX1_addLink_0 : decode cX1_addLink 0 = .ok (.aload_n 0, 1) := by decide +kernel
theorem dX1_addLink_1 : decode cX1_addLink 1 = .ok (.getfield 21, 3) := by decide +kernel
theorem dX1_addLink_4 : decode cX1_addLink 4 = .ok (.bipush 16, 2) := by decide +kernel
theorem dX1_addLink_6 : decode cX1_addLink 6 = .ok (.if_icmp .ge 23, 3) := by decide +kernel
theorem dX1_addLink_9 : decode cX1_addLink 9 = .ok (.aload_n 0, 1) := by decide +kernel
theorem dX1_addLink_10 : decode cX1_addLink 10 = .ok (.getfield 17, 3) := by decide +kernel
theorem dX1_addLink_13 : decode cX1_addLink 13 = .ok (.aload_n 0, 1) := by decide +kernel
theorem dX1_addLink_14 : decode cX1_addLink 14 = .ok (.getfield 21, 3) := by decide +kernel
theorem dX1_addLink_17 : decode cX1_addLink 17 = .ok (.aload_n 1, 1) := by decide +kernel
theorem dX1_addLink_18 : decode cX1_addLink 18 = .ok (.aastore, 1) := by decide +kernel
theorem dX1_addLink_19 : decode cX1_addLink 19 = .ok (.aload_n 0, 1) := by decide +kernel
theorem dX1_addLink_20 : decode cX1_addLink 20 = .ok (.dup, 1) := by decide +kernel
theorem dX1_addLink_21 : decode cX1_addLink 21 = .ok (.getfield 21, 3) := by decide +kernel
theorem dX1_addLink_24 : decode cX1_addLink 24 = .ok (.iconst 1, 1) := by decide +kernel
theorem dX1_addLink_25 : decode cX1_addLink 25 = .ok (.iadd, 1) := by decide +kernel
theorem dX1_addLink_26 : decode cX1_addLink 26 = .ok (.putfield 21, 3) := by decide +kernel
theorem dX1_addLink_29 : decode cX1_addLink 29 = .ok (.return_, 1) := by decide +kernel
theorem dX1_linkTo_0 : decode cX1_linkTo 0 = .ok (.iconst 0, 1) := by decide +kernel
theorem dX1_linkTo_1 : decode cX1_linkTo 1 = .ok (.istore_n 3, 1) := by decide +kernel
theorem dX1_linkTo_2 : decode cX1_linkTo 2 = .ok (.iload_n 3, 1) := by decide +kernel
theorem dX1_linkTo_3 : decode cX1_linkTo 3 = .ok (.aload_n 0, 1) := by decide +kernel
theorem dX1_linkTo_4 : decode cX1_linkTo 4 = .ok (.getfield 21, 3) := by decide +kernel
theorem dX1_linkTo_7 : decode cX1_linkTo 7 = .ok (.if_icmp .ge 30, 3) := by decide +kernel
theorem dX1_linkTo_10 : decode cX1_linkTo 10 = .ok (.aload_n 0, 1) := by decide +kernel
theorem dX1_linkTo_11 : decode cX1_linkTo 11 = .ok (.getfield 17, 3) := by decide +kernel
theorem dX1_linkTo_14 : decode cX1_linkTo 14 = .ok (.iload_n 3, 1) := by decide +kernel
theorem dX1_linkTo_15 : decode cX1_linkTo 15 = .ok (.aaload, 1) := by decide +kernel
theorem dX1_linkTo_16 : decode cX1_linkTo 16 = .ok (.getfield 39, 3) := by decide +kernel
theorem dX1_linkTo_19 : decode cX1_linkTo 19 = .ok (.lload_n 1, 1) := by decide +kernel
theorem dX1_linkTo_20 : decode cX1_linkTo 20 = .ok (.lcmp, 1) := by decide +kernel
theorem dX1_linkTo_21 : decode cX1_linkTo 21 = .ok (.ifCond .ne 10, 3) := by decide +kernel
theorem dX1_linkTo_24 : decode cX1_linkTo 24 = .ok (.aload_n 0, 1) := by decide +kernel
theorem dX1_linkTo_25 : decode cX1_linkTo 25 = .ok (.getfield 17, 3) := by decide +kernel
theorem dX1_linkTo_28 : decode cX1_linkTo 28 = .ok (.iload_n 3, 1) := by decide +kernel
theorem dX1_linkTo_29 : decode cX1_linkTo 29 = .ok (.aaload, 1) := by decide +kernel
theorem dX1_linkTo_30 : decode cX1_linkTo 30 = .ok (.areturn, 1) := by decide +kernel
theorem dX1_linkTo_31 : decode cX1_linkTo 31 = .ok (.iinc 3 1, 3) := by decide +kernel
theorem dX1_linkTo_34 : decode cX1_linkTo 34 = .ok (.goto (-32), 3) := by decide +kernel
theorem dX1_linkTo_37 : decode cX1_linkTo 37 = .ok (.aconst_null, 1) := by decide +kernel
theorem dX1_linkTo_38 : decode cX1_linkTo 38 = .ok (.areturn, 1) := by decide +kernel
theorem dX1_pinCount_0 : decode cX1_pinCount 0 = .ok (.aload_n 0, 1) := by decide +kernel
theorem dX1_pinCount_1 : decode cX1_pinCount 1 = .ok (.getfield 25, 3) := by decide +kernel
theorem dX1_pinCount_4 : decode cX1_pinCount 4 = .ok (.ifnonnull 10, 3) := by decide +kernel
theorem dX1_pinCount_7 : decode cX1_pinCount 7 = .ok (.aload_n 0, 1) := by decide +kernel
theorem dX1_pinCount_8 : decode cX1_pinCount 8 = .ok (.getfield 21, 3) := by decide +kernel
theorem dX1_pinCount_11 : decode cX1_pinCount 11 = .ok (.goto 10, 3) := by decide +kernel
theorem dX1_pinCount_14 : decode cX1_pinCount 14 = .ok (.aload_n 0, 1) := by decide +kernel
theorem dX1_pinCount_15 : decode cX1_pinCount 15 = .ok (.getfield 25, 3) := by decide +kernel
theorem dX1_pinCount_18 : decode cX1_pinCount 18 = .ok (.getfield 42, 3) := by decide +kernel
theorem dX1_pinCount_21 : decode cX1_pinCount 21 = .ok (.ireturn, 1) := by decide +kernel
theorem dX1_pinName_0 : decode cX1_pinName 0 = .ok (.aload_n 0, 1) := by decide +kernel
theorem dX1_pinName_1 : decode cX1_pinName 1 = .ok (.getfield 25, 3) := by decide +kernel
theorem dX1_pinName_4 : decode cX1_pinName 4 = .ok (.ifnonnull 15, 3) := by decide +kernel
theorem dX1_pinName_7 : decode cX1_pinName 7 = .ok (.aload_n 0, 1) := by decide +kernel
theorem dX1_pinName_8 : decode cX1_pinName 8 = .ok (.getfield 17, 3) := by decide +kernel
theorem dX1_pinName_11 : decode cX1_pinName 11 = .ok (.iload_n 1, 1) := by decide +kernel
theorem dX1_pinName_12 : decode cX1_pinName 12 = .ok (.aaload, 1) := by decide +kernel
theorem dX1_pinName_13 : decode cX1_pinName 13 = .ok (.getfield 39, 3) := by decide +kernel
theorem dX1_pinName_16 : decode cX1_pinName 16 = .ok (.goto 15, 3) := by decide +kernel
theorem dX1_pinName_19 : decode cX1_pinName 19 = .ok (.aload_n 0, 1) := by decide +kernel
theorem dX1_pinName_20 : decode cX1_pinName 20 = .ok (.getfield 25, 3) := by decide +kernel
theorem dX1_pinName_23 : decode cX1_pinName 23 = .ok (.getfield 47, 3) := by decide +kernel
theorem dX1_pinName_26 : decode cX1_pinName 26 = .ok (.iload_n 1, 1) := by decide +kernel
theorem dX1_pinName_27 : decode cX1_pinName 27 = .ok (.aaload, 1) := by decide +kernel
theorem dX1_pinName_28 : decode cX1_pinName 28 = .ok (.getfield 51, 3) := by decide +kernel
theorem dX1_pinName_31 : decode cX1_pinName 31 = .ok (.lreturn, 1) := by decide +kernel
theorem dX1_pinWidth_0 : decode cX1_pinWidth 0 = .ok (.aload_n 0, 1) := by decide +kernel
theorem dX1_pinWidth_1 : decode cX1_pinWidth 1 = .ok (.getfield 25, 3) := by decide +kernel
theorem dX1_pinWidth_4 : decode cX1_pinWidth 4 = .ok (.ifnull 16, 3) := by decide +kernel
theorem dX1_pinWidth_7 : decode cX1_pinWidth 7 = .ok (.aload_n 0, 1) := by decide +kernel
theorem dX1_pinWidth_8 : decode cX1_pinWidth 8 = .ok (.getfield 25, 3) := by decide +kernel
theorem dX1_pinWidth_11 : decode cX1_pinWidth 11 = .ok (.getfield 47, 3) := by decide +kernel
theorem dX1_pinWidth_14 : decode cX1_pinWidth 14 = .ok (.iload_n 1, 1) := by decide +kernel
theorem dX1_pinWidth_15 : decode cX1_pinWidth 15 = .ok (.aaload, 1) := by decide +kernel
theorem dX1_pinWidth_16 : decode cX1_pinWidth 16 = .ok (.getfield 54, 3) := by decide +kernel
theorem dX1_pinWidth_19 : decode cX1_pinWidth 19 = .ok (.ireturn, 1) := by decide +kernel
theorem dX1_pinWidth_20 : decode cX1_pinWidth 20 = .ok (.aload_n 0, 1) := by decide +kernel
theorem dX1_pinWidth_21 : decode cX1_pinWidth 21 = .ok (.getfield 17, 3) := by decide +kernel
theorem dX1_pinWidth_24 : decode cX1_pinWidth 24 = .ok (.iload_n 1, 1) := by decide +kernel
theorem dX1_pinWidth_25 : decode cX1_pinWidth 25 = .ok (.aaload, 1) := by decide +kernel
theorem dX1_pinWidth_26 : decode cX1_pinWidth 26 = .ok (.getfield 57, 3) := by decide +kernel
theorem dX1_pinWidth_29 : decode cX1_pinWidth 29 = .ok (.ifnonnull 7, 3) := by decide +kernel
theorem dX1_pinWidth_32 : decode cX1_pinWidth 32 = .ok (.iconst 1, 1) := by decide +kernel
theorem dX1_pinWidth_33 : decode cX1_pinWidth 33 = .ok (.goto 15, 3) := by decide +kernel
theorem dX1_pinWidth_36 : decode cX1_pinWidth 36 = .ok (.aload_n 0, 1) := by decide +kernel
theorem dX1_pinWidth_37 : decode cX1_pinWidth 37 = .ok (.getfield 17, 3) := by decide +kernel
theorem dX1_pinWidth_40 : decode cX1_pinWidth 40 = .ok (.iload_n 1, 1) := by decide +kernel
theorem dX1_pinWidth_41 : decode cX1_pinWidth 41 = .ok (.aaload, 1) := by decide +kernel
theorem dX1_pinWidth_42 : decode cX1_pinWidth 42 = .ok (.getfield 57, 3) := by decide +kernel
theorem dX1_pinWidth_45 : decode cX1_pinWidth 45 = .ok (.invokevirtual 61, 3) := by decide +kernel
theorem dX1_pinWidth_48 : decode cX1_pinWidth 48 = .ok (.ireturn, 1) := by decide +kernel
theorem dX1_partAt_0 : decode cX1_partAt 0 = .ok (.aload_n 0, 1) := by decide +kernel
theorem dX1_partAt_1 : decode cX1_partAt 1 = .ok (.getfield 25, 3) := by decide +kernel
theorem dX1_partAt_4 : decode cX1_partAt 4 = .ok (.ifnull 29, 3) := by decide +kernel
theorem dX1_partAt_7 : decode cX1_partAt 7 = .ok (.aload_n 0, 1) := by decide +kernel
theorem dX1_partAt_8 : decode cX1_partAt 8 = .ok (.getfield 9, 3) := by decide +kernel
theorem dX1_partAt_11 : decode cX1_partAt 11 = .ok (.ifCond .eq 22, 3) := by decide +kernel
theorem dX1_partAt_14 : decode cX1_partAt 14 = .ok (.aload_n 0, 1) := by decide +kernel
theorem dX1_partAt_15 : decode cX1_partAt 15 = .ok (.aload_n 0, 1) := by decide +kernel
theorem dX1_partAt_16 : decode cX1_partAt 16 = .ok (.getfield 25, 3) := by decide +kernel
theorem dX1_partAt_19 : decode cX1_partAt 19 = .ok (.getfield 47, 3) := by decide +kernel
theorem dX1_partAt_22 : decode cX1_partAt 22 = .ok (.iload_n 1, 1) := by decide +kernel
theorem dX1_partAt_23 : decode cX1_partAt 23 = .ok (.aaload, 1) := by decide +kernel
theorem dX1_partAt_24 : decode cX1_partAt 24 = .ok (.getfield 51, 3) := by decide +kernel
theorem dX1_partAt_27 : decode cX1_partAt 27 = .ok (.invokevirtual 66, 3) := by decide +kernel
theorem dX1_partAt_30 : decode cX1_partAt 30 = .ok (.goto 9, 3) := by decide +kernel
theorem dX1_partAt_33 : decode cX1_partAt 33 = .ok (.aload_n 0, 1) := by decide +kernel
theorem dX1_partAt_34 : decode cX1_partAt 34 = .ok (.getfield 17, 3) := by decide +kernel
theorem dX1_partAt_37 : decode cX1_partAt 37 = .ok (.iload_n 1, 1) := by decide +kernel
theorem dX1_partAt_38 : decode cX1_partAt 38 = .ok (.aaload, 1) := by decide +kernel
theorem dX1_partAt_39 : decode cX1_partAt 39 = .ok (.astore_n 2, 1) := by decide +kernel
theorem dX1_partAt_40 : decode cX1_partAt 40 = .ok (.aload_n 2, 1) := by decide +kernel
theorem dX1_partAt_41 : decode cX1_partAt 41 = .ok (.ifnonnull 7, 3) := by decide +kernel
theorem dX1_partAt_44 : decode cX1_partAt 44 = .ok (.aconst_null, 1) := by decide +kernel
theorem dX1_partAt_45 : decode cX1_partAt 45 = .ok (.goto 7, 3) := by decide +kernel
theorem dX1_partAt_48 : decode cX1_partAt 48 = .ok (.aload_n 2, 1) := by decide +kernel
theorem dX1_partAt_49 : decode cX1_partAt 49 = .ok (.getfield 57, 3) := by decide +kernel
theorem dX1_partAt_52 : decode cX1_partAt 52 = .ok (.areturn, 1) := by decide +kernel
theorem dX1_misfit_0 : decode cX1_misfit 0 = .ok (.aload_n 0, 1) := by decide +kernel
theorem dX1_misfit_1 : decode cX1_misfit 1 = .ok (.getfield 25, 3) := by decide +kernel
theorem dX1_misfit_4 : decode cX1_misfit 4 = .ok (.ifnonnull 7, 3) := by decide +kernel
theorem dX1_misfit_7 : decode cX1_misfit 7 = .ok (.sipush 1001, 3) := by decide +kernel
theorem dX1_misfit_10 : decode cX1_misfit 10 = .ok (.ireturn, 1) := by decide +kernel
theorem dX1_misfit_11 : decode cX1_misfit 11 = .ok (.aload_n 0, 1) := by decide +kernel
theorem dX1_misfit_12 : decode cX1_misfit 12 = .ok (.getfield 9, 3) := by decide +kernel
theorem dX1_misfit_15 : decode cX1_misfit 15 = .ok (.ifCond .ne 22, 3) := by decide +kernel
theorem dX1_misfit_18 : decode cX1_misfit 18 = .ok (.aload_n 0, 1) := by decide +kernel
theorem dX1_misfit_19 : decode cX1_misfit 19 = .ok (.getfield 21, 3) := by decide +kernel
theorem dX1_misfit_22 : decode cX1_misfit 22 = .ok (.aload_n 0, 1) := by decide +kernel
theorem dX1_misfit_23 : decode cX1_misfit 23 = .ok (.getfield 25, 3) := by decide +kernel
theorem dX1_misfit_26 : decode cX1_misfit 26 = .ok (.getfield 42, 3) := by decide +kernel
theorem dX1_misfit_29 : decode cX1_misfit 29 = .ok (.if_icmp .ge 8, 3) := by decide +kernel
theorem dX1_misfit_32 : decode cX1_misfit 32 = .ok (.aload_n 0, 1) := by decide +kernel
theorem dX1_misfit_33 : decode cX1_misfit 33 = .ok (.getfield 36, 3) := by decide +kernel
theorem dX1_misfit_36 : decode cX1_misfit 36 = .ok (.ireturn, 1) := by decide +kernel
theorem dX1_misfit_37 : decode cX1_misfit 37 = .ok (.iconst 0, 1) := by decide +kernel
theorem dX1_misfit_38 : decode cX1_misfit 38 = .ok (.istore_n 1, 1) := by decide +kernel
theorem dX1_misfit_39 : decode cX1_misfit 39 = .ok (.iload_n 1, 1) := by decide +kernel
theorem dX1_misfit_40 : decode cX1_misfit 40 = .ok (.aload_n 0, 1) := by decide +kernel
theorem dX1_misfit_41 : decode cX1_misfit 41 = .ok (.getfield 21, 3) := by decide +kernel
theorem dX1_misfit_44 : decode cX1_misfit 44 = .ok (.if_icmp .ge 91, 3) := by decide +kernel
theorem dX1_misfit_47 : decode cX1_misfit 47 = .ok (.aload_n 0, 1) := by decide +kernel
theorem dX1_misfit_48 : decode cX1_misfit 48 = .ok (.getfield 17, 3) := by decide +kernel
theorem dX1_misfit_51 : decode cX1_misfit 51 = .ok (.iload_n 1, 1) := by decide +kernel
theorem dX1_misfit_52 : decode cX1_misfit 52 = .ok (.aaload, 1) := by decide +kernel
theorem dX1_misfit_53 : decode cX1_misfit 53 = .ok (.astore_n 2, 1) := by decide +kernel
theorem dX1_misfit_54 : decode cX1_misfit 54 = .ok (.aload_n 0, 1) := by decide +kernel
theorem dX1_misfit_55 : decode cX1_misfit 55 = .ok (.getfield 9, 3) := by decide +kernel
theorem dX1_misfit_58 : decode cX1_misfit 58 = .ok (.ifCond .eq 24, 3) := by decide +kernel
theorem dX1_misfit_61 : decode cX1_misfit 61 = .ok (.aload_n 0, 1) := by decide +kernel
theorem dX1_misfit_62 : decode cX1_misfit 62 = .ok (.getfield 25, 3) := by decide +kernel
theorem dX1_misfit_65 : decode cX1_misfit 65 = .ok (.aload_n 0, 1) := by decide +kernel
theorem dX1_misfit_66 : decode cX1_misfit 66 = .ok (.getfield 25, 3) := by decide +kernel
theorem dX1_misfit_69 : decode cX1_misfit 69 = .ok (.getfield 42, 3) := by decide +kernel
theorem dX1_misfit_72 : decode cX1_misfit 72 = .ok (.aload_n 2, 1) := by decide +kernel
theorem dX1_misfit_73 : decode cX1_misfit 73 = .ok (.getfield 39, 3) := by decide +kernel
theorem dX1_misfit_76 : decode cX1_misfit 76 = .ok (.invokevirtual 70, 3) := by decide +kernel
theorem dX1_misfit_79 : decode cX1_misfit 79 = .ok (.goto 11, 3) := by decide +kernel
theorem dX1_misfit_82 : decode cX1_misfit 82 = .ok (.aload_n 0, 1) := by decide +kernel
theorem dX1_misfit_83 : decode cX1_misfit 83 = .ok (.getfield 25, 3) := by decide +kernel
theorem dX1_misfit_86 : decode cX1_misfit 86 = .ok (.iload_n 1, 1) := by decide +kernel
theorem dX1_misfit_87 : decode cX1_misfit 87 = .ok (.invokevirtual 74, 3) := by decide +kernel
theorem dX1_misfit_90 : decode cX1_misfit 90 = .ok (.astore_n 3, 1) := by decide +kernel
theorem dX1_misfit_91 : decode cX1_misfit 91 = .ok (.aload_n 3, 1) := by decide +kernel
theorem dX1_misfit_92 : decode cX1_misfit 92 = .ok (.ifnonnull 8, 3) := by decide +kernel
theorem dX1_misfit_95 : decode cX1_misfit 95 = .ok (.aload_n 2, 1) := by decide +kernel
theorem dX1_misfit_96 : decode cX1_misfit 96 = .ok (.getfield 78, 3) := by decide +kernel
theorem dX1_misfit_99 : decode cX1_misfit 99 = .ok (.ireturn, 1) := by decide +kernel
theorem dX1_misfit_100 : decode cX1_misfit 100 = .ok (.aload_n 2, 1) := by decide +kernel
theorem dX1_misfit_101 : decode cX1_misfit 101 = .ok (.getfield 57, 3) := by decide +kernel
theorem dX1_misfit_104 : decode cX1_misfit 104 = .ok (.ifnull 25, 3) := by decide +kernel
theorem dX1_misfit_107 : decode cX1_misfit 107 = .ok (.aload_n 2, 1) := by decide +kernel
theorem dX1_misfit_108 : decode cX1_misfit 108 = .ok (.getfield 57, 3) := by decide +kernel
theorem dX1_misfit_111 : decode cX1_misfit 111 = .ok (.invokevirtual 61, 3) := by decide +kernel
theorem dX1_misfit_114 : decode cX1_misfit 114 = .ok (.aload_n 3, 1) := by decide +kernel
theorem dX1_misfit_115 : decode cX1_misfit 115 = .ok (.getfield 54, 3) := by decide +kernel
theorem dX1_misfit_118 : decode cX1_misfit 118 = .ok (.if_icmp .eq 11, 3) := by decide +kernel
theorem dX1_misfit_121 : decode cX1_misfit 121 = .ok (.aload_n 2, 1) := by decide +kernel
theorem dX1_misfit_122 : decode cX1_misfit 122 = .ok (.getfield 57, 3) := by decide +kernel
theorem dX1_misfit_125 : decode cX1_misfit 125 = .ok (.getfield 79, 3) := by decide +kernel
theorem dX1_misfit_128 : decode cX1_misfit 128 = .ok (.ireturn, 1) := by decide +kernel
theorem dX1_misfit_129 : decode cX1_misfit 129 = .ok (.iinc 1 1, 3) := by decide +kernel
theorem dX1_misfit_132 : decode cX1_misfit 132 = .ok (.goto (-93), 3) := by decide +kernel
theorem dX1_misfit_135 : decode cX1_misfit 135 = .ok (.sipush 1001, 3) := by decide +kernel
theorem dX1_misfit_138 : decode cX1_misfit 138 = .ok (.ireturn, 1) := by decide +kernel
theorem dX2_init_0 : decode cX2_init 0 = .ok (.aload_n 0, 1) := by decide +kernel
theorem dX2_init_1 : decode cX2_init 1 = .ok (.invokespecial 1, 3) := by decide +kernel
theorem dX2_init_4 : decode cX2_init 4 = .ok (.aload_n 0, 1) := by decide +kernel
theorem dX2_init_5 : decode cX2_init 5 = .ok (.lload_n 1, 1) := by decide +kernel
theorem dX2_init_6 : decode cX2_init 6 = .ok (.putfield 7, 3) := by decide +kernel
theorem dX2_init_9 : decode cX2_init 9 = .ok (.aload_n 0, 1) := by decide +kernel
theorem dX2_init_10 : decode cX2_init 10 = .ok (.iload_n 3, 1) := by decide +kernel
theorem dX2_init_11 : decode cX2_init 11 = .ok (.putfield 13, 3) := by decide +kernel
theorem dX2_init_14 : decode cX2_init 14 = .ok (.aload_n 0, 1) := by decide +kernel
theorem dX2_init_15 : decode cX2_init 15 = .ok (.aload 4, 2) := by decide +kernel
theorem dX2_init_17 : decode cX2_init 17 = .ok (.putfield 17, 3) := by decide +kernel
theorem dX2_init_20 : decode cX2_init 20 = .ok (.return_, 1) := by decide +kernel
theorem dX3_init_0 : decode cX3_init 0 = .ok (.aload_n 0, 1) := by decide +kernel
theorem dX3_init_1 : decode cX3_init 1 = .ok (.aload_n 1, 1) := by decide +kernel
theorem dX3_init_2 : decode cX3_init 2 = .ok (.invokespecial 3, 3) := by decide +kernel
theorem dX3_init_5 : decode cX3_init 5 = .ok (.return_, 1) := by decide +kernel
theorem dX3_readPiece_0 : decode cX3_readPiece 0 = .ok (.aload_n 0, 1) := by decide +kernel
theorem dX3_readPiece_1 : decode cX3_readPiece 1 = .ok (.getfield 9, 3) := by decide +kernel
theorem dX3_readPiece_4 : decode cX3_readPiece 4 = .ok (.ifnonnull 10, 3) := by decide +kernel
theorem dX3_readPiece_7 : decode cX3_readPiece 7 = .ok (.aload_n 0, 1) := by decide +kernel
theorem dX3_readPiece_8 : decode cX3_readPiece 8 = .ok (.invokevirtual 15, 3) := by decide +kernel
theorem dX3_readPiece_11 : decode cX3_readPiece 11 = .ok (.goto 127, 3) := by decide +kernel
theorem dX3_readPiece_14 : decode cX3_readPiece 14 = .ok (.aload_n 0, 1) := by decide +kernel
theorem dX3_readPiece_15 : decode cX3_readPiece 15 = .ok (.getfield 19, 3) := by decide +kernel
theorem dX3_readPiece_18 : decode cX3_readPiece 18 = .ok (.ldc 23, 2) := by decide +kernel
theorem dX3_readPiece_20 : decode cX3_readPiece 20 = .ok (.invokevirtual 25, 3) := by decide +kernel
theorem dX3_readPiece_23 : decode cX3_readPiece 23 = .ok (.ifCond .eq 11, 3) := by decide +kernel
theorem dX3_readPiece_26 : decode cX3_readPiece 26 = .ok (.aload_n 0, 1) := by decide +kernel
theorem dX3_readPiece_27 : decode cX3_readPiece 27 = .ok (.iconst 0, 1) := by decide +kernel
theorem dX3_readPiece_28 : decode cX3_readPiece 28 = .ok (.invokevirtual 33, 3) := by decide +kernel
theorem dX3_readPiece_31 : decode cX3_readPiece 31 = .ok (.goto 107, 3) := by decide +kernel
theorem dX3_readPiece_34 : decode cX3_readPiece 34 = .ok (.aload_n 0, 1) := by decide +kernel
theorem dX3_readPiece_35 : decode cX3_readPiece 35 = .ok (.getfield 19, 3) := by decide +kernel
theorem dX3_readPiece_38 : decode cX3_readPiece 38 = .ok (.ldc 37, 2) := by decide +kernel
theorem dX3_readPiece_40 : decode cX3_readPiece 40 = .ok (.invokevirtual 25, 3) := by decide +kernel
theorem dX3_readPiece_43 : decode cX3_readPiece 43 = .ok (.ifCond .eq 11, 3) := by decide +kernel
theorem dX3_readPiece_46 : decode cX3_readPiece 46 = .ok (.aload_n 0, 1) := by decide +kernel
theorem dX3_readPiece_47 : decode cX3_readPiece 47 = .ok (.iconst 1, 1) := by decide +kernel
theorem dX3_readPiece_48 : decode cX3_readPiece 48 = .ok (.invokevirtual 33, 3) := by decide +kernel
theorem dX3_readPiece_51 : decode cX3_readPiece 51 = .ok (.goto 87, 3) := by decide +kernel
theorem dX3_readPiece_54 : decode cX3_readPiece 54 = .ok (.aload_n 0, 1) := by decide +kernel
theorem dX3_readPiece_55 : decode cX3_readPiece 55 = .ok (.getfield 19, 3) := by decide +kernel
theorem dX3_readPiece_58 : decode cX3_readPiece 58 = .ok (.ldc 39, 2) := by decide +kernel
theorem dX3_readPiece_60 : decode cX3_readPiece 60 = .ok (.invokevirtual 25, 3) := by decide +kernel
theorem dX3_readPiece_63 : decode cX3_readPiece 63 = .ok (.ifCond .eq 11, 3) := by decide +kernel
theorem dX3_readPiece_66 : decode cX3_readPiece 66 = .ok (.aload_n 0, 1) := by decide +kernel
theorem dX3_readPiece_67 : decode cX3_readPiece 67 = .ok (.iconst 2, 1) := by decide +kernel
theorem dX3_readPiece_68 : decode cX3_readPiece 68 = .ok (.invokevirtual 33, 3) := by decide +kernel
theorem dX3_readPiece_71 : decode cX3_readPiece 71 = .ok (.goto 67, 3) := by decide +kernel
theorem dX3_readPiece_74 : decode cX3_readPiece 74 = .ok (.aload_n 0, 1) := by decide +kernel
theorem dX3_readPiece_75 : decode cX3_readPiece 75 = .ok (.getfield 19, 3) := by decide +kernel
theorem dX3_readPiece_78 : decode cX3_readPiece 78 = .ok (.ldc 41, 2) := by decide +kernel
theorem dX3_readPiece_80 : decode cX3_readPiece 80 = .ok (.invokevirtual 25, 3) := by decide +kernel
theorem dX3_readPiece_83 : decode cX3_readPiece 83 = .ok (.ifCond .eq 11, 3) := by decide +kernel
theorem dX3_readPiece_86 : decode cX3_readPiece 86 = .ok (.aload_n 0, 1) := by decide +kernel
theorem dX3_readPiece_87 : decode cX3_readPiece 87 = .ok (.iconst 1, 1) := by decide +kernel
theorem dX3_readPiece_88 : decode cX3_readPiece 88 = .ok (.invokevirtual 43, 3) := by decide +kernel
theorem dX3_readPiece_91 : decode cX3_readPiece 91 = .ok (.goto 47, 3) := by decide +kernel
theorem dX3_readPiece_94 : decode cX3_readPiece 94 = .ok (.aload_n 0, 1) := by decide +kernel
theorem dX3_readPiece_95 : decode cX3_readPiece 95 = .ok (.getfield 19, 3) := by decide +kernel
theorem dX3_readPiece_98 : decode cX3_readPiece 98 = .ok (.ldc 47, 2) := by decide +kernel
theorem dX3_readPiece_100 : decode cX3_readPiece 100 = .ok (.invokevirtual 25, 3) := by decide +kernel
theorem dX3_readPiece_103 : decode cX3_readPiece 103 = .ok (.ifCond .eq 31, 3) := by decide +kernel
theorem dX3_readPiece_106 : decode cX3_readPiece 106 = .ok (.aload_n 0, 1) := by decide +kernel
theorem dX3_readPiece_107 : decode cX3_readPiece 107 = .ok (.getfield 19, 3) := by decide +kernel
theorem dX3_readPiece_110 : decode cX3_readPiece 110 = .ok (.aload_n 0, 1) := by decide +kernel
theorem dX3_readPiece_111 : decode cX3_readPiece 111 = .ok (.getfield 9, 3) := by decide +kernel
theorem dX3_readPiece_114 : decode cX3_readPiece 114 = .ok (.invokevirtual 49, 3) := by decide +kernel
theorem dX3_readPiece_117 : decode cX3_readPiece 117 = .ok (.invokevirtual 55, 3) := by decide +kernel
theorem dX3_readPiece_120 : decode cX3_readPiece 120 = .ok (.aload_n 0, 1) := by decide +kernel
theorem dX3_readPiece_121 : decode cX3_readPiece 121 = .ok (.getfield 19, 3) := by decide +kernel
theorem dX3_readPiece_124 : decode cX3_readPiece 124 = .ok (.invokevirtual 58, 3) := by decide +kernel
theorem dX3_readPiece_127 : decode cX3_readPiece 127 = .ok (.aload_n 0, 1) := by decide +kernel
theorem dX3_readPiece_128 : decode cX3_readPiece 128 = .ok (.invokevirtual 61, 3) := by decide +kernel
theorem dX3_readPiece_131 : decode cX3_readPiece 131 = .ok (.goto 7, 3) := by decide +kernel
theorem dX3_readPiece_134 : decode cX3_readPiece 134 = .ok (.aload_n 0, 1) := by decide +kernel
theorem dX3_readPiece_135 : decode cX3_readPiece 135 = .ok (.invokevirtual 64, 3) := by decide +kernel
theorem dX3_readPiece_138 : decode cX3_readPiece 138 = .ok (.return_, 1) := by decide +kernel
theorem dX3_readHead_0 : decode cX3_readHead 0 = .ok (.aload_n 0, 1) := by decide +kernel
theorem dX3_readHead_1 : decode cX3_readHead 1 = .ok (.getfield 19, 3) := by decide +kernel
theorem dX3_readHead_4 : decode cX3_readHead 4 = .ok (.ldc 67, 2) := by decide +kernel
theorem dX3_readHead_6 : decode cX3_readHead 6 = .ok (.invokevirtual 69, 3) := by decide +kernel
theorem dX3_readHead_9 : decode cX3_readHead 9 = .ok (.aload_n 0, 1) := by decide +kernel
theorem dX3_readHead_10 : decode cX3_readHead 10 = .ok (.invokevirtual 73, 3) := by decide +kernel
theorem dX3_readHead_13 : decode cX3_readHead 13 = .ok (.aload_n 0, 1) := by decide +kernel
theorem dX3_readHead_14 : decode cX3_readHead 14 = .ok (.getfield 19, 3) := by decide +kernel
theorem dX3_readHead_17 : decode cX3_readHead 17 = .ok (.bipush 40, 2) := by decide +kernel
theorem dX3_readHead_19 : decode cX3_readHead 19 = .ok (.invokevirtual 76, 3) := by decide +kernel
theorem dX3_readHead_22 : decode cX3_readHead 22 = .ok (.aload_n 0, 1) := by decide +kernel
theorem dX3_readHead_23 : decode cX3_readHead 23 = .ok (.getfield 19, 3) := by decide +kernel
theorem dX3_readHead_26 : decode cX3_readHead 26 = .ok (.bipush 41, 2) := by decide +kernel
theorem dX3_readHead_28 : decode cX3_readHead 28 = .ok (.invokevirtual 80, 3) := by decide +kernel
theorem dX3_readHead_31 : decode cX3_readHead 31 = .ok (.ifCond .ne 7, 3) := by decide +kernel
theorem dX3_readHead_34 : decode cX3_readHead 34 = .ok (.iconst 1, 1) := by decide +kernel
theorem dX3_readHead_35 : decode cX3_readHead 35 = .ok (.goto 4, 3) := by decide +kernel
theorem dX3_readHead_38 : decode cX3_readHead 38 = .ok (.iconst 0, 1) := by decide +kernel
theorem dX3_readHead_39 : decode cX3_readHead 39 = .ok (.istore_n 1, 1) := by decide +kernel
theorem dX3_readHead_40 : decode cX3_readHead 40 = .ok (.iconst 0, 1) := by decide +kernel
theorem dX3_readHead_41 : decode cX3_readHead 41 = .ok (.istore_n 2, 1) := by decide +kernel
theorem dX3_readHead_42 : decode cX3_readHead 42 = .ok (.iload_n 1, 1) := by decide +kernel
theorem dX3_readHead_43 : decode cX3_readHead 43 = .ok (.ifCond .eq 80, 3) := by decide +kernel
theorem dX3_readHead_46 : decode cX3_readHead 46 = .ok (.iload_n 2, 1) := by decide +kernel
theorem dX3_readHead_47 : decode cX3_readHead 47 = .ok (.bipush 16, 2) := by decide +kernel
theorem dX3_readHead_49 : decode cX3_readHead 49 = .ok (.if_icmp .gt 74, 3) := by decide +kernel
theorem dX3_readHead_52 : decode cX3_readHead 52 = .ok (.aload_n 0, 1) := by decide +kernel
theorem dX3_readHead_53 : decode cX3_readHead 53 = .ok (.getfield 19, 3) := by decide +kernel
theorem dX3_readHead_56 : decode cX3_readHead 56 = .ok (.invokevirtual 84, 3) := by decide +kernel
theorem dX3_readHead_59 : decode cX3_readHead 59 = .ok (.lstore_n 3, 1) := by decide +kernel
theorem dX3_readHead_60 : decode cX3_readHead 60 = .ok (.aload_n 0, 1) := by decide +kernel
theorem dX3_readHead_61 : decode cX3_readHead 61 = .ok (.getfield 19, 3) := by decide +kernel
theorem dX3_readHead_64 : decode cX3_readHead 64 = .ok (.aload_n 0, 1) := by decide +kernel
theorem dX3_readHead_65 : decode cX3_readHead 65 = .ok (.getfield 9, 3) := by decide +kernel
theorem dX3_readHead_68 : decode cX3_readHead 68 = .ok (.lload_n 3, 1) := by decide +kernel
theorem dX3_readHead_69 : decode cX3_readHead 69 = .ok (.invokevirtual 88, 3) := by decide +kernel
theorem dX3_readHead_72 : decode cX3_readHead 72 = .ok (.ifCond .ne 7, 3) := by decide +kernel
theorem dX3_readHead_75 : decode cX3_readHead 75 = .ok (.iconst 1, 1) := by decide +kernel
theorem dX3_readHead_76 : decode cX3_readHead 76 = .ok (.goto 4, 3) := by decide +kernel
theorem dX3_readHead_79 : decode cX3_readHead 79 = .ok (.iconst 0, 1) := by decide +kernel
theorem dX3_readHead_80 : decode cX3_readHead 80 = .ok (.invokevirtual 55, 3) := by decide +kernel
theorem dX3_readHead_83 : decode cX3_readHead 83 = .ok (.aload_n 0, 1) := by decide +kernel
theorem dX3_readHead_84 : decode cX3_readHead 84 = .ok (.getfield 9, 3) := by decide +kernel
theorem dX3_readHead_87 : decode cX3_readHead 87 = .ok (.new 31, 3) := by decide +kernel
theorem dX3_readHead_90 : decode cX3_readHead 90 = .ok (.dup, 1) := by decide +kernel
theorem dX3_readHead_91 : decode cX3_readHead 91 = .ok (.lload_n 3, 1) := by decide +kernel
theorem dX3_readHead_92 : decode cX3_readHead 92 = .ok (.iconst (-1), 1) := by decide +kernel
theorem dX3_readHead_93 : decode cX3_readHead 93 = .ok (.iconst 0, 1) := by decide +kernel
theorem dX3_readHead_94 : decode cX3_readHead 94 = .ok (.invokespecial 92, 3) := by decide +kernel
theorem dX3_readHead_97 : decode cX3_readHead 97 = .ok (.invokevirtual 95, 3) := by decide +kernel
theorem dX3_readHead_100 : decode cX3_readHead 100 = .ok (.aload_n 0, 1) := by decide +kernel
theorem dX3_readHead_101 : decode cX3_readHead 101 = .ok (.getfield 19, 3) := by decide +kernel
theorem dX3_readHead_104 : decode cX3_readHead 104 = .ok (.invokevirtual 58, 3) := by decide +kernel
theorem dX3_readHead_107 : decode cX3_readHead 107 = .ok (.aload_n 0, 1) := by decide +kernel
theorem dX3_readHead_108 : decode cX3_readHead 108 = .ok (.getfield 19, 3) := by decide +kernel
theorem dX3_readHead_111 : decode cX3_readHead 111 = .ok (.bipush 44, 2) := by decide +kernel
theorem dX3_readHead_113 : decode cX3_readHead 113 = .ok (.invokevirtual 99, 3) := by decide +kernel
theorem dX3_readHead_116 : decode cX3_readHead 116 = .ok (.istore_n 1, 1) := by decide +kernel
theorem dX3_readHead_117 : decode cX3_readHead 117 = .ok (.iinc 2 1, 3) := by decide +kernel
theorem dX3_readHead_120 : decode cX3_readHead 120 = .ok (.goto (-78), 3) := by decide +kernel
theorem dX3_readHead_123 : decode cX3_readHead 123 = .ok (.aload_n 0, 1) := by decide +kernel
theorem dX3_readHead_124 : decode cX3_readHead 124 = .ok (.getfield 19, 3) := by decide +kernel
theorem dX3_readHead_127 : decode cX3_readHead 127 = .ok (.bipush 41, 2) := by decide +kernel
theorem dX3_readHead_129 : decode cX3_readHead 129 = .ok (.invokevirtual 76, 3) := by decide +kernel
theorem dX3_readHead_132 : decode cX3_readHead 132 = .ok (.aload_n 0, 1) := by decide +kernel
theorem dX3_readHead_133 : decode cX3_readHead 133 = .ok (.getfield 19, 3) := by decide +kernel
theorem dX3_readHead_136 : decode cX3_readHead 136 = .ok (.bipush 59, 2) := by decide +kernel
theorem dX3_readHead_138 : decode cX3_readHead 138 = .ok (.invokevirtual 76, 3) := by decide +kernel
theorem dX3_readHead_141 : decode cX3_readHead 141 = .ok (.return_, 1) := by decide +kernel
theorem dX3_readNets_0 : decode cX3_readNets 0 = .ok (.aload_n 0, 1) := by decide +kernel
theorem dX3_readNets_1 : decode cX3_readNets 1 = .ok (.getfield 19, 3) := by decide +kernel
theorem dX3_readNets_4 : decode cX3_readNets 4 = .ok (.invokevirtual 58, 3) := by decide +kernel
theorem dX3_readNets_7 : decode cX3_readNets 7 = .ok (.aload_n 0, 1) := by decide +kernel
theorem dX3_readNets_8 : decode cX3_readNets 8 = .ok (.invokevirtual 102, 3) := by decide +kernel
theorem dX3_readNets_11 : decode cX3_readNets 11 = .ok (.istore_n 2, 1) := by decide +kernel
theorem dX3_readNets_12 : decode cX3_readNets 12 = .ok (.iconst 1, 1) := by decide +kernel
theorem dX3_readNets_13 : decode cX3_readNets 13 = .ok (.istore_n 3, 1) := by decide +kernel
theorem dX3_readNets_14 : decode cX3_readNets 14 = .ok (.iconst 0, 1) := by decide +kernel
theorem dX3_readNets_15 : decode cX3_readNets 15 = .ok (.istore 4, 2) := by decide +kernel
theorem dX3_readNets_17 : decode cX3_readNets 17 = .ok (.iload_n 3, 1) := by decide +kernel
theorem dX3_readNets_18 : decode cX3_readNets 18 = .ok (.ifCond .eq 45, 3) := by decide +kernel
theorem dX3_readNets_21 : decode cX3_readNets 21 = .ok (.iload 4, 2) := by decide +kernel
theorem dX3_readNets_23 : decode cX3_readNets 23 = .ok (.bipush 16, 2) := by decide +kernel
theorem dX3_readNets_25 : decode cX3_readNets 25 = .ok (.if_icmp .gt 38, 3) := by decide +kernel
theorem dX3_readNets_28 : decode cX3_readNets 28 = .ok (.iload_n 1, 1) := by decide +kernel
theorem dX3_readNets_29 : decode cX3_readNets 29 = .ok (.iconst 2, 1) := by decide +kernel
theorem dX3_readNets_30 : decode cX3_readNets 30 = .ok (.if_icmp .ne 11, 3) := by decide +kernel
theorem dX3_readNets_33 : decode cX3_readNets 33 = .ok (.aload_n 0, 1) := by decide +kernel
theorem dX3_readNets_34 : decode cX3_readNets 34 = .ok (.iload_n 2, 1) := by decide +kernel
theorem dX3_readNets_35 : decode cX3_readNets 35 = .ok (.invokevirtual 106, 3) := by decide +kernel
theorem dX3_readNets_38 : decode cX3_readNets 38 = .ok (.goto 9, 3) := by decide +kernel
theorem dX3_readNets_41 : decode cX3_readNets 41 = .ok (.aload_n 0, 1) := by decide +kernel
theorem dX3_readNets_42 : decode cX3_readNets 42 = .ok (.iload_n 1, 1) := by decide +kernel
theorem dX3_readNets_43 : decode cX3_readNets 43 = .ok (.iload_n 2, 1) := by decide +kernel
theorem dX3_readNets_44 : decode cX3_readNets 44 = .ok (.invokevirtual 109, 3) := by decide +kernel
theorem dX3_readNets_47 : decode cX3_readNets 47 = .ok (.aload_n 0, 1) := by decide +kernel
theorem dX3_readNets_48 : decode cX3_readNets 48 = .ok (.getfield 19, 3) := by decide +kernel
theorem dX3_readNets_51 : decode cX3_readNets 51 = .ok (.bipush 44, 2) := by decide +kernel
theorem dX3_readNets_53 : decode cX3_readNets 53 = .ok (.invokevirtual 99, 3) := by decide +kernel
theorem dX3_readNets_56 : decode cX3_readNets 56 = .ok (.istore_n 3, 1) := by decide +kernel
theorem dX3_readNets_57 : decode cX3_readNets 57 = .ok (.iinc 4 1, 3) := by decide +kernel
theorem dX3_readNets_60 : decode cX3_readNets 60 = .ok (.goto (-43), 3) := by decide +kernel
theorem dX3_readNets_63 : decode cX3_readNets 63 = .ok (.aload_n 0, 1) := by decide +kernel
theorem dX3_readNets_64 : decode cX3_readNets 64 = .ok (.getfield 19, 3) := by decide +kernel
theorem dX3_readNets_67 : decode cX3_readNets 67 = .ok (.bipush 59, 2) := by decide +kernel
theorem dX3_readNets_69 : decode cX3_readNets 69 = .ok (.invokevirtual 76, 3) := by decide +kernel
theorem dX3_readNets_72 : decode cX3_readNets 72 = .ok (.return_, 1) := by decide +kernel
theorem dX3_readRange_0 : decode cX3_readRange 0 = .ok (.aload_n 0, 1) := by decide +kernel
theorem dX3_readRange_1 : decode cX3_readRange 1 = .ok (.getfield 19, 3) := by decide +kernel
theorem dX3_readRange_4 : decode cX3_readRange 4 = .ok (.bipush 91, 2) := by decide +kernel
theorem dX3_readRange_6 : decode cX3_readRange 6 = .ok (.invokevirtual 99, 3) := by decide +kernel
theorem dX3_readRange_9 : decode cX3_readRange 9 = .ok (.ifCond .ne 5, 3) := by decide +kernel
theorem dX3_readRange_12 : decode cX3_readRange 12 = .ok (.iconst 1, 1) := by decide +kernel
theorem dX3_readRange_13 : decode cX3_readRange 13 = .ok (.ireturn, 1) := by decide +kernel
theorem dX3_readRange_14 : decode cX3_readRange 14 = .ok (.aload_n 0, 1) := by decide +kernel
theorem dX3_readRange_15 : decode cX3_readRange 15 = .ok (.getfield 19, 3) := by decide +kernel
theorem dX3_readRange_18 : decode cX3_readRange 18 = .ok (.iconst 0, 1) := by decide +kernel
theorem dX3_readRange_19 : decode cX3_readRange 19 = .ok (.bipush 7, 2) := by decide +kernel
theorem dX3_readRange_21 : decode cX3_readRange 21 = .ok (.invokevirtual 113, 3) := by decide +kernel
theorem dX3_readRange_24 : decode cX3_readRange 24 = .ok (.istore_n 1, 1) := by decide +kernel
theorem dX3_readRange_25 : decode cX3_readRange 25 = .ok (.aload_n 0, 1) := by decide +kernel
theorem dX3_readRange_26 : decode cX3_readRange 26 = .ok (.getfield 19, 3) := by decide +kernel
theorem dX3_readRange_29 : decode cX3_readRange 29 = .ok (.bipush 58, 2) := by decide +kernel
theorem dX3_readRange_31 : decode cX3_readRange 31 = .ok (.invokevirtual 76, 3) := by decide +kernel
theorem dX3_readRange_34 : decode cX3_readRange 34 = .ok (.aload_n 0, 1) := by decide +kernel
theorem dX3_readRange_35 : decode cX3_readRange 35 = .ok (.getfield 19, 3) := by decide +kernel
theorem dX3_readRange_38 : decode cX3_readRange 38 = .ok (.iconst 0, 1) := by decide +kernel
theorem dX3_readRange_39 : decode cX3_readRange 39 = .ok (.iconst 0, 1) := by decide +kernel
theorem dX3_readRange_40 : decode cX3_readRange 40 = .ok (.invokevirtual 113, 3) := by decide +kernel
theorem dX3_readRange_43 : decode cX3_readRange 43 = .ok (.pop, 1) := by decide +kernel
theorem dX3_readRange_44 : decode cX3_readRange 44 = .ok (.aload_n 0, 1) := by decide +kernel
theorem dX3_readRange_45 : decode cX3_readRange 45 = .ok (.getfield 19, 3) := by decide +kernel
theorem dX3_readRange_48 : decode cX3_readRange 48 = .ok (.bipush 93, 2) := by decide +kernel
theorem dX3_readRange_50 : decode cX3_readRange 50 = .ok (.invokevirtual 76, 3) := by decide +kernel
theorem dX3_readRange_53 : decode cX3_readRange 53 = .ok (.iload_n 1, 1) := by decide +kernel
theorem dX3_readRange_54 : decode cX3_readRange 54 = .ok (.iconst 1, 1) := by decide +kernel
theorem dX3_readRange_55 : decode cX3_readRange 55 = .ok (.iadd, 1) := by decide +kernel
theorem dX3_readRange_56 : decode cX3_readRange 56 = .ok (.ireturn, 1) := by decide +kernel
theorem dX3_tellWire_0 : decode cX3_tellWire 0 = .ok (.aload_n 0, 1) := by decide +kernel
theorem dX3_tellWire_1 : decode cX3_tellWire 1 = .ok (.getfield 19, 3) := by decide +kernel
theorem dX3_tellWire_4 : decode cX3_tellWire 4 = .ok (.invokevirtual 84, 3) := by decide +kernel
theorem dX3_tellWire_7 : decode cX3_tellWire 7 = .ok (.lstore_n 2, 1) := by decide +kernel
theorem dX3_tellWire_8 : decode cX3_tellWire 8 = .ok (.aload_n 0, 1) := by decide +kernel
theorem dX3_tellWire_9 : decode cX3_tellWire 9 = .ok (.getfield 19, 3) := by decide +kernel
theorem dX3_tellWire_12 : decode cX3_tellWire 12 = .ok (.aload_n 0, 1) := by decide +kernel
theorem dX3_tellWire_13 : decode cX3_tellWire 13 = .ok (.getfield 9, 3) := by decide +kernel
theorem dX3_tellWire_16 : decode cX3_tellWire 16 = .ok (.lload_n 2, 1) := by decide +kernel
theorem dX3_tellWire_17 : decode cX3_tellWire 17 = .ok (.invokevirtual 88, 3) := by decide +kernel
theorem dX3_tellWire_20 : decode cX3_tellWire 20 = .ok (.ifCond .ne 7, 3) := by decide +kernel
theorem dX3_tellWire_23 : decode cX3_tellWire 23 = .ok (.iconst 1, 1) := by decide +kernel
theorem dX3_tellWire_24 : decode cX3_tellWire 24 = .ok (.goto 4, 3) := by decide +kernel
theorem dX3_tellWire_27 : decode cX3_tellWire 27 = .ok (.iconst 0, 1) := by decide +kernel
theorem dX3_tellWire_28 : decode cX3_tellWire 28 = .ok (.invokevirtual 55, 3) := by decide +kernel
theorem dX3_tellWire_31 : decode cX3_tellWire 31 = .ok (.aload_n 0, 1) := by decide +kernel
theorem dX3_tellWire_32 : decode cX3_tellWire 32 = .ok (.getfield 9, 3) := by decide +kernel
theorem dX3_tellWire_35 : decode cX3_tellWire 35 = .ok (.new 31, 3) := by decide +kernel
theorem dX3_tellWire_38 : decode cX3_tellWire 38 = .ok (.dup, 1) := by decide +kernel
theorem dX3_tellWire_39 : decode cX3_tellWire 39 = .ok (.lload_n 2, 1) := by decide +kernel
theorem dX3_tellWire_40 : decode cX3_tellWire 40 = .ok (.iconst 2, 1) := by decide +kernel
theorem dX3_tellWire_41 : decode cX3_tellWire 41 = .ok (.iload_n 1, 1) := by decide +kernel
theorem dX3_tellWire_42 : decode cX3_tellWire 42 = .ok (.invokespecial 92, 3) := by decide +kernel
theorem dX3_tellWire_45 : decode cX3_tellWire 45 = .ok (.invokevirtual 95, 3) := by decide +kernel
theorem dX3_tellWire_48 : decode cX3_tellWire 48 = .ok (.aload_n 0, 1) := by decide +kernel
theorem dX3_tellWire_49 : decode cX3_tellWire 49 = .ok (.getfield 19, 3) := by decide +kernel
theorem dX3_tellWire_52 : decode cX3_tellWire 52 = .ok (.invokevirtual 58, 3) := by decide +kernel
theorem dX3_tellWire_55 : decode cX3_tellWire 55 = .ok (.return_, 1) := by decide +kernel
theorem dX3_tellPort_0 : decode cX3_tellPort 0 = .ok (.aload_n 0, 1) := by decide +kernel
theorem dX3_tellPort_1 : decode cX3_tellPort 1 = .ok (.getfield 9, 3) := by decide +kernel
theorem dX3_tellPort_4 : decode cX3_tellPort 4 = .ok (.aload_n 0, 1) := by decide +kernel
theorem dX3_tellPort_5 : decode cX3_tellPort 5 = .ok (.getfield 9, 3) := by decide +kernel
theorem dX3_tellPort_8 : decode cX3_tellPort 8 = .ok (.getfield 117, 3) := by decide +kernel
theorem dX3_tellPort_11 : decode cX3_tellPort 11 = .ok (.aload_n 0, 1) := by decide +kernel
theorem dX3_tellPort_12 : decode cX3_tellPort 12 = .ok (.getfield 19, 3) := by decide +kernel
theorem dX3_tellPort_15 : decode cX3_tellPort 15 = .ok (.invokevirtual 84, 3) := by decide +kernel
theorem dX3_tellPort_18 : decode cX3_tellPort 18 = .ok (.invokevirtual 121, 3) := by decide +kernel
theorem dX3_tellPort_21 : decode cX3_tellPort 21 = .ok (.astore_n 3, 1) := by decide +kernel
theorem dX3_tellPort_22 : decode cX3_tellPort 22 = .ok (.aload_n 0, 1) := by decide +kernel
theorem dX3_tellPort_23 : decode cX3_tellPort 23 = .ok (.getfield 19, 3) := by decide +kernel
theorem dX3_tellPort_26 : decode cX3_tellPort 26 = .ok (.aload_n 3, 1) := by decide +kernel
theorem dX3_tellPort_27 : decode cX3_tellPort 27 = .ok (.ifnull 11, 3) := by decide +kernel
theorem dX3_tellPort_30 : decode cX3_tellPort 30 = .ok (.aload_n 3, 1) := by decide +kernel
theorem dX3_tellPort_31 : decode cX3_tellPort 31 = .ok (.getfield 125, 3) := by decide +kernel
theorem dX3_tellPort_34 : decode cX3_tellPort 34 = .ok (.iconst (-1), 1) := by decide +kernel
theorem dX3_tellPort_35 : decode cX3_tellPort 35 = .ok (.if_icmp .eq 7, 3) := by decide +kernel
theorem dX3_tellPort_38 : decode cX3_tellPort 38 = .ok (.iconst 1, 1) := by decide +kernel
theorem dX3_tellPort_39 : decode cX3_tellPort 39 = .ok (.goto 4, 3) := by decide +kernel
theorem dX3_tellPort_42 : decode cX3_tellPort 42 = .ok (.iconst 0, 1) := by decide +kernel
theorem dX3_tellPort_43 : decode cX3_tellPort 43 = .ok (.invokevirtual 55, 3) := by decide +kernel
theorem dX3_tellPort_46 : decode cX3_tellPort 46 = .ok (.aload_n 3, 1) := by decide +kernel
theorem dX3_tellPort_47 : decode cX3_tellPort 47 = .ok (.iload_n 1, 1) := by decide +kernel
theorem dX3_tellPort_48 : decode cX3_tellPort 48 = .ok (.putfield 125, 3) := by decide +kernel
theorem dX3_tellPort_51 : decode cX3_tellPort 51 = .ok (.aload_n 3, 1) := by decide +kernel
theorem dX3_tellPort_52 : decode cX3_tellPort 52 = .ok (.iload_n 2, 1) := by decide +kernel
theorem dX3_tellPort_53 : decode cX3_tellPort 53 = .ok (.putfield 128, 3) := by decide +kernel
theorem dX3_tellPort_56 : decode cX3_tellPort 56 = .ok (.aload_n 0, 1) := by decide +kernel
theorem dX3_tellPort_57 : decode cX3_tellPort 57 = .ok (.getfield 19, 3) := by decide +kernel
theorem dX3_tellPort_60 : decode cX3_tellPort 60 = .ok (.invokevirtual 58, 3) := by decide +kernel
theorem dX3_tellPort_63 : decode cX3_tellPort 63 = .ok (.return_, 1) := by decide +kernel
theorem dX3_readInstance_0 : decode cX3_readInstance 0 = .ok (.aload_n 0, 1) := by decide +kernel
theorem dX3_readInstance_1 : decode cX3_readInstance 1 = .ok (.invokevirtual 131, 3) := by decide +kernel
theorem dX3_readInstance_4 : decode cX3_readInstance 4 = .ok (.astore_n 1, 1) := by decide +kernel
theorem dX3_readInstance_5 : decode cX3_readInstance 5 = .ok (.aload_n 0, 1) := by decide +kernel
theorem dX3_readInstance_6 : decode cX3_readInstance 6 = .ok (.getfield 19, 3) := by decide +kernel
theorem dX3_readInstance_9 : decode cX3_readInstance 9 = .ok (.bipush 40, 2) := by decide +kernel
theorem dX3_readInstance_11 : decode cX3_readInstance 11 = .ok (.invokevirtual 76, 3) := by decide +kernel
theorem dX3_readInstance_14 : decode cX3_readInstance 14 = .ok (.aload_n 1, 1) := by decide +kernel
theorem dX3_readInstance_15 : decode cX3_readInstance 15 = .ok (.aload_n 0, 1) := by decide +kernel
theorem dX3_readInstance_16 : decode cX3_readInstance 16 = .ok (.getfield 19, 3) := by decide +kernel
theorem dX3_readInstance_19 : decode cX3_readInstance 19 = .ok (.bipush 46, 2) := by decide +kernel
theorem dX3_readInstance_21 : decode cX3_readInstance 21 = .ok (.invokevirtual 80, 3) := by decide +kernel
theorem dX3_readInstance_24 : decode cX3_readInstance 24 = .ok (.putfield 135, 3) := by decide +kernel
theorem dX3_readInstance_27 : decode cX3_readInstance 27 = .ok (.aload_n 0, 1) := by decide +kernel
theorem dX3_readInstance_28 : decode cX3_readInstance 28 = .ok (.getfield 19, 3) := by decide +kernel
theorem dX3_readInstance_31 : decode cX3_readInstance 31 = .ok (.bipush 41, 2) := by decide +kernel
theorem dX3_readInstance_33 : decode cX3_readInstance 33 = .ok (.invokevirtual 80, 3) := by decide +kernel
theorem dX3_readInstance_36 : decode cX3_readInstance 36 = .ok (.ifCond .ne 7, 3) := by decide +kernel
theorem dX3_readInstance_39 : decode cX3_readInstance 39 = .ok (.iconst 1, 1) := by decide +kernel
theorem dX3_readInstance_40 : decode cX3_readInstance 40 = .ok (.goto 4, 3) := by decide +kernel
theorem dX3_readInstance_43 : decode cX3_readInstance 43 = .ok (.iconst 0, 1) := by decide +kernel
theorem dX3_readInstance_44 : decode cX3_readInstance 44 = .ok (.istore_n 2, 1) := by decide +kernel
theorem dX3_readInstance_45 : decode cX3_readInstance 45 = .ok (.iconst 0, 1) := by decide +kernel
theorem dX3_readInstance_46 : decode cX3_readInstance 46 = .ok (.istore_n 3, 1) := by decide +kernel
theorem dX3_readInstance_47 : decode cX3_readInstance 47 = .ok (.iload_n 2, 1) := by decide +kernel
theorem dX3_readInstance_48 : decode cX3_readInstance 48 = .ok (.ifCond .eq 45, 3) := by decide +kernel
theorem dX3_readInstance_51 : decode cX3_readInstance 51 = .ok (.iload_n 3, 1) := by decide +kernel
theorem dX3_readInstance_52 : decode cX3_readInstance 52 = .ok (.bipush 16, 2) := by decide +kernel
theorem dX3_readInstance_54 : decode cX3_readInstance 54 = .ok (.if_icmp .gt 39, 3) := by decide +kernel
theorem dX3_readInstance_57 : decode cX3_readInstance 57 = .ok (.aload_n 1, 1) := by decide +kernel
theorem dX3_readInstance_58 : decode cX3_readInstance 58 = .ok (.getfield 135, 3) := by decide +kernel
theorem dX3_readInstance_61 : decode cX3_readInstance 61 = .ok (.ifCond .eq 11, 3) := by decide +kernel
theorem dX3_readInstance_64 : decode cX3_readInstance 64 = .ok (.aload_n 0, 1) := by decide +kernel
theorem dX3_readInstance_65 : decode cX3_readInstance 65 = .ok (.aload_n 1, 1) := by decide +kernel
theorem dX3_readInstance_66 : decode cX3_readInstance 66 = .ok (.invokevirtual 141, 3) := by decide +kernel
theorem dX3_readInstance_69 : decode cX3_readInstance 69 = .ok (.goto 8, 3) := by decide +kernel
theorem dX3_readInstance_72 : decode cX3_readInstance 72 = .ok (.aload_n 0, 1) := by decide +kernel
theorem dX3_readInstance_73 : decode cX3_readInstance 73 = .ok (.aload_n 1, 1) := by decide +kernel
theorem dX3_readInstance_74 : decode cX3_readInstance 74 = .ok (.invokevirtual 145, 3) := by decide +kernel
theorem dX3_readInstance_77 : decode cX3_readInstance 77 = .ok (.aload_n 0, 1) := by decide +kernel
theorem dX3_readInstance_78 : decode cX3_readInstance 78 = .ok (.getfield 19, 3) := by decide +kernel
theorem dX3_readInstance_81 : decode cX3_readInstance 81 = .ok (.bipush 44, 2) := by decide +kernel
theorem dX3_readInstance_83 : decode cX3_readInstance 83 = .ok (.invokevirtual 99, 3) := by decide +kernel
theorem dX3_readInstance_86 : decode cX3_readInstance 86 = .ok (.istore_n 2, 1) := by decide +kernel
theorem dX3_readInstance_87 : decode cX3_readInstance 87 = .ok (.iinc 3 1, 3) := by decide +kernel
theorem dX3_readInstance_90 : decode cX3_readInstance 90 = .ok (.goto (-43), 3) := by decide +kernel
theorem dX3_readInstance_93 : decode cX3_readInstance 93 = .ok (.aload_n 0, 1) := by decide +kernel
theorem dX3_readInstance_94 : decode cX3_readInstance 94 = .ok (.getfield 19, 3) := by decide +kernel
theorem dX3_readInstance_97 : decode cX3_readInstance 97 = .ok (.bipush 41, 2) := by decide +kernel
theorem dX3_readInstance_99 : decode cX3_readInstance 99 = .ok (.invokevirtual 76, 3) := by decide +kernel
theorem dX3_readInstance_102 : decode cX3_readInstance 102 = .ok (.aload_n 0, 1) := by decide +kernel
theorem dX3_readInstance_103 : decode cX3_readInstance 103 = .ok (.getfield 19, 3) := by decide +kernel
theorem dX3_readInstance_106 : decode cX3_readInstance 106 = .ok (.bipush 59, 2) := by decide +kernel
theorem dX3_readInstance_108 : decode cX3_readInstance 108 = .ok (.invokevirtual 76, 3) := by decide +kernel
theorem dX3_readInstance_111 : decode cX3_readInstance 111 = .ok (.return_, 1) := by decide +kernel
theorem dX3_readNamedLink_0 : decode cX3_readNamedLink 0 = .ok (.aload_n 0, 1) := by decide +kernel
theorem dX3_readNamedLink_1 : decode cX3_readNamedLink 1 = .ok (.getfield 19, 3) := by decide +kernel
theorem dX3_readNamedLink_4 : decode cX3_readNamedLink 4 = .ok (.aload_n 1, 1) := by decide +kernel
theorem dX3_readNamedLink_5 : decode cX3_readNamedLink 5 = .ok (.invokevirtual 148, 3) := by decide +kernel
theorem dX3_readNamedLink_8 : decode cX3_readNamedLink 8 = .ok (.invokevirtual 55, 3) := by decide +kernel
theorem dX3_readNamedLink_11 : decode cX3_readNamedLink 11 = .ok (.aload_n 0, 1) := by decide +kernel
theorem dX3_readNamedLink_12 : decode cX3_readNamedLink 12 = .ok (.getfield 19, 3) := by decide +kernel
theorem dX3_readNamedLink_15 : decode cX3_readNamedLink 15 = .ok (.bipush 46, 2) := by decide +kernel
theorem dX3_readNamedLink_17 : decode cX3_readNamedLink 17 = .ok (.invokevirtual 76, 3) := by decide +kernel
theorem dX3_readNamedLink_20 : decode cX3_readNamedLink 20 = .ok (.aload_n 0, 1) := by decide +kernel
theorem dX3_readNamedLink_21 : decode cX3_readNamedLink 21 = .ok (.getfield 19, 3) := by decide +kernel
theorem dX3_readNamedLink_24 : decode cX3_readNamedLink 24 = .ok (.invokevirtual 84, 3) := by decide +kernel
theorem dX3_readNamedLink_27 : decode cX3_readNamedLink 27 = .ok (.lstore_n 2, 1) := by decide +kernel
theorem dX3_readNamedLink_28 : decode cX3_readNamedLink 28 = .ok (.aload_n 0, 1) := by decide +kernel
theorem dX3_readNamedLink_29 : decode cX3_readNamedLink 29 = .ok (.getfield 19, 3) := by decide +kernel
theorem dX3_readNamedLink_32 : decode cX3_readNamedLink 32 = .ok (.aload_n 1, 1) := by decide +kernel
theorem dX3_readNamedLink_33 : decode cX3_readNamedLink 33 = .ok (.lload_n 2, 1) := by decide +kernel
theorem dX3_readNamedLink_34 : decode cX3_readNamedLink 34 = .ok (.invokevirtual 151, 3) := by decide +kernel
theorem dX3_readNamedLink_37 : decode cX3_readNamedLink 37 = .ok (.ifnull 7, 3) := by decide +kernel
theorem dX3_readNamedLink_40 : decode cX3_readNamedLink 40 = .ok (.iconst 1, 1) := by decide +kernel
theorem dX3_readNamedLink_41 : decode cX3_readNamedLink 41 = .ok (.goto 4, 3) := by decide +kernel
theorem dX3_readNamedLink_44 : decode cX3_readNamedLink 44 = .ok (.iconst 0, 1) := by decide +kernel
theorem dX3_readNamedLink_45 : decode cX3_readNamedLink 45 = .ok (.invokevirtual 55, 3) := by decide +kernel
theorem dX3_readNamedLink_48 : decode cX3_readNamedLink 48 = .ok (.aload_n 0, 1) := by decide +kernel
theorem dX3_readNamedLink_49 : decode cX3_readNamedLink 49 = .ok (.getfield 19, 3) := by decide +kernel
theorem dX3_readNamedLink_52 : decode cX3_readNamedLink 52 = .ok (.invokevirtual 155, 3) := by decide +kernel
theorem dX3_readNamedLink_55 : decode cX3_readNamedLink 55 = .ok (.istore 4, 2) := by decide +kernel
theorem dX3_readNamedLink_57 : decode cX3_readNamedLink 57 = .ok (.aload_n 0, 1) := by decide +kernel
theorem dX3_readNamedLink_58 : decode cX3_readNamedLink 58 = .ok (.getfield 19, 3) := by decide +kernel
theorem dX3_readNamedLink_61 : decode cX3_readNamedLink 61 = .ok (.invokevirtual 58, 3) := by decide +kernel
theorem dX3_readNamedLink_64 : decode cX3_readNamedLink 64 = .ok (.aload_n 0, 1) := by decide +kernel
theorem dX3_readNamedLink_65 : decode cX3_readNamedLink 65 = .ok (.getfield 19, 3) := by decide +kernel
theorem dX3_readNamedLink_68 : decode cX3_readNamedLink 68 = .ok (.bipush 40, 2) := by decide +kernel
theorem dX3_readNamedLink_70 : decode cX3_readNamedLink 70 = .ok (.invokevirtual 76, 3) := by decide +kernel
theorem dX3_readNamedLink_73 : decode cX3_readNamedLink 73 = .ok (.aload_n 0, 1) := by decide +kernel
theorem dX3_readNamedLink_74 : decode cX3_readNamedLink 74 = .ok (.getfield 19, 3) := by decide +kernel
theorem dX3_readNamedLink_77 : decode cX3_readNamedLink 77 = .ok (.bipush 41, 2) := by decide +kernel
theorem dX3_readNamedLink_79 : decode cX3_readNamedLink 79 = .ok (.invokevirtual 80, 3) := by decide +kernel
theorem dX3_readNamedLink_82 : decode cX3_readNamedLink 82 = .ok (.ifCond .eq 7, 3) := by decide +kernel
theorem dX3_readNamedLink_85 : decode cX3_readNamedLink 85 = .ok (.aconst_null, 1) := by decide +kernel
theorem dX3_readNamedLink_86 : decode cX3_readNamedLink 86 = .ok (.goto 7, 3) := by decide +kernel
theorem dX3_readNamedLink_89 : decode cX3_readNamedLink 89 = .ok (.aload_n 0, 1) := by decide +kernel
theorem dX3_readNamedLink_90 : decode cX3_readNamedLink 90 = .ok (.invokevirtual 158, 3) := by decide +kernel
theorem dX3_readNamedLink_93 : decode cX3_readNamedLink 93 = .ok (.astore 5, 2) := by decide +kernel
theorem dX3_readNamedLink_95 : decode cX3_readNamedLink 95 = .ok (.aload_n 0, 1) := by decide +kernel
theorem dX3_readNamedLink_96 : decode cX3_readNamedLink 96 = .ok (.getfield 19, 3) := by decide +kernel
theorem dX3_readNamedLink_99 : decode cX3_readNamedLink 99 = .ok (.bipush 41, 2) := by decide +kernel
theorem dX3_readNamedLink_101 : decode cX3_readNamedLink 101 = .ok (.invokevirtual 76, 3) := by decide +kernel
theorem dX3_readNamedLink_104 : decode cX3_readNamedLink 104 = .ok (.aload_n 1, 1) := by decide +kernel
theorem dX3_readNamedLink_105 : decode cX3_readNamedLink 105 = .ok (.new 162, 3) := by decide +kernel
theorem dX3_readNamedLink_108 : decode cX3_readNamedLink 108 = .ok (.dup, 1) := by decide +kernel
theorem dX3_readNamedLink_109 : decode cX3_readNamedLink 109 = .ok (.lload_n 2, 1) := by decide +kernel
theorem dX3_readNamedLink_110 : decode cX3_readNamedLink 110 = .ok (.iload 4, 2) := by decide +kernel
theorem dX3_readNamedLink_112 : decode cX3_readNamedLink 112 = .ok (.aload 5, 2) := by decide +kernel
theorem dX3_readNamedLink_114 : decode cX3_readNamedLink 114 = .ok (.invokespecial 164, 3) := by decide +kernel
theorem dX3_readNamedLink_117 : decode cX3_readNamedLink 117 = .ok (.invokevirtual 167, 3) := by decide +kernel
theorem dX3_readNamedLink_120 : decode cX3_readNamedLink 120 = .ok (.return_, 1) := by decide +kernel
theorem dX3_readPart_0 : decode cX3_readPart 0 = .ok (.aload_n 0, 1) := by decide +kernel
theorem dX3_readPart_1 : decode cX3_readPart 1 = .ok (.getfield 19, 3) := by decide +kernel
theorem dX3_readPart_4 : decode cX3_readPart 4 = .ok (.invokevirtual 171, 3) := by decide +kernel
theorem dX3_readPart_7 : decode cX3_readPart 7 = .ok (.ifCond .eq 39, 3) := by decide +kernel
theorem dX3_readPart_10 : decode cX3_readPart 10 = .ok (.aload_n 0, 1) := by decide +kernel
theorem dX3_readPart_11 : decode cX3_readPart 11 = .ok (.getfield 19, 3) := by decide +kernel
theorem dX3_readPart_14 : decode cX3_readPart 14 = .ok (.invokevirtual 155, 3) := by decide +kernel
theorem dX3_readPart_17 : decode cX3_readPart 17 = .ok (.istore_n 1, 1) := by decide +kernel
theorem dX3_readPart_18 : decode cX3_readPart 18 = .ok (.aload_n 0, 1) := by decide +kernel
theorem dX3_readPart_19 : decode cX3_readPart 19 = .ok (.getfield 19, 3) := by decide +kernel
theorem dX3_readPart_22 : decode cX3_readPart 22 = .ok (.iconst 1, 1) := by decide +kernel
theorem dX3_readPart_23 : decode cX3_readPart 23 = .ok (.bipush 7, 2) := by decide +kernel
theorem dX3_readPart_25 : decode cX3_readPart 25 = .ok (.invokevirtual 113, 3) := by decide +kernel
theorem dX3_readPart_28 : decode cX3_readPart 28 = .ok (.istore_n 2, 1) := by decide +kernel
theorem dX3_readPart_29 : decode cX3_readPart 29 = .ok (.aload_n 0, 1) := by decide +kernel
theorem dX3_readPart_30 : decode cX3_readPart 30 = .ok (.getfield 19, 3) := by decide +kernel
theorem dX3_readPart_33 : decode cX3_readPart 33 = .ok (.bipush 39, 2) := by decide +kernel
theorem dX3_readPart_35 : decode cX3_readPart 35 = .ok (.invokevirtual 76, 3) := by decide +kernel
theorem dX3_readPart_38 : decode cX3_readPart 38 = .ok (.aload_n 0, 1) := by decide +kernel
theorem dX3_readPart_39 : decode cX3_readPart 39 = .ok (.iload_n 1, 1) := by decide +kernel
theorem dX3_readPart_40 : decode cX3_readPart 40 = .ok (.iload_n 2, 1) := by decide +kernel
theorem dX3_readPart_41 : decode cX3_readPart 41 = .ok (.iload_n 2, 1) := by decide +kernel
theorem dX3_readPart_42 : decode cX3_readPart 42 = .ok (.invokevirtual 174, 3) := by decide +kernel
theorem dX3_readPart_45 : decode cX3_readPart 45 = .ok (.areturn, 1) := by decide +kernel
theorem dX3_readPart_46 : decode cX3_readPart 46 = .ok (.aload_n 0, 1) := by decide +kernel
theorem dX3_readPart_47 : decode cX3_readPart 47 = .ok (.bipush 91, 2) := by decide +kernel
theorem dX3_readPart_49 : decode cX3_readPart 49 = .ok (.bipush 58, 2) := by decide +kernel
theorem dX3_readPart_51 : decode cX3_readPart 51 = .ok (.invokevirtual 178, 3) := by decide +kernel
theorem dX3_readPart_54 : decode cX3_readPart 54 = .ok (.astore_n 1, 1) := by decide +kernel
theorem dX3_readPart_55 : decode cX3_readPart 55 = .ok (.aload_n 1, 1) := by decide +kernel
theorem dX3_readPart_56 : decode cX3_readPart 56 = .ok (.getfield 182, 3) := by decide +kernel
theorem dX3_readPart_59 : decode cX3_readPart 59 = .ok (.ifCond .eq 12, 3) := by decide +kernel
theorem dX3_readPart_62 : decode cX3_readPart 62 = .ok (.aload_n 0, 1) := by decide +kernel
theorem dX3_readPart_63 : decode cX3_readPart 63 = .ok (.getfield 19, 3) := by decide +kernel
theorem dX3_readPart_66 : decode cX3_readPart 66 = .ok (.bipush 93, 2) := by decide +kernel
theorem dX3_readPart_68 : decode cX3_readPart 68 = .ok (.invokevirtual 76, 3) := by decide +kernel
theorem dX3_readPart_71 : decode cX3_readPart 71 = .ok (.aload_n 1, 1) := by decide +kernel
theorem dX3_readPart_72 : decode cX3_readPart 72 = .ok (.areturn, 1) := by decide +kernel
theorem dX4_init_0 : decode cX4_init 0 = .ok (.aload_n 0, 1) := by decide +kernel
theorem dX4_init_1 : decode cX4_init 1 = .ok (.invokespecial 1, 3) := by decide +kernel
theorem dX4_init_4 : decode cX4_init 4 = .ok (.aload_n 0, 1) := by decide +kernel
theorem dX4_init_5 : decode cX4_init 5 = .ok (.iconst 0, 1) := by decide +kernel
theorem dX4_init_6 : decode cX4_init 6 = .ok (.putfield 7, 3) := by decide +kernel
theorem dX4_init_9 : decode cX4_init 9 = .ok (.aload_n 0, 1) := by decide +kernel
theorem dX4_init_10 : decode cX4_init 10 = .ok (.lload_n 1, 1) := by decide +kernel
theorem dX4_init_11 : decode cX4_init 11 = .ok (.putfield 13, 3) := by decide +kernel
theorem dX4_init_14 : decode cX4_init 14 = .ok (.aload_n 0, 1) := by decide +kernel
theorem dX4_init_15 : decode cX4_init 15 = .ok (.iload_n 3, 1) := by decide +kernel
theorem dX4_init_16 : decode cX4_init 16 = .ok (.putfield 17, 3) := by decide +kernel
theorem dX4_init_19 : decode cX4_init 19 = .ok (.aload_n 0, 1) := by decide +kernel
theorem dX4_init_20 : decode cX4_init 20 = .ok (.iload 4, 2) := by decide +kernel
theorem dX4_init_22 : decode cX4_init 22 = .ok (.putfield 20, 3) := by decide +kernel
theorem dX4_init_25 : decode cX4_init 25 = .ok (.return_, 1) := by decide +kernel
theorem dX5_init_0 : decode cX5_init 0 = .ok (.aload_n 0, 1) := by decide +kernel
theorem dX5_init_1 : decode cX5_init 1 = .ok (.invokespecial 3, 3) := by decide +kernel
theorem dX5_init_4 : decode cX5_init 4 = .ok (.aload_n 0, 1) := by decide +kernel
theorem dX5_init_5 : decode cX5_init 5 = .ok (.bipush 16, 2) := by decide +kernel
theorem dX5_init_7 : decode cX5_init 7 = .ok (.anewarray 9, 3) := by decide +kernel
theorem dX5_init_10 : decode cX5_init 10 = .ok (.putfield 11, 3) := by decide +kernel
theorem dX5_init_13 : decode cX5_init 13 = .ok (.aload_n 0, 1) := by decide +kernel
theorem dX5_init_14 : decode cX5_init 14 = .ok (.iconst 0, 1) := by decide +kernel
theorem dX5_init_15 : decode cX5_init 15 = .ok (.putfield 17, 3) := by decide +kernel
theorem dX5_init_18 : decode cX5_init 18 = .ok (.aload_n 0, 1) := by decide +kernel
theorem dX5_init_19 : decode cX5_init 19 = .ok (.iconst 0, 1) := by decide +kernel
theorem dX5_init_20 : decode cX5_init 20 = .ok (.putfield 21, 3) := by decide +kernel
theorem dX5_init_23 : decode cX5_init 23 = .ok (.aload_n 0, 1) := by decide +kernel
theorem dX5_init_24 : decode cX5_init 24 = .ok (.iconst 0, 1) := by decide +kernel
theorem dX5_init_25 : decode cX5_init 25 = .ok (.putfield 24, 3) := by decide +kernel
theorem dX5_init_28 : decode cX5_init 28 = .ok (.aload_n 0, 1) := by decide +kernel
theorem dX5_init_29 : decode cX5_init 29 = .ok (.bipush 8, 2) := by decide +kernel
theorem dX5_init_31 : decode cX5_init 31 = .ok (.anewarray 27, 3) := by decide +kernel
theorem dX5_init_34 : decode cX5_init 34 = .ok (.putfield 29, 3) := by decide +kernel
theorem dX5_init_37 : decode cX5_init 37 = .ok (.aload_n 0, 1) := by decide +kernel
theorem dX5_init_38 : decode cX5_init 38 = .ok (.bipush 8, 2) := by decide +kernel
theorem dX5_init_40 : decode cX5_init 40 = .ok (.anewarray 27, 3) := by decide +kernel
theorem dX5_init_43 : decode cX5_init 43 = .ok (.putfield 33, 3) := by decide +kernel
theorem dX5_init_46 : decode cX5_init 46 = .ok (.aload_n 0, 1) := by decide +kernel
theorem dX5_init_47 : decode cX5_init 47 = .ok (.iconst 0, 1) := by decide +kernel
theorem dX5_init_48 : decode cX5_init 48 = .ok (.putfield 36, 3) := by decide +kernel
theorem dX5_init_51 : decode cX5_init 51 = .ok (.aload_n 0, 1) := by decide +kernel
theorem dX5_init_52 : decode cX5_init 52 = .ok (.bipush 12, 2) := by decide +kernel
theorem dX5_init_54 : decode cX5_init 54 = .ok (.anewarray 39, 3) := by decide +kernel
theorem dX5_init_57 : decode cX5_init 57 = .ok (.putfield 41, 3) := by decide +kernel
theorem dX5_init_60 : decode cX5_init 60 = .ok (.aload_n 0, 1) := by decide +kernel
theorem dX5_init_61 : decode cX5_init 61 = .ok (.iconst 0, 1) := by decide +kernel
theorem dX5_init_62 : decode cX5_init 62 = .ok (.putfield 45, 3) := by decide +kernel
theorem dX5_init_65 : decode cX5_init 65 = .ok (.aload_n 0, 1) := by decide +kernel
theorem dX5_init_66 : decode cX5_init 66 = .ok (.iconst 0, 1) := by decide +kernel
theorem dX5_init_67 : decode cX5_init 67 = .ok (.putfield 48, 3) := by decide +kernel
theorem dX5_init_70 : decode cX5_init 70 = .ok (.aload_n 0, 1) := by decide +kernel
theorem dX5_init_71 : decode cX5_init 71 = .ok (.iload_n 1, 1) := by decide +kernel
theorem dX5_init_72 : decode cX5_init 72 = .ok (.putfield 51, 3) := by decide +kernel
theorem dX5_init_75 : decode cX5_init 75 = .ok (.aload_n 0, 1) := by decide +kernel
theorem dX5_init_76 : decode cX5_init 76 = .ok (.lload_n 2, 1) := by decide +kernel
theorem dX5_init_77 : decode cX5_init 77 = .ok (.putfield 54, 3) := by decide +kernel
theorem dX5_init_80 : decode cX5_init 80 = .ok (.aload_n 0, 1) := by decide +kernel
theorem dX5_init_81 : decode cX5_init 81 = .ok (.iload 4, 2) := by decide +kernel
theorem dX5_init_83 : decode cX5_init 83 = .ok (.putfield 58, 3) := by decide +kernel
theorem dX5_init_86 : decode cX5_init 86 = .ok (.return_, 1) := by decide +kernel
theorem dX5_netAmong_0 : decode cX5_netAmong 0 = .ok (.iconst 0, 1) := by decide +kernel
theorem dX5_netAmong_1 : decode cX5_netAmong 1 = .ok (.istore 4, 2) := by decide +kernel
theorem dX5_netAmong_3 : decode cX5_netAmong 3 = .ok (.iload 4, 2) := by decide +kernel
theorem dX5_netAmong_5 : decode cX5_netAmong 5 = .ok (.iload_n 1, 1) := by decide +kernel
theorem dX5_netAmong_6 : decode cX5_netAmong 6 = .ok (.if_icmp .ge 41, 3) := by decide +kernel
theorem dX5_netAmong_9 : decode cX5_netAmong 9 = .ok (.iload 4, 2) := by decide +kernel
theorem dX5_netAmong_11 : decode cX5_netAmong 11 = .ok (.aload_n 0, 1) := by decide +kernel
theorem dX5_netAmong_12 : decode cX5_netAmong 12 = .ok (.getfield 17, 3) := by decide +kernel
theorem dX5_netAmong_15 : decode cX5_netAmong 15 = .ok (.if_icmp .ge 32, 3) := by decide +kernel
theorem dX5_netAmong_18 : decode cX5_netAmong 18 = .ok (.aload_n 0, 1) := by decide +kernel
theorem dX5_netAmong_19 : decode cX5_netAmong 19 = .ok (.getfield 11, 3) := by decide +kernel
theorem dX5_netAmong_22 : decode cX5_netAmong 22 = .ok (.iload 4, 2) := by decide +kernel
theorem dX5_netAmong_24 : decode cX5_netAmong 24 = .ok (.aaload, 1) := by decide +kernel
theorem dX5_netAmong_25 : decode cX5_netAmong 25 = .ok (.getfield 61, 3) := by decide +kernel
theorem dX5_netAmong_28 : decode cX5_netAmong 28 = .ok (.lload_n 2, 1) := by decide +kernel
theorem dX5_netAmong_29 : decode cX5_netAmong 29 = .ok (.lcmp, 1) := by decide +kernel
theorem dX5_netAmong_30 : decode cX5_netAmong 30 = .ok (.ifCond .ne 11, 3) := by decide +kernel
theorem dX5_netAmong_33 : decode cX5_netAmong 33 = .ok (.aload_n 0, 1) := by decide +kernel
theorem dX5_netAmong_34 : decode cX5_netAmong 34 = .ok (.getfield 11, 3) := by decide +kernel
theorem dX5_netAmong_37 : decode cX5_netAmong 37 = .ok (.iload 4, 2) := by decide +kernel
theorem dX5_netAmong_39 : decode cX5_netAmong 39 = .ok (.aaload, 1) := by decide +kernel
theorem dX5_netAmong_40 : decode cX5_netAmong 40 = .ok (.areturn, 1) := by decide +kernel
theorem dX5_netAmong_41 : decode cX5_netAmong 41 = .ok (.iinc 4 1, 3) := by decide +kernel
theorem dX5_netAmong_44 : decode cX5_netAmong 44 = .ok (.goto (-41), 3) := by decide +kernel
theorem dX5_netAmong_47 : decode cX5_netAmong 47 = .ok (.aconst_null, 1) := by decide +kernel
theorem dX5_netAmong_48 : decode cX5_netAmong 48 = .ok (.areturn, 1) := by decide +kernel
theorem dX5_portAt_0 : decode cX5_portAt 0 = .ok (.iload_n 1, 1) := by decide +kernel
theorem dX5_portAt_1 : decode cX5_portAt 1 = .ok (.aload_n 0, 1) := by decide +kernel
theorem dX5_portAt_2 : decode cX5_portAt 2 = .ok (.getfield 21, 3) := by decide +kernel
theorem dX5_portAt_5 : decode cX5_portAt 5 = .ok (.if_icmp .ge 12, 3) := by decide +kernel
theorem dX5_portAt_8 : decode cX5_portAt 8 = .ok (.aload_n 0, 1) := by decide +kernel
theorem dX5_portAt_9 : decode cX5_portAt 9 = .ok (.getfield 11, 3) := by decide +kernel
theorem dX5_portAt_12 : decode cX5_portAt 12 = .ok (.iload_n 1, 1) := by decide +kernel
theorem dX5_portAt_13 : decode cX5_portAt 13 = .ok (.aaload, 1) := by decide +kernel
theorem dX5_portAt_14 : decode cX5_portAt 14 = .ok (.goto 4, 3) := by decide +kernel
theorem dX5_portAt_17 : decode cX5_portAt 17 = .ok (.aconst_null, 1) := by decide +kernel
theorem dX5_portAt_18 : decode cX5_portAt 18 = .ok (.areturn, 1) := by decide +kernel
theorem dX5_hasInstance_0 : decode cX5_hasInstance 0 = .ok (.iconst 0, 1) := by decide +kernel
theorem dX5_hasInstance_1 : decode cX5_hasInstance 1 = .ok (.istore_n 3, 1) := by decide +kernel
theorem dX5_hasInstance_2 : decode cX5_hasInstance 2 = .ok (.iload_n 3, 1) := by decide +kernel
theorem dX5_hasInstance_3 : decode cX5_hasInstance 3 = .ok (.aload_n 0, 1) := by decide +kernel
theorem dX5_hasInstance_4 : decode cX5_hasInstance 4 = .ok (.getfield 45, 3) := by decide +kernel
theorem dX5_hasInstance_7 : decode cX5_hasInstance 7 = .ok (.if_icmp .ge 25, 3) := by decide +kernel
theorem dX5_hasInstance_10 : decode cX5_hasInstance 10 = .ok (.aload_n 0, 1) := by decide +kernel
theorem dX5_hasInstance_11 : decode cX5_hasInstance 11 = .ok (.getfield 41, 3) := by decide +kernel
theorem dX5_hasInstance_14 : decode cX5_hasInstance 14 = .ok (.iload_n 3, 1) := by decide +kernel
theorem dX5_hasInstance_15 : decode cX5_hasInstance 15 = .ok (.aaload, 1) := by decide +kernel
theorem dX5_hasInstance_16 : decode cX5_hasInstance 16 = .ok (.getfield 62, 3) := by decide +kernel
theorem dX5_hasInstance_19 : decode cX5_hasInstance 19 = .ok (.lload_n 1, 1) := by decide +kernel
theorem dX5_hasInstance_20 : decode cX5_hasInstance 20 = .ok (.lcmp, 1) := by decide +kernel
theorem dX5_hasInstance_21 : decode cX5_hasInstance 21 = .ok (.ifCond .ne 5, 3) := by decide +kernel
theorem dX5_hasInstance_24 : decode cX5_hasInstance 24 = .ok (.iconst 1, 1) := by decide +kernel
theorem dX5_hasInstance_25 : decode cX5_hasInstance 25 = .ok (.ireturn, 1) := by decide +kernel
theorem dX5_hasInstance_26 : decode cX5_hasInstance 26 = .ok (.iinc 3 1, 3) := by decide +kernel
theorem dX5_hasInstance_29 : decode cX5_hasInstance 29 = .ok (.goto (-27), 3) := by decide +kernel
theorem dX5_hasInstance_32 : decode cX5_hasInstance 32 = .ok (.iconst 0, 1) := by decide +kernel
theorem dX5_hasInstance_33 : decode cX5_hasInstance 33 = .ok (.ireturn, 1) := by decide +kernel
theorem dX5_canTakeNet_0 : decode cX5_canTakeNet 0 = .ok (.aload_n 0, 1) := by decide +kernel
theorem dX5_canTakeNet_1 : decode cX5_canTakeNet 1 = .ok (.getfield 17, 3) := by decide +kernel
theorem dX5_canTakeNet_4 : decode cX5_canTakeNet 4 = .ok (.bipush 16, 2) := by decide +kernel
theorem dX5_canTakeNet_6 : decode cX5_canTakeNet 6 = .ok (.if_icmp .ge 19, 3) := by decide +kernel
theorem dX5_canTakeNet_9 : decode cX5_canTakeNet 9 = .ok (.aload_n 0, 1) := by decide +kernel
theorem dX5_canTakeNet_10 : decode cX5_canTakeNet 10 = .ok (.aload_n 0, 1) := by decide +kernel
theorem dX5_canTakeNet_11 : decode cX5_canTakeNet 11 = .ok (.getfield 17, 3) := by decide +kernel
theorem dX5_canTakeNet_14 : decode cX5_canTakeNet 14 = .ok (.lload_n 1, 1) := by decide +kernel
theorem dX5_canTakeNet_15 : decode cX5_canTakeNet 15 = .ok (.invokevirtual 63, 3) := by decide +kernel
theorem dX5_canTakeNet_18 : decode cX5_canTakeNet 18 = .ok (.ifnonnull 7, 3) := by decide +kernel
theorem dX5_canTakeNet_21 : decode cX5_canTakeNet 21 = .ok (.iconst 1, 1) := by decide +kernel
theorem dX5_canTakeNet_22 : decode cX5_canTakeNet 22 = .ok (.goto 4, 3) := by decide +kernel
theorem dX5_canTakeNet_25 : decode cX5_canTakeNet 25 = .ok (.iconst 0, 1) := by decide +kernel
theorem dX5_canTakeNet_26 : decode cX5_canTakeNet 26 = .ok (.ireturn, 1) := by decide +kernel
theorem dX5_addNet_0 : decode cX5_addNet 0 = .ok (.aload_n 0, 1) := by decide +kernel
theorem dX5_addNet_1 : decode cX5_addNet 1 = .ok (.getfield 17, 3) := by decide +kernel
theorem dX5_addNet_4 : decode cX5_addNet 4 = .ok (.bipush 16, 2) := by decide +kernel
theorem dX5_addNet_6 : decode cX5_addNet 6 = .ok (.if_icmp .lt 4, 3) := by decide +kernel
theorem dX5_addNet_9 : decode cX5_addNet 9 = .ok (.return_, 1) := by decide +kernel
theorem dX5_addNet_10 : decode cX5_addNet 10 = .ok (.aload_n 1, 1) := by decide +kernel
theorem dX5_addNet_11 : decode cX5_addNet 11 = .ok (.getfield 67, 3) := by decide +kernel
theorem dX5_addNet_14 : decode cX5_addNet 14 = .ok (.iconst 2, 1) := by decide +kernel
theorem dX5_addNet_15 : decode cX5_addNet 15 = .ok (.if_icmp .ne 10, 3) := by decide +kernel
theorem dX5_addNet_18 : decode cX5_addNet 18 = .ok (.aload_n 0, 1) := by decide +kernel
theorem dX5_addNet_19 : decode cX5_addNet 19 = .ok (.getfield 17, 3) := by decide +kernel
theorem dX5_addNet_22 : decode cX5_addNet 22 = .ok (.goto 7, 3) := by decide +kernel
theorem dX5_addNet_25 : decode cX5_addNet 25 = .ok (.aload_n 0, 1) := by decide +kernel
theorem dX5_addNet_26 : decode cX5_addNet 26 = .ok (.getfield 21, 3) := by decide +kernel
theorem dX5_addNet_29 : decode cX5_addNet 29 = .ok (.istore_n 2, 1) := by decide +kernel
theorem dX5_addNet_30 : decode cX5_addNet 30 = .ok (.aload_n 0, 1) := by decide +kernel
theorem dX5_addNet_31 : decode cX5_addNet 31 = .ok (.getfield 17, 3) := by decide +kernel
theorem dX5_addNet_34 : decode cX5_addNet 34 = .ok (.istore_n 3, 1) := by decide +kernel
theorem dX5_addNet_35 : decode cX5_addNet 35 = .ok (.iload_n 3, 1) := by decide +kernel
theorem dX5_addNet_36 : decode cX5_addNet 36 = .ok (.iload_n 2, 1) := by decide +kernel
theorem dX5_addNet_37 : decode cX5_addNet 37 = .ok (.if_icmp .le 23, 3) := by decide +kernel
theorem dX5_addNet_40 : decode cX5_addNet 40 = .ok (.aload_n 0, 1) := by decide +kernel
theorem dX5_addNet_41 : decode cX5_addNet 41 = .ok (.getfield 11, 3) := by decide +kernel
theorem dX5_addNet_44 : decode cX5_addNet 44 = .ok (.iload_n 3, 1) := by decide +kernel
theorem dX5_addNet_45 : decode cX5_addNet 45 = .ok (.aload_n 0, 1) := by decide +kernel
theorem dX5_addNet_46 : decode cX5_addNet 46 = .ok (.getfield 11, 3) := by decide +kernel
theorem dX5_addNet_49 : decode cX5_addNet 49 = .ok (.iload_n 3, 1) := by decide +kernel
theorem dX5_addNet_50 : decode cX5_addNet 50 = .ok (.iconst 1, 1) := by decide +kernel
theorem dX5_addNet_51 : decode cX5_addNet 51 = .ok (.isub, 1) := by decide +kernel
theorem dX5_addNet_52 : decode cX5_addNet 52 = .ok (.aaload, 1) := by decide +kernel
theorem dX5_addNet_53 : decode cX5_addNet 53 = .ok (.aastore, 1) := by decide +kernel
theorem dX5_addNet_54 : decode cX5_addNet 54 = .ok (.iinc 3 (-1), 3) := by decide +kernel
theorem dX5_addNet_57 : decode cX5_addNet 57 = .ok (.goto (-22), 3) := by decide +kernel
theorem dX5_addNet_60 : decode cX5_addNet 60 = .ok (.aload_n 0, 1) := by decide +kernel
theorem dX5_addNet_61 : decode cX5_addNet 61 = .ok (.getfield 11, 3) := by decide +kernel
theorem dX5_addNet_64 : decode cX5_addNet 64 = .ok (.iload_n 2, 1) := by decide +kernel
theorem dX5_addNet_65 : decode cX5_addNet 65 = .ok (.aload_n 1, 1) := by decide +kernel
theorem dX5_addNet_66 : decode cX5_addNet 66 = .ok (.aastore, 1) := by decide +kernel
theorem dX5_addNet_67 : decode cX5_addNet 67 = .ok (.aload_n 0, 1) := by decide +kernel
theorem dX5_addNet_68 : decode cX5_addNet 68 = .ok (.dup, 1) := by decide +kernel
theorem dX5_addNet_69 : decode cX5_addNet 69 = .ok (.getfield 17, 3) := by decide +kernel
theorem dX5_addNet_72 : decode cX5_addNet 72 = .ok (.iconst 1, 1) := by decide +kernel
theorem dX5_addNet_73 : decode cX5_addNet 73 = .ok (.iadd, 1) := by decide +kernel
theorem dX5_addNet_74 : decode cX5_addNet 74 = .ok (.putfield 17, 3) := by decide +kernel
theorem dX5_addNet_77 : decode cX5_addNet 77 = .ok (.aload_n 0, 1) := by decide +kernel
theorem dX5_addNet_78 : decode cX5_addNet 78 = .ok (.dup, 1) := by decide +kernel
theorem dX5_addNet_79 : decode cX5_addNet 79 = .ok (.getfield 21, 3) := by decide +kernel
theorem dX5_addNet_82 : decode cX5_addNet 82 = .ok (.aload_n 1, 1) := by decide +kernel
theorem dX5_addNet_83 : decode cX5_addNet 83 = .ok (.getfield 67, 3) := by decide +kernel
theorem dX5_addNet_86 : decode cX5_addNet 86 = .ok (.iconst 2, 1) := by decide +kernel
theorem dX5_addNet_87 : decode cX5_addNet 87 = .ok (.if_icmp .ne 7, 3) := by decide +kernel
theorem dX5_addNet_90 : decode cX5_addNet 90 = .ok (.iconst 0, 1) := by decide +kernel
theorem dX5_addNet_91 : decode cX5_addNet 91 = .ok (.goto 4, 3) := by decide +kernel
theorem dX5_addNet_94 : decode cX5_addNet 94 = .ok (.iconst 1, 1) := by decide +kernel
theorem dX5_addNet_95 : decode cX5_addNet 95 = .ok (.iadd, 1) := by decide +kernel
theorem dX5_addNet_96 : decode cX5_addNet 96 = .ok (.putfield 21, 3) := by decide +kernel
theorem dX5_addNet_99 : decode cX5_addNet 99 = .ok (.return_, 1) := by decide +kernel
theorem dX5_addAssign_0 : decode cX5_addAssign 0 = .ok (.aload_n 0, 1) := by decide +kernel
theorem dX5_addAssign_1 : decode cX5_addAssign 1 = .ok (.getfield 36, 3) := by decide +kernel
theorem dX5_addAssign_4 : decode cX5_addAssign 4 = .ok (.bipush 8, 2) := by decide +kernel
theorem dX5_addAssign_6 : decode cX5_addAssign 6 = .ok (.if_icmp .ge 33, 3) := by decide +kernel
theorem dX5_addAssign_9 : decode cX5_addAssign 9 = .ok (.aload_n 0, 1) := by decide +kernel
theorem dX5_addAssign_10 : decode cX5_addAssign 10 = .ok (.getfield 29, 3) := by decide +kernel
theorem dX5_addAssign_13 : decode cX5_addAssign 13 = .ok (.aload_n 0, 1) := by decide +kernel
theorem dX5_addAssign_14 : decode cX5_addAssign 14 = .ok (.getfield 36, 3) := by decide +kernel
theorem dX5_addAssign_17 : decode cX5_addAssign 17 = .ok (.aload_n 1, 1) := by decide +kernel
theorem dX5_addAssign_18 : decode cX5_addAssign 18 = .ok (.aastore, 1) := by decide +kernel
theorem dX5_addAssign_19 : decode cX5_addAssign 19 = .ok (.aload_n 0, 1) := by decide +kernel
theorem dX5_addAssign_20 : decode cX5_addAssign 20 = .ok (.getfield 33, 3) := by decide +kernel
theorem dX5_addAssign_23 : decode cX5_addAssign 23 = .ok (.aload_n 0, 1) := by decide +kernel
theorem dX5_addAssign_24 : decode cX5_addAssign 24 = .ok (.getfield 36, 3) := by decide +kernel
theorem dX5_addAssign_27 : decode cX5_addAssign 27 = .ok (.aload_n 2, 1) := by decide +kernel
theorem dX5_addAssign_28 : decode cX5_addAssign 28 = .ok (.aastore, 1) := by decide +kernel
theorem dX5_addAssign_29 : decode cX5_addAssign 29 = .ok (.aload_n 0, 1) := by decide +kernel
theorem dX5_addAssign_30 : decode cX5_addAssign 30 = .ok (.dup, 1) := by decide +kernel
theorem dX5_addAssign_31 : decode cX5_addAssign 31 = .ok (.getfield 36, 3) := by decide +kernel
theorem dX5_addAssign_34 : decode cX5_addAssign 34 = .ok (.iconst 1, 1) := by decide +kernel
theorem dX5_addAssign_35 : decode cX5_addAssign 35 = .ok (.iadd, 1) := by decide +kernel
theorem dX5_addAssign_36 : decode cX5_addAssign 36 = .ok (.putfield 36, 3) := by decide +kernel
theorem dX5_addAssign_39 : decode cX5_addAssign 39 = .ok (.return_, 1) := by decide +kernel
theorem dX5_addInstance_0 : decode cX5_addInstance 0 = .ok (.aload_n 0, 1) := by decide +kernel
theorem dX5_addInstance_1 : decode cX5_addInstance 1 = .ok (.getfield 45, 3) := by decide +kernel
theorem dX5_addInstance_4 : decode cX5_addInstance 4 = .ok (.bipush 12, 2) := by decide +kernel
theorem dX5_addInstance_6 : decode cX5_addInstance 6 = .ok (.if_icmp .ge 23, 3) := by decide +kernel
theorem dX5_addInstance_9 : decode cX5_addInstance 9 = .ok (.aload_n 0, 1) := by decide +kernel
theorem dX5_addInstance_10 : decode cX5_addInstance 10 = .ok (.getfield 41, 3) := by decide +kernel
theorem dX5_addInstance_13 : decode cX5_addInstance 13 = .ok (.aload_n 0, 1) := by decide +kernel
theorem dX5_addInstance_14 : decode cX5_addInstance 14 = .ok (.getfield 45, 3) := by decide +kernel
theorem dX5_addInstance_17 : decode cX5_addInstance 17 = .ok (.aload_n 1, 1) := by decide +kernel
theorem dX5_addInstance_18 : decode cX5_addInstance 18 = .ok (.aastore, 1) := by decide +kernel
theorem dX5_addInstance_19 : decode cX5_addInstance 19 = .ok (.aload_n 0, 1) := by decide +kernel
theorem dX5_addInstance_20 : decode cX5_addInstance 20 = .ok (.dup, 1) := by decide +kernel
theorem dX5_addInstance_21 : decode cX5_addInstance 21 = .ok (.getfield 45, 3) := by decide +kernel
theorem dX5_addInstance_24 : decode cX5_addInstance 24 = .ok (.iconst 1, 1) := by decide +kernel
theorem dX5_addInstance_25 : decode cX5_addInstance 25 = .ok (.iadd, 1) := by decide +kernel
theorem dX5_addInstance_26 : decode cX5_addInstance 26 = .ok (.putfield 45, 3) := by decide +kernel
theorem dX5_addInstance_29 : decode cX5_addInstance 29 = .ok (.return_, 1) := by decide +kernel
theorem dX5_hasUntoldPort_0 : decode cX5_hasUntoldPort 0 = .ok (.iconst 0, 1) := by decide +kernel
theorem dX5_hasUntoldPort_1 : decode cX5_hasUntoldPort 1 = .ok (.istore_n 1, 1) := by decide +kernel
theorem dX5_hasUntoldPort_2 : decode cX5_hasUntoldPort 2 = .ok (.iload_n 1, 1) := by decide +kernel
theorem dX5_hasUntoldPort_3 : decode cX5_hasUntoldPort 3 = .ok (.aload_n 0, 1) := by decide +kernel
theorem dX5_hasUntoldPort_4 : decode cX5_hasUntoldPort 4 = .ok (.getfield 21, 3) := by decide +kernel
theorem dX5_hasUntoldPort_7 : decode cX5_hasUntoldPort 7 = .ok (.if_icmp .ge 24, 3) := by decide +kernel
theorem dX5_hasUntoldPort_10 : decode cX5_hasUntoldPort 10 = .ok (.aload_n 0, 1) := by decide +kernel
theorem dX5_hasUntoldPort_11 : decode cX5_hasUntoldPort 11 = .ok (.getfield 11, 3) := by decide +kernel
theorem dX5_hasUntoldPort_14 : decode cX5_hasUntoldPort 14 = .ok (.iload_n 1, 1) := by decide +kernel
theorem dX5_hasUntoldPort_15 : decode cX5_hasUntoldPort 15 = .ok (.aaload, 1) := by decide +kernel
theorem dX5_hasUntoldPort_16 : decode cX5_hasUntoldPort 16 = .ok (.getfield 67, 3) := by decide +kernel
theorem dX5_hasUntoldPort_19 : decode cX5_hasUntoldPort 19 = .ok (.iconst (-1), 1) := by decide +kernel
theorem dX5_hasUntoldPort_20 : decode cX5_hasUntoldPort 20 = .ok (.if_icmp .ne 5, 3) := by decide +kernel
theorem dX5_hasUntoldPort_23 : decode cX5_hasUntoldPort 23 = .ok (.iconst 1, 1) := by decide +kernel
theorem dX5_hasUntoldPort_24 : decode cX5_hasUntoldPort 24 = .ok (.ireturn, 1) := by decide +kernel
theorem dX5_hasUntoldPort_25 : decode cX5_hasUntoldPort 25 = .ok (.iinc 1 1, 3) := by decide +kernel
theorem dX5_hasUntoldPort_28 : decode cX5_hasUntoldPort 28 = .ok (.goto (-26), 3) := by decide +kernel
theorem dX5_hasUntoldPort_31 : decode cX5_hasUntoldPort 31 = .ok (.iconst 0, 1) := by decide +kernel
theorem dX5_hasUntoldPort_32 : decode cX5_hasUntoldPort 32 = .ok (.ireturn, 1) := by decide +kernel
theorem dX5_numberBits_0 : decode cX5_numberBits 0 = .ok (.aload_n 0, 1) := by decide +kernel
theorem dX5_numberBits_1 : decode cX5_numberBits 1 = .ok (.iconst 0, 1) := by decide +kernel
theorem dX5_numberBits_2 : decode cX5_numberBits 2 = .ok (.putfield 24, 3) := by decide +kernel
theorem dX5_numberBits_5 : decode cX5_numberBits 5 = .ok (.iconst 0, 1) := by decide +kernel
theorem dX5_numberBits_6 : decode cX5_numberBits 6 = .ok (.istore_n 1, 1) := by decide +kernel
theorem dX5_numberBits_7 : decode cX5_numberBits 7 = .ok (.iload_n 1, 1) := by decide +kernel
theorem dX5_numberBits_8 : decode cX5_numberBits 8 = .ok (.aload_n 0, 1) := by decide +kernel
theorem dX5_numberBits_9 : decode cX5_numberBits 9 = .ok (.getfield 17, 3) := by decide +kernel
theorem dX5_numberBits_12 : decode cX5_numberBits 12 = .ok (.if_icmp .ge 40, 3) := by decide +kernel
theorem dX5_numberBits_15 : decode cX5_numberBits 15 = .ok (.aload_n 0, 1) := by decide +kernel
theorem dX5_numberBits_16 : decode cX5_numberBits 16 = .ok (.getfield 11, 3) := by decide +kernel
theorem dX5_numberBits_19 : decode cX5_numberBits 19 = .ok (.iload_n 1, 1) := by decide +kernel
theorem dX5_numberBits_20 : decode cX5_numberBits 20 = .ok (.aaload, 1) := by decide +kernel
theorem dX5_numberBits_21 : decode cX5_numberBits 21 = .ok (.aload_n 0, 1) := by decide +kernel
theorem dX5_numberBits_22 : decode cX5_numberBits 22 = .ok (.getfield 24, 3) := by decide +kernel
theorem dX5_numberBits_25 : decode cX5_numberBits 25 = .ok (.putfield 70, 3) := by decide +kernel
theorem dX5_numberBits_28 : decode cX5_numberBits 28 = .ok (.aload_n 0, 1) := by decide +kernel
theorem dX5_numberBits_29 : decode cX5_numberBits 29 = .ok (.dup, 1) := by decide +kernel
theorem dX5_numberBits_30 : decode cX5_numberBits 30 = .ok (.getfield 24, 3) := by decide +kernel
theorem dX5_numberBits_33 : decode cX5_numberBits 33 = .ok (.aload_n 0, 1) := by decide +kernel
theorem dX5_numberBits_34 : decode cX5_numberBits 34 = .ok (.getfield 11, 3) := by decide +kernel
theorem dX5_numberBits_37 : decode cX5_numberBits 37 = .ok (.iload_n 1, 1) := by decide +kernel
theorem dX5_numberBits_38 : decode cX5_numberBits 38 = .ok (.aaload, 1) := by decide +kernel
theorem dX5_numberBits_39 : decode cX5_numberBits 39 = .ok (.getfield 73, 3) := by decide +kernel
theorem dX5_numberBits_42 : decode cX5_numberBits 42 = .ok (.iadd, 1) := by decide +kernel
theorem dX5_numberBits_43 : decode cX5_numberBits 43 = .ok (.putfield 24, 3) := by decide +kernel
theorem dX5_numberBits_46 : decode cX5_numberBits 46 = .ok (.iinc 1 1, 3) := by decide +kernel
theorem dX5_numberBits_49 : decode cX5_numberBits 49 = .ok (.goto (-42), 3) := by decide +kernel
theorem dX5_numberBits_52 : decode cX5_numberBits 52 = .ok (.return_, 1) := by decide +kernel
theorem dX5_firstMisfit_0 : decode cX5_firstMisfit 0 = .ok (.sipush 1001, 3) := by decide +kernel
theorem dX5_firstMisfit_3 : decode cX5_firstMisfit 3 = .ok (.istore_n 1, 1) := by decide +kernel
theorem dX5_firstMisfit_4 : decode cX5_firstMisfit 4 = .ok (.iconst 0, 1) := by decide +kernel
theorem dX5_firstMisfit_5 : decode cX5_firstMisfit 5 = .ok (.istore_n 2, 1) := by decide +kernel
theorem dX5_firstMisfit_6 : decode cX5_firstMisfit 6 = .ok (.iload_n 2, 1) := by decide +kernel
theorem dX5_firstMisfit_7 : decode cX5_firstMisfit 7 = .ok (.aload_n 0, 1) := by decide +kernel
theorem dX5_firstMisfit_8 : decode cX5_firstMisfit 8 = .ok (.getfield 36, 3) := by decide +kernel
theorem dX5_firstMisfit_11 : decode cX5_firstMisfit 11 = .ok (.if_icmp .ge 44, 3) := by decide +kernel
theorem dX5_firstMisfit_14 : decode cX5_firstMisfit 14 = .ok (.aload_n 0, 1) := by decide +kernel
theorem dX5_firstMisfit_15 : decode cX5_firstMisfit 15 = .ok (.getfield 29, 3) := by decide +kernel
theorem dX5_firstMisfit_18 : decode cX5_firstMisfit 18 = .ok (.iload_n 2, 1) := by decide +kernel
theorem dX5_firstMisfit_19 : decode cX5_firstMisfit 19 = .ok (.aaload, 1) := by decide +kernel
theorem dX5_firstMisfit_20 : decode cX5_firstMisfit 20 = .ok (.invokevirtual 76, 3) := by decide +kernel
theorem dX5_firstMisfit_23 : decode cX5_firstMisfit 23 = .ok (.aload_n 0, 1) := by decide +kernel
theorem dX5_firstMisfit_24 : decode cX5_firstMisfit 24 = .ok (.getfield 33, 3) := by decide +kernel
theorem dX5_firstMisfit_27 : decode cX5_firstMisfit 27 = .ok (.iload_n 2, 1) := by decide +kernel
theorem dX5_firstMisfit_28 : decode cX5_firstMisfit 28 = .ok (.aaload, 1) := by decide +kernel
theorem dX5_firstMisfit_29 : decode cX5_firstMisfit 29 = .ok (.invokevirtual 76, 3) := by decide +kernel
theorem dX5_firstMisfit_32 : decode cX5_firstMisfit 32 = .ok (.if_icmp .eq 17, 3) := by decide +kernel
theorem dX5_firstMisfit_35 : decode cX5_firstMisfit 35 = .ok (.iload_n 1, 1) := by decide +kernel
theorem dX5_firstMisfit_36 : decode cX5_firstMisfit 36 = .ok (.aload_n 0, 1) := by decide +kernel
theorem dX5_firstMisfit_37 : decode cX5_firstMisfit 37 = .ok (.getfield 33, 3) := by decide +kernel
theorem dX5_firstMisfit_40 : decode cX5_firstMisfit 40 = .ok (.iload_n 2, 1) := by decide +kernel
theorem dX5_firstMisfit_41 : decode cX5_firstMisfit 41 = .ok (.aaload, 1) := by decide +kernel
theorem dX5_firstMisfit_42 : decode cX5_firstMisfit 42 = .ok (.getfield 79, 3) := by decide +kernel
theorem dX5_firstMisfit_45 : decode cX5_firstMisfit 45 = .ok (.invokestatic 80, 3) := by decide +kernel
theorem dX5_firstMisfit_48 : decode cX5_firstMisfit 48 = .ok (.istore_n 1, 1) := by decide +kernel
theorem dX5_firstMisfit_49 : decode cX5_firstMisfit 49 = .ok (.iinc 2 1, 3) := by decide +kernel
theorem dX5_firstMisfit_52 : decode cX5_firstMisfit 52 = .ok (.goto (-46), 3) := by decide +kernel
theorem dX5_firstMisfit_55 : decode cX5_firstMisfit 55 = .ok (.iconst 0, 1) := by decide +kernel
theorem dX5_firstMisfit_56 : decode cX5_firstMisfit 56 = .ok (.istore_n 2, 1) := by decide +kernel
theorem dX5_firstMisfit_57 : decode cX5_firstMisfit 57 = .ok (.iload_n 2, 1) := by decide +kernel
theorem dX5_firstMisfit_58 : decode cX5_firstMisfit 58 = .ok (.aload_n 0, 1) := by decide +kernel
theorem dX5_firstMisfit_59 : decode cX5_firstMisfit 59 = .ok (.getfield 45, 3) := by decide +kernel
theorem dX5_firstMisfit_62 : decode cX5_firstMisfit 62 = .ok (.if_icmp .ge 23, 3) := by decide +kernel
theorem dX5_firstMisfit_65 : decode cX5_firstMisfit 65 = .ok (.iload_n 1, 1) := by decide +kernel
theorem dX5_firstMisfit_66 : decode cX5_firstMisfit 66 = .ok (.aload_n 0, 1) := by decide +kernel
theorem dX5_firstMisfit_67 : decode cX5_firstMisfit 67 = .ok (.getfield 41, 3) := by decide +kernel
theorem dX5_firstMisfit_70 : decode cX5_firstMisfit 70 = .ok (.iload_n 2, 1) := by decide +kernel
theorem dX5_firstMisfit_71 : decode cX5_firstMisfit 71 = .ok (.aaload, 1) := by decide +kernel
theorem dX5_firstMisfit_72 : decode cX5_firstMisfit 72 = .ok (.invokevirtual 86, 3) := by decide +kernel
theorem dX5_firstMisfit_75 : decode cX5_firstMisfit 75 = .ok (.invokestatic 80, 3) := by decide +kernel
theorem dX5_firstMisfit_78 : decode cX5_firstMisfit 78 = .ok (.istore_n 1, 1) := by decide +kernel
theorem dX5_firstMisfit_79 : decode cX5_firstMisfit 79 = .ok (.iinc 2 1, 3) := by decide +kernel
theorem dX5_firstMisfit_82 : decode cX5_firstMisfit 82 = .ok (.goto (-25), 3) := by decide +kernel
theorem dX5_firstMisfit_85 : decode cX5_firstMisfit 85 = .ok (.iload_n 1, 1) := by decide +kernel
theorem dX5_firstMisfit_86 : decode cX5_firstMisfit 86 = .ok (.ireturn, 1) := by decide +kernel
theorem dX5_kindsWithin_0 : decode cX5_kindsWithin 0 = .ok (.iconst 0, 1) := by decide +kernel
theorem dX5_kindsWithin_1 : decode cX5_kindsWithin 1 = .ok (.istore_n 1, 1) := by decide +kernel
theorem dX5_kindsWithin_2 : decode cX5_kindsWithin 2 = .ok (.iconst 0, 1) := by decide +kernel
theorem dX5_kindsWithin_3 : decode cX5_kindsWithin 3 = .ok (.istore_n 2, 1) := by decide +kernel
theorem dX5_kindsWithin_4 : decode cX5_kindsWithin 4 = .ok (.iload_n 2, 1) := by decide +kernel
theorem dX5_kindsWithin_5 : decode cX5_kindsWithin 5 = .ok (.aload_n 0, 1) := by decide +kernel
theorem dX5_kindsWithin_6 : decode cX5_kindsWithin 6 = .ok (.getfield 45, 3) := by decide +kernel
theorem dX5_kindsWithin_9 : decode cX5_kindsWithin 9 = .ok (.if_icmp .ge 42, 3) := by decide +kernel
theorem dX5_kindsWithin_12 : decode cX5_kindsWithin 12 = .ok (.iload_n 1, 1) := by decide +kernel
theorem dX5_kindsWithin_13 : decode cX5_kindsWithin 13 = .ok (.aload_n 0, 1) := by decide +kernel
theorem dX5_kindsWithin_14 : decode cX5_kindsWithin 14 = .ok (.getfield 41, 3) := by decide +kernel
theorem dX5_kindsWithin_17 : decode cX5_kindsWithin 17 = .ok (.iload_n 2, 1) := by decide +kernel
theorem dX5_kindsWithin_18 : decode cX5_kindsWithin 18 = .ok (.aaload, 1) := by decide +kernel
theorem dX5_kindsWithin_19 : decode cX5_kindsWithin 19 = .ok (.getfield 89, 3) := by decide +kernel
theorem dX5_kindsWithin_22 : decode cX5_kindsWithin 22 = .ok (.ifnonnull 7, 3) := by decide +kernel
theorem dX5_kindsWithin_25 : decode cX5_kindsWithin 25 = .ok (.iconst 0, 1) := by decide +kernel
theorem dX5_kindsWithin_26 : decode cX5_kindsWithin 26 = .ok (.goto 17, 3) := by decide +kernel
theorem dX5_kindsWithin_29 : decode cX5_kindsWithin 29 = .ok (.iconst 1, 1) := by decide +kernel
theorem dX5_kindsWithin_30 : decode cX5_kindsWithin 30 = .ok (.aload_n 0, 1) := by decide +kernel
theorem dX5_kindsWithin_31 : decode cX5_kindsWithin 31 = .ok (.getfield 41, 3) := by decide +kernel
theorem dX5_kindsWithin_34 : decode cX5_kindsWithin 34 = .ok (.iload_n 2, 1) := by decide +kernel
theorem dX5_kindsWithin_35 : decode cX5_kindsWithin 35 = .ok (.aaload, 1) := by decide +kernel
theorem dX5_kindsWithin_36 : decode cX5_kindsWithin 36 = .ok (.getfield 89, 3) := by decide +kernel
theorem dX5_kindsWithin_39 : decode cX5_kindsWithin 39 = .ok (.getfield 51, 3) := by decide +kernel
theorem dX5_kindsWithin_42 : decode cX5_kindsWithin 42 = .ok (.ishl, 1) := by decide +kernel
theorem dX5_kindsWithin_43 : decode cX5_kindsWithin 43 = .ok (.ior, 1) := by decide +kernel
theorem dX5_kindsWithin_44 : decode cX5_kindsWithin 44 = .ok (.istore_n 1, 1) := by decide +kernel
theorem dX5_kindsWithin_45 : decode cX5_kindsWithin 45 = .ok (.iinc 2 1, 3) := by decide +kernel
theorem dX5_kindsWithin_48 : decode cX5_kindsWithin 48 = .ok (.goto (-44), 3) := by decide +kernel
theorem dX5_kindsWithin_51 : decode cX5_kindsWithin 51 = .ok (.iload_n 1, 1) := by decide +kernel
theorem dX5_kindsWithin_52 : decode cX5_kindsWithin 52 = .ok (.ireturn, 1) := by decide +kernel
theorem dX5_belowByKinds_0 : decode cX5_belowByKinds 0 = .ok (.iconst 0, 1) := by decide +kernel
theorem dX5_belowByKinds_1 : decode cX5_belowByKinds 1 = .ok (.istore_n 1, 1) := by decide +kernel
theorem dX5_belowByKinds_2 : decode cX5_belowByKinds 2 = .ok (.iconst 0, 1) := by decide +kernel
theorem dX5_belowByKinds_3 : decode cX5_belowByKinds 3 = .ok (.istore_n 2, 1) := by decide +kernel
theorem dX5_belowByKinds_4 : decode cX5_belowByKinds 4 = .ok (.iload_n 2, 1) := by decide +kernel
theorem dX5_belowByKinds_5 : decode cX5_belowByKinds 5 = .ok (.aload_n 0, 1) := by decide +kernel
theorem dX5_belowByKinds_6 : decode cX5_belowByKinds 6 = .ok (.getfield 45, 3) := by decide +kernel
theorem dX5_belowByKinds_9 : decode cX5_belowByKinds 9 = .ok (.if_icmp .ge 44, 3) := by decide +kernel
theorem dX5_belowByKinds_12 : decode cX5_belowByKinds 12 = .ok (.iload_n 1, 1) := by decide +kernel
theorem dX5_belowByKinds_13 : decode cX5_belowByKinds 13 = .ok (.aload_n 0, 1) := by decide +kernel
theorem dX5_belowByKinds_14 : decode cX5_belowByKinds 14 = .ok (.getfield 41, 3) := by decide +kernel
theorem dX5_belowByKinds_17 : decode cX5_belowByKinds 17 = .ok (.iload_n 2, 1) := by decide +kernel
theorem dX5_belowByKinds_18 : decode cX5_belowByKinds 18 = .ok (.aaload, 1) := by decide +kernel
theorem dX5_belowByKinds_19 : decode cX5_belowByKinds 19 = .ok (.getfield 89, 3) := by decide +kernel
theorem dX5_belowByKinds_22 : decode cX5_belowByKinds 22 = .ok (.ifnonnull 7, 3) := by decide +kernel
theorem dX5_belowByKinds_25 : decode cX5_belowByKinds 25 = .ok (.iconst 0, 1) := by decide +kernel
theorem dX5_belowByKinds_26 : decode cX5_belowByKinds 26 = .ok (.goto 17, 3) := by decide +kernel
theorem dX5_belowByKinds_29 : decode cX5_belowByKinds 29 = .ok (.aload_n 0, 1) := by decide +kernel
theorem dX5_belowByKinds_30 : decode cX5_belowByKinds 30 = .ok (.getfield 41, 3) := by decide +kernel
theorem dX5_belowByKinds_33 : decode cX5_belowByKinds 33 = .ok (.iload_n 2, 1) := by decide +kernel
theorem dX5_belowByKinds_34 : decode cX5_belowByKinds 34 = .ok (.aaload, 1) := by decide +kernel
theorem dX5_belowByKinds_35 : decode cX5_belowByKinds 35 = .ok (.getfield 89, 3) := by decide +kernel
theorem dX5_belowByKinds_38 : decode cX5_belowByKinds 38 = .ok (.getfield 48, 3) := by decide +kernel
theorem dX5_belowByKinds_41 : decode cX5_belowByKinds 41 = .ok (.iconst 1, 1) := by decide +kernel
theorem dX5_belowByKinds_42 : decode cX5_belowByKinds 42 = .ok (.iadd, 1) := by decide +kernel
theorem dX5_belowByKinds_43 : decode cX5_belowByKinds 43 = .ok (.invokestatic 93, 3) := by decide +kernel
theorem dX5_belowByKinds_46 : decode cX5_belowByKinds 46 = .ok (.istore_n 1, 1) := by decide +kernel
theorem dX5_belowByKinds_47 : decode cX5_belowByKinds 47 = .ok (.iinc 2 1, 3) := by decide +kernel
theorem dX5_belowByKinds_50 : decode cX5_belowByKinds 50 = .ok (.goto (-46), 3) := by decide +kernel
theorem dX5_belowByKinds_53 : decode cX5_belowByKinds 53 = .ok (.iload_n 1, 1) := by decide +kernel
theorem dX5_belowByKinds_54 : decode cX5_belowByKinds 54 = .ok (.ireturn, 1) := by decide +kernel
theorem dX6_init_0 : decode cX6_init 0 = .ok (.aload_n 0, 1) := by decide +kernel
theorem dX6_init_1 : decode cX6_init 1 = .ok (.invokespecial 3, 3) := by decide +kernel
theorem dX6_init_4 : decode cX6_init 4 = .ok (.aload_n 0, 1) := by decide +kernel
theorem dX6_init_5 : decode cX6_init 5 = .ok (.iload_n 1, 1) := by decide +kernel
theorem dX6_init_6 : decode cX6_init 6 = .ok (.putfield 9, 3) := by decide +kernel
theorem dX6_init_9 : decode cX6_init 9 = .ok (.aload_n 0, 1) := by decide +kernel
theorem dX6_init_10 : decode cX6_init 10 = .ok (.iload_n 2, 1) := by decide +kernel
theorem dX6_init_11 : decode cX6_init 11 = .ok (.putfield 15, 3) := by decide +kernel
theorem dX6_init_14 : decode cX6_init 14 = .ok (.aload_n 0, 1) := by decide +kernel
theorem dX6_init_15 : decode cX6_init 15 = .ok (.aload_n 3, 1) := by decide +kernel
theorem dX6_init_16 : decode cX6_init 16 = .ok (.putfield 18, 3) := by decide +kernel
theorem dX6_init_19 : decode cX6_init 19 = .ok (.aload_n 0, 1) := by decide +kernel
theorem dX6_init_20 : decode cX6_init 20 = .ok (.iload 4, 2) := by decide +kernel
theorem dX6_init_22 : decode cX6_init 22 = .ok (.putfield 22, 3) := by decide +kernel
theorem dX6_init_25 : decode cX6_init 25 = .ok (.aload_n 0, 1) := by decide +kernel
theorem dX6_init_26 : decode cX6_init 26 = .ok (.iload 5, 2) := by decide +kernel
theorem dX6_init_28 : decode cX6_init 28 = .ok (.putfield 25, 3) := by decide +kernel
theorem dX6_init_31 : decode cX6_init 31 = .ok (.aload_n 0, 1) := by decide +kernel
theorem dX6_init_32 : decode cX6_init 32 = .ok (.iconst 0, 1) := by decide +kernel
theorem dX6_init_33 : decode cX6_init 33 = .ok (.putfield 28, 3) := by decide +kernel
theorem dX6_init_36 : decode cX6_init 36 = .ok (.return_, 1) := by decide +kernel
theorem dX6_init__0 : decode cX6_init_ 0 = .ok (.aload_n 0, 1) := by decide +kernel
theorem dX6_init__1 : decode cX6_init_ 1 = .ok (.invokespecial 3, 3) := by decide +kernel
theorem dX6_init__4 : decode cX6_init_ 4 = .ok (.aload_n 0, 1) := by decide +kernel
theorem dX6_init__5 : decode cX6_init_ 5 = .ok (.iconst 3, 1) := by decide +kernel
theorem dX6_init__6 : decode cX6_init_ 6 = .ok (.putfield 9, 3) := by decide +kernel
theorem dX6_init__9 : decode cX6_init_ 9 = .ok (.aload_n 0, 1) := by decide +kernel
theorem dX6_init__10 : decode cX6_init_ 10 = .ok (.iload_n 1, 1) := by decide +kernel
theorem dX6_init__11 : decode cX6_init_ 11 = .ok (.putfield 15, 3) := by decide +kernel
theorem dX6_init__14 : decode cX6_init_ 14 = .ok (.aload_n 0, 1) := by decide +kernel
theorem dX6_init__15 : decode cX6_init_ 15 = .ok (.aconst_null, 1) := by decide +kernel
theorem dX6_init__16 : decode cX6_init_ 16 = .ok (.putfield 18, 3) := by decide +kernel
theorem dX6_init__19 : decode cX6_init_ 19 = .ok (.aload_n 0, 1) := by decide +kernel
theorem dX6_init__20 : decode cX6_init_ 20 = .ok (.iload_n 2, 1) := by decide +kernel
theorem dX6_init__21 : decode cX6_init_ 21 = .ok (.iconst 1, 1) := by decide +kernel
theorem dX6_init__22 : decode cX6_init_ 22 = .ok (.isub, 1) := by decide +kernel
theorem dX6_init__23 : decode cX6_init_ 23 = .ok (.putfield 22, 3) := by decide +kernel
theorem dX6_init__26 : decode cX6_init_ 26 = .ok (.aload_n 0, 1) := by decide +kernel
theorem dX6_init__27 : decode cX6_init_ 27 = .ok (.iconst 0, 1) := by decide +kernel
theorem dX6_init__28 : decode cX6_init_ 28 = .ok (.putfield 25, 3) := by decide +kernel
theorem dX6_init__31 : decode cX6_init_ 31 = .ok (.aload_n 0, 1) := by decide +kernel
theorem dX6_init__32 : decode cX6_init_ 32 = .ok (.iload_n 3, 1) := by decide +kernel
theorem dX6_init__33 : decode cX6_init_ 33 = .ok (.putfield 28, 3) := by decide +kernel
theorem dX6_init__36 : decode cX6_init_ 36 = .ok (.return_, 1) := by decide +kernel
theorem dX6_width_0 : decode cX6_width 0 = .ok (.aload_n 0, 1) := by decide +kernel
theorem dX6_width_1 : decode cX6_width 1 = .ok (.getfield 22, 3) := by decide +kernel
theorem dX6_width_4 : decode cX6_width 4 = .ok (.aload_n 0, 1) := by decide +kernel
theorem dX6_width_5 : decode cX6_width 5 = .ok (.getfield 25, 3) := by decide +kernel
theorem dX6_width_8 : decode cX6_width 8 = .ok (.isub, 1) := by decide +kernel
theorem dX6_width_9 : decode cX6_width 9 = .ok (.iconst 1, 1) := by decide +kernel
theorem dX6_width_10 : decode cX6_width 10 = .ok (.iadd, 1) := by decide +kernel
theorem dX6_width_11 : decode cX6_width 11 = .ok (.ireturn, 1) := by decide +kernel
theorem dX6_bitAt_0 : decode cX6_bitAt 0 = .ok (.aload_n 0, 1) := by decide +kernel
theorem dX6_bitAt_1 : decode cX6_bitAt 1 = .ok (.getfield 18, 3) := by decide +kernel
theorem dX6_bitAt_4 : decode cX6_bitAt 4 = .ok (.ifnonnull 23, 3) := by decide +kernel
theorem dX6_bitAt_7 : decode cX6_bitAt 7 = .ok (.aload_n 0, 1) := by decide +kernel
theorem dX6_bitAt_8 : decode cX6_bitAt 8 = .ok (.getfield 28, 3) := by decide +kernel
theorem dX6_bitAt_11 : decode cX6_bitAt 11 = .ok (.iload_n 1, 1) := by decide +kernel
theorem dX6_bitAt_12 : decode cX6_bitAt 12 = .ok (.ishr, 1) := by decide +kernel
theorem dX6_bitAt_13 : decode cX6_bitAt 13 = .ok (.iconst 1, 1) := by decide +kernel
theorem dX6_bitAt_14 : decode cX6_bitAt 14 = .ok (.iand, 1) := by decide +kernel
theorem dX6_bitAt_15 : decode cX6_bitAt 15 = .ok (.iconst 1, 1) := by decide +kernel
theorem dX6_bitAt_16 : decode cX6_bitAt 16 = .ok (.if_icmp .ne 8, 3) := by decide +kernel
theorem dX6_bitAt_19 : decode cX6_bitAt 19 = .ok (.bipush (-3), 2) := by decide +kernel
theorem dX6_bitAt_21 : decode cX6_bitAt 21 = .ok (.goto 5, 3) := by decide +kernel
theorem dX6_bitAt_24 : decode cX6_bitAt 24 = .ok (.bipush (-2), 2) := by decide +kernel
theorem dX6_bitAt_26 : decode cX6_bitAt 26 = .ok (.ireturn, 1) := by decide +kernel
theorem dX6_bitAt_27 : decode cX6_bitAt 27 = .ok (.aload_n 0, 1) := by decide +kernel
theorem dX6_bitAt_28 : decode cX6_bitAt 28 = .ok (.getfield 18, 3) := by decide +kernel
theorem dX6_bitAt_31 : decode cX6_bitAt 31 = .ok (.getfield 31, 3) := by decide +kernel
theorem dX6_bitAt_34 : decode cX6_bitAt 34 = .ok (.aload_n 0, 1) := by decide +kernel
theorem dX6_bitAt_35 : decode cX6_bitAt 35 = .ok (.getfield 25, 3) := by decide +kernel
theorem dX6_bitAt_38 : decode cX6_bitAt 38 = .ok (.iadd, 1) := by decide +kernel
theorem dX6_bitAt_39 : decode cX6_bitAt 39 = .ok (.iload_n 1, 1) := by decide +kernel
theorem dX6_bitAt_40 : decode cX6_bitAt 40 = .ok (.iadd, 1) := by decide +kernel
theorem dX6_bitAt_41 : decode cX6_bitAt 41 = .ok (.ireturn, 1) := by decide +kernel
