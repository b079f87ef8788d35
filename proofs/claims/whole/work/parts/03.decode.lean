theorem zd_O_init_0 : decode zc_O_init 0 = .ok (.aload_n 0, 1) := by decide +kernel
theorem zd_O_init_1 : decode zc_O_init 1 = .ok (.invokespecial 1, 3) := by decide +kernel
theorem zd_O_init_4 : decode zc_O_init 4 = .ok (.aload_n 0, 1) := by decide +kernel
theorem zd_O_init_5 : decode zc_O_init 5 = .ok (.new 7, 3) := by decide +kernel
theorem zd_O_init_8 : decode zc_O_init 8 = .ok (.dup, 1) := by decide +kernel
theorem zd_O_init_9 : decode zc_O_init 9 = .ok (.invokespecial 9, 3) := by decide +kernel
theorem zd_O_init_12 : decode zc_O_init 12 = .ok (.putfield 10, 3) := by decide +kernel
theorem zd_O_init_15 : decode zc_O_init 15 = .ok (.aload_n 0, 1) := by decide +kernel
theorem zd_O_init_16 : decode zc_O_init 16 = .ok (.new 16, 3) := by decide +kernel
theorem zd_O_init_19 : decode zc_O_init 19 = .ok (.dup, 1) := by decide +kernel
theorem zd_O_init_20 : decode zc_O_init 20 = .ok (.invokespecial 18, 3) := by decide +kernel
theorem zd_O_init_23 : decode zc_O_init 23 = .ok (.putfield 19, 3) := by decide +kernel
theorem zd_O_init_26 : decode zc_O_init 26 = .ok (.aload_n 0, 1) := by decide +kernel
theorem zd_O_init_27 : decode zc_O_init 27 = .ok (.new 23, 3) := by decide +kernel
theorem zd_O_init_30 : decode zc_O_init 30 = .ok (.dup, 1) := by decide +kernel
theorem zd_O_init_31 : decode zc_O_init 31 = .ok (.invokespecial 25, 3) := by decide +kernel
theorem zd_O_init_34 : decode zc_O_init 34 = .ok (.putfield 26, 3) := by decide +kernel
theorem zd_O_init_37 : decode zc_O_init 37 = .ok (.aload_n 0, 1) := by decide +kernel
theorem zd_O_init_38 : decode zc_O_init 38 = .ok (.new 30, 3) := by decide +kernel
theorem zd_O_init_41 : decode zc_O_init 41 = .ok (.dup, 1) := by decide +kernel
theorem zd_O_init_42 : decode zc_O_init 42 = .ok (.invokespecial 32, 3) := by decide +kernel
theorem zd_O_init_45 : decode zc_O_init 45 = .ok (.putfield 33, 3) := by decide +kernel
theorem zd_O_init_48 : decode zc_O_init 48 = .ok (.aload_n 0, 1) := by decide +kernel
theorem zd_O_init_49 : decode zc_O_init 49 = .ok (.new 37, 3) := by decide +kernel
theorem zd_O_init_52 : decode zc_O_init 52 = .ok (.dup, 1) := by decide +kernel
theorem zd_O_init_53 : decode zc_O_init 53 = .ok (.invokespecial 39, 3) := by decide +kernel
theorem zd_O_init_56 : decode zc_O_init 56 = .ok (.putfield 40, 3) := by decide +kernel
theorem zd_O_init_59 : decode zc_O_init 59 = .ok (.aload_n 0, 1) := by decide +kernel
theorem zd_O_init_60 : decode zc_O_init 60 = .ok (.new 44, 3) := by decide +kernel
theorem zd_O_init_63 : decode zc_O_init 63 = .ok (.dup, 1) := by decide +kernel
theorem zd_O_init_64 : decode zc_O_init 64 = .ok (.invokespecial 46, 3) := by decide +kernel
theorem zd_O_init_67 : decode zc_O_init 67 = .ok (.putfield 47, 3) := by decide +kernel
theorem zd_O_init_70 : decode zc_O_init 70 = .ok (.aload_n 0, 1) := by decide +kernel
theorem zd_O_init_71 : decode zc_O_init 71 = .ok (.new 51, 3) := by decide +kernel
theorem zd_O_init_74 : decode zc_O_init 74 = .ok (.dup, 1) := by decide +kernel
theorem zd_O_init_75 : decode zc_O_init 75 = .ok (.invokespecial 53, 3) := by decide +kernel
theorem zd_O_init_78 : decode zc_O_init 78 = .ok (.putfield 54, 3) := by decide +kernel
theorem zd_O_init_81 : decode zc_O_init 81 = .ok (.aload_n 0, 1) := by decide +kernel
theorem zd_O_init_82 : decode zc_O_init 82 = .ok (.new 58, 3) := by decide +kernel
theorem zd_O_init_85 : decode zc_O_init 85 = .ok (.dup, 1) := by decide +kernel
theorem zd_O_init_86 : decode zc_O_init 86 = .ok (.invokespecial 60, 3) := by decide +kernel
theorem zd_O_init_89 : decode zc_O_init 89 = .ok (.putfield 61, 3) := by decide +kernel
theorem zd_O_init_92 : decode zc_O_init 92 = .ok (.aload_n 0, 1) := by decide +kernel
theorem zd_O_init_93 : decode zc_O_init 93 = .ok (.new 65, 3) := by decide +kernel
theorem zd_O_init_96 : decode zc_O_init 96 = .ok (.dup, 1) := by decide +kernel
theorem zd_O_init_97 : decode zc_O_init 97 = .ok (.invokespecial 67, 3) := by decide +kernel
theorem zd_O_init_100 : decode zc_O_init 100 = .ok (.putfield 68, 3) := by decide +kernel
theorem zd_O_init_103 : decode zc_O_init 103 = .ok (.aload_n 0, 1) := by decide +kernel
theorem zd_O_init_104 : decode zc_O_init 104 = .ok (.new 72, 3) := by decide +kernel
theorem zd_O_init_107 : decode zc_O_init 107 = .ok (.dup, 1) := by decide +kernel
theorem zd_O_init_108 : decode zc_O_init 108 = .ok (.invokespecial 74, 3) := by decide +kernel
theorem zd_O_init_111 : decode zc_O_init 111 = .ok (.putfield 75, 3) := by decide +kernel
theorem zd_O_init_114 : decode zc_O_init 114 = .ok (.aload_n 0, 1) := by decide +kernel
theorem zd_O_init_115 : decode zc_O_init 115 = .ok (.iconst 0, 1) := by decide +kernel
theorem zd_O_init_116 : decode zc_O_init 116 = .ok (.putfield 79, 3) := by decide +kernel
theorem zd_O_init_119 : decode zc_O_init 119 = .ok (.return_, 1) := by decide +kernel
theorem zd_O_thing_0 : decode zc_O_thing 0 = .ok (.aload_n 0, 1) := by decide +kernel
theorem zd_O_thing_1 : decode zc_O_thing 1 = .ok (.getfield 79, 3) := by decide +kernel
theorem zd_O_thing_4 : decode zc_O_thing 4 = .ok (.bipush 16, 2) := by decide +kernel
theorem zd_O_thing_6 : decode zc_O_thing 6 = .ok (.invokestatic 83, 3) := by decide +kernel
theorem zd_O_thing_9 : decode zc_O_thing 9 = .ok (.aload_n 0, 1) := by decide +kernel
theorem zd_O_thing_10 : decode zc_O_thing 10 = .ok (.dup, 1) := by decide +kernel
theorem zd_O_thing_11 : decode zc_O_thing 11 = .ok (.getfield 79, 3) := by decide +kernel
theorem zd_O_thing_14 : decode zc_O_thing 14 = .ok (.iconst 1, 1) := by decide +kernel
theorem zd_O_thing_15 : decode zc_O_thing 15 = .ok (.iadd, 1) := by decide +kernel
theorem zd_O_thing_16 : decode zc_O_thing 16 = .ok (.putfield 79, 3) := by decide +kernel
theorem zd_O_thing_19 : decode zc_O_thing 19 = .ok (.aload_n 0, 1) := by decide +kernel
theorem zd_O_thing_20 : decode zc_O_thing 20 = .ok (.getfield 79, 3) := by decide +kernel
theorem zd_O_thing_23 : decode zc_O_thing 23 = .ok (.iconst 1, 1) := by decide +kernel
theorem zd_O_thing_24 : decode zc_O_thing 24 = .ok (.isub, 1) := by decide +kernel
theorem zd_O_thing_25 : decode zc_O_thing 25 = .ok (.ireturn, 1) := by decide +kernel
theorem zd_O_owner_0 : decode zc_O_owner 0 = .ok (.iload_n 1, 1) := by decide +kernel
theorem zd_O_owner_1 : decode zc_O_owner 1 = .ok (.aload_n 0, 1) := by decide +kernel
theorem zd_O_owner_2 : decode zc_O_owner 2 = .ok (.getfield 79, 3) := by decide +kernel
theorem zd_O_owner_5 : decode zc_O_owner 5 = .ok (.invokestatic 87, 3) := by decide +kernel
theorem zd_O_owner_8 : decode zc_O_owner 8 = .ok (.iload_n 2, 1) := by decide +kernel
theorem zd_O_owner_9 : decode zc_O_owner 9 = .ok (.bipush 32, 2) := by decide +kernel
theorem zd_O_owner_11 : decode zc_O_owner 11 = .ok (.invokestatic 87, 3) := by decide +kernel
theorem zd_O_owner_14 : decode zc_O_owner 14 = .ok (.iload_n 3, 1) := by decide +kernel
theorem zd_O_owner_15 : decode zc_O_owner 15 = .ok (.iload 4, 2) := by decide +kernel
theorem zd_O_owner_17 : decode zc_O_owner 17 = .ok (.invokestatic 90, 3) := by decide +kernel
theorem zd_O_owner_20 : decode zc_O_owner 20 = .ok (.iload 5, 2) := by decide +kernel
theorem zd_O_owner_22 : decode zc_O_owner 22 = .ok (.invokestatic 93, 3) := by decide +kernel
theorem zd_O_owner_25 : decode zc_O_owner 25 = .ok (.aload_n 0, 1) := by decide +kernel
theorem zd_O_owner_26 : decode zc_O_owner 26 = .ok (.getfield 10, 3) := by decide +kernel
theorem zd_O_owner_29 : decode zc_O_owner 29 = .ok (.getfield 97, 3) := by decide +kernel
theorem zd_O_owner_32 : decode zc_O_owner 32 = .ok (.bipush 120, 2) := by decide +kernel
theorem zd_O_owner_34 : decode zc_O_owner 34 = .ok (.invokestatic 83, 3) := by decide +kernel
theorem zd_O_owner_37 : decode zc_O_owner 37 = .ok (.aload_n 0, 1) := by decide +kernel
theorem zd_O_owner_38 : decode zc_O_owner 38 = .ok (.getfield 10, 3) := by decide +kernel
theorem zd_O_owner_41 : decode zc_O_owner 41 = .ok (.iload_n 1, 1) := by decide +kernel
theorem zd_O_owner_42 : decode zc_O_owner 42 = .ok (.iload_n 2, 1) := by decide +kernel
theorem zd_O_owner_43 : decode zc_O_owner 43 = .ok (.iload_n 3, 1) := by decide +kernel
theorem zd_O_owner_44 : decode zc_O_owner 44 = .ok (.iload 4, 2) := by decide +kernel
theorem zd_O_owner_46 : decode zc_O_owner 46 = .ok (.iload 5, 2) := by decide +kernel
theorem zd_O_owner_48 : decode zc_O_owner 48 = .ok (.invokevirtual 100, 3) := by decide +kernel
theorem zd_O_owner_51 : decode zc_O_owner 51 = .ok (.ireturn, 1) := by decide +kernel
theorem zd_O_share_0 : decode zc_O_share 0 = .ok (.iload_n 1, 1) := by decide +kernel
theorem zd_O_share_1 : decode zc_O_share 1 = .ok (.aload_n 0, 1) := by decide +kernel
theorem zd_O_share_2 : decode zc_O_share 2 = .ok (.getfield 10, 3) := by decide +kernel
theorem zd_O_share_5 : decode zc_O_share 5 = .ok (.getfield 97, 3) := by decide +kernel
theorem zd_O_share_8 : decode zc_O_share 8 = .ok (.invokestatic 87, 3) := by decide +kernel
theorem zd_O_share_11 : decode zc_O_share 11 = .ok (.iload_n 2, 1) := by decide +kernel
theorem zd_O_share_12 : decode zc_O_share 12 = .ok (.iconst 1, 1) := by decide +kernel
theorem zd_O_share_13 : decode zc_O_share 13 = .ok (.if_icmp .lt 15, 3) := by decide +kernel
theorem zd_O_share_16 : decode zc_O_share 16 = .ok (.iload_n 2, 1) := by decide +kernel
theorem zd_O_share_17 : decode zc_O_share 17 = .ok (.iload_n 3, 1) := by decide +kernel
theorem zd_O_share_18 : decode zc_O_share 18 = .ok (.if_icmp .gt 10, 3) := by decide +kernel
theorem zd_O_share_21 : decode zc_O_share 21 = .ok (.iload_n 3, 1) := by decide +kernel
theorem zd_O_share_22 : decode zc_O_share 22 = .ok (.sipush 1000, 3) := by decide +kernel
theorem zd_O_share_25 : decode zc_O_share 25 = .ok (.if_icmp .le 13, 3) := by decide +kernel
theorem zd_O_share_28 : decode zc_O_share 28 = .ok (.new 104, 3) := by decide +kernel
theorem zd_O_share_31 : decode zc_O_share 31 = .ok (.dup, 1) := by decide +kernel
theorem zd_O_share_32 : decode zc_O_share 32 = .ok (.ldc 106, 2) := by decide +kernel
theorem zd_O_share_34 : decode zc_O_share 34 = .ok (.invokespecial 108, 3) := by decide +kernel
theorem zd_O_share_37 : decode zc_O_share 37 = .ok (.athrow, 1) := by decide +kernel
theorem zd_O_share_38 : decode zc_O_share 38 = .ok (.aload_n 0, 1) := by decide +kernel
theorem zd_O_share_39 : decode zc_O_share 39 = .ok (.getfield 10, 3) := by decide +kernel
theorem zd_O_share_42 : decode zc_O_share 42 = .ok (.getfield 111, 3) := by decide +kernel
theorem zd_O_share_45 : decode zc_O_share 45 = .ok (.iload_n 1, 1) := by decide +kernel
theorem zd_O_share_46 : decode zc_O_share 46 = .ok (.iload_n 2, 1) := by decide +kernel
theorem zd_O_share_47 : decode zc_O_share 47 = .ok (.iastore, 1) := by decide +kernel
theorem zd_O_share_48 : decode zc_O_share 48 = .ok (.aload_n 0, 1) := by decide +kernel
theorem zd_O_share_49 : decode zc_O_share 49 = .ok (.getfield 10, 3) := by decide +kernel
theorem zd_O_share_52 : decode zc_O_share 52 = .ok (.getfield 115, 3) := by decide +kernel
theorem zd_O_share_55 : decode zc_O_share 55 = .ok (.iload_n 1, 1) := by decide +kernel
theorem zd_O_share_56 : decode zc_O_share 56 = .ok (.iload_n 3, 1) := by decide +kernel
theorem zd_O_share_57 : decode zc_O_share 57 = .ok (.iastore, 1) := by decide +kernel
theorem zd_O_share_58 : decode zc_O_share 58 = .ok (.return_, 1) := by decide +kernel
theorem zd_O_doubt_0 : decode zc_O_doubt 0 = .ok (.iload_n 1, 1) := by decide +kernel
theorem zd_O_doubt_1 : decode zc_O_doubt 1 = .ok (.aload_n 0, 1) := by decide +kernel
theorem zd_O_doubt_2 : decode zc_O_doubt 2 = .ok (.getfield 10, 3) := by decide +kernel
theorem zd_O_doubt_5 : decode zc_O_doubt 5 = .ok (.getfield 97, 3) := by decide +kernel
theorem zd_O_doubt_8 : decode zc_O_doubt 8 = .ok (.invokestatic 87, 3) := by decide +kernel
theorem zd_O_doubt_11 : decode zc_O_doubt 11 = .ok (.aload_n 0, 1) := by decide +kernel
theorem zd_O_doubt_12 : decode zc_O_doubt 12 = .ok (.getfield 10, 3) := by decide +kernel
theorem zd_O_doubt_15 : decode zc_O_doubt 15 = .ok (.getfield 118, 3) := by decide +kernel
theorem zd_O_doubt_18 : decode zc_O_doubt 18 = .ok (.iload_n 1, 1) := by decide +kernel
theorem zd_O_doubt_19 : decode zc_O_doubt 19 = .ok (.baload, 1) := by decide +kernel
theorem zd_O_doubt_20 : decode zc_O_doubt 20 = .ok (.iload_n 2, 1) := by decide +kernel
theorem zd_O_doubt_21 : decode zc_O_doubt 21 = .ok (.if_icmp .eq 7, 3) := by decide +kernel
theorem zd_O_doubt_24 : decode zc_O_doubt 24 = .ok (.iconst 1, 1) := by decide +kernel
theorem zd_O_doubt_25 : decode zc_O_doubt 25 = .ok (.goto 4, 3) := by decide +kernel
theorem zd_O_doubt_28 : decode zc_O_doubt 28 = .ok (.iconst 0, 1) := by decide +kernel
theorem zd_O_doubt_29 : decode zc_O_doubt 29 = .ok (.istore_n 3, 1) := by decide +kernel
theorem zd_O_doubt_30 : decode zc_O_doubt 30 = .ok (.aload_n 0, 1) := by decide +kernel
theorem zd_O_doubt_31 : decode zc_O_doubt 31 = .ok (.getfield 10, 3) := by decide +kernel
theorem zd_O_doubt_34 : decode zc_O_doubt 34 = .ok (.getfield 118, 3) := by decide +kernel
theorem zd_O_doubt_37 : decode zc_O_doubt 37 = .ok (.iload_n 1, 1) := by decide +kernel
theorem zd_O_doubt_38 : decode zc_O_doubt 38 = .ok (.iload_n 2, 1) := by decide +kernel
theorem zd_O_doubt_39 : decode zc_O_doubt 39 = .ok (.bastore, 1) := by decide +kernel
theorem zd_O_doubt_40 : decode zc_O_doubt 40 = .ok (.iload_n 3, 1) := by decide +kernel
theorem zd_O_doubt_41 : decode zc_O_doubt 41 = .ok (.ireturn, 1) := by decide +kernel
theorem zd_O_correct_0 : decode zc_O_correct 0 = .ok (.iload_n 1, 1) := by decide +kernel
theorem zd_O_correct_1 : decode zc_O_correct 1 = .ok (.aload_n 0, 1) := by decide +kernel
theorem zd_O_correct_2 : decode zc_O_correct 2 = .ok (.getfield 10, 3) := by decide +kernel
theorem zd_O_correct_5 : decode zc_O_correct 5 = .ok (.getfield 97, 3) := by decide +kernel
theorem zd_O_correct_8 : decode zc_O_correct 8 = .ok (.invokestatic 87, 3) := by decide +kernel
theorem zd_O_correct_11 : decode zc_O_correct 11 = .ok (.iload_n 2, 1) := by decide +kernel
theorem zd_O_correct_12 : decode zc_O_correct 12 = .ok (.iconst 3, 1) := by decide +kernel
theorem zd_O_correct_13 : decode zc_O_correct 13 = .ok (.invokestatic 87, 3) := by decide +kernel
theorem zd_O_correct_16 : decode zc_O_correct 16 = .ok (.iload_n 2, 1) := by decide +kernel
theorem zd_O_correct_17 : decode zc_O_correct 17 = .ok (.ifCond .ne 12, 3) := by decide +kernel
theorem zd_O_correct_20 : decode zc_O_correct 20 = .ok (.iload_n 3, 1) := by decide +kernel
theorem zd_O_correct_21 : decode zc_O_correct 21 = .ok (.bipush 32, 2) := by decide +kernel
theorem zd_O_correct_23 : decode zc_O_correct 23 = .ok (.invokestatic 87, 3) := by decide +kernel
theorem zd_O_correct_26 : decode zc_O_correct 26 = .ok (.goto 7, 3) := by decide +kernel
theorem zd_O_correct_29 : decode zc_O_correct 29 = .ok (.iload_n 3, 1) := by decide +kernel
theorem zd_O_correct_30 : decode zc_O_correct 30 = .ok (.invokestatic 93, 3) := by decide +kernel
theorem zd_O_correct_33 : decode zc_O_correct 33 = .ok (.iload 4, 2) := by decide +kernel
theorem zd_O_correct_35 : decode zc_O_correct 35 = .ok (.invokestatic 93, 3) := by decide +kernel
theorem zd_O_correct_38 : decode zc_O_correct 38 = .ok (.iload 4, 2) := by decide +kernel
theorem zd_O_correct_40 : decode zc_O_correct 40 = .ok (.aload_n 0, 1) := by decide +kernel
theorem zd_O_correct_41 : decode zc_O_correct 41 = .ok (.getfield 10, 3) := by decide +kernel
theorem zd_O_correct_44 : decode zc_O_correct 44 = .ok (.getfield 122, 3) := by decide +kernel
theorem zd_O_correct_47 : decode zc_O_correct 47 = .ok (.iload_n 1, 1) := by decide +kernel
theorem zd_O_correct_48 : decode zc_O_correct 48 = .ok (.iaload, 1) := by decide +kernel
theorem zd_O_correct_49 : decode zc_O_correct 49 = .ok (.if_icmp .ge 13, 3) := by decide +kernel
theorem zd_O_correct_52 : decode zc_O_correct 52 = .ok (.new 104, 3) := by decide +kernel
theorem zd_O_correct_55 : decode zc_O_correct 55 = .ok (.dup, 1) := by decide +kernel
theorem zd_O_correct_56 : decode zc_O_correct 56 = .ok (.ldc 125, 2) := by decide +kernel
theorem zd_O_correct_58 : decode zc_O_correct 58 = .ok (.invokespecial 108, 3) := by decide +kernel
theorem zd_O_correct_61 : decode zc_O_correct 61 = .ok (.athrow, 1) := by decide +kernel
theorem zd_O_correct_62 : decode zc_O_correct 62 = .ok (.aload_n 0, 1) := by decide +kernel
theorem zd_O_correct_63 : decode zc_O_correct 63 = .ok (.getfield 19, 3) := by decide +kernel
theorem zd_O_correct_66 : decode zc_O_correct 66 = .ok (.getfield 127, 3) := by decide +kernel
theorem zd_O_correct_69 : decode zc_O_correct 69 = .ok (.sipush 200, 3) := by decide +kernel
theorem zd_O_correct_72 : decode zc_O_correct 72 = .ok (.invokestatic 83, 3) := by decide +kernel
theorem zd_O_correct_75 : decode zc_O_correct 75 = .ok (.aload_n 0, 1) := by decide +kernel
theorem zd_O_correct_76 : decode zc_O_correct 76 = .ok (.getfield 19, 3) := by decide +kernel
theorem zd_O_correct_79 : decode zc_O_correct 79 = .ok (.iload_n 1, 1) := by decide +kernel
theorem zd_O_correct_80 : decode zc_O_correct 80 = .ok (.iload_n 2, 1) := by decide +kernel
theorem zd_O_correct_81 : decode zc_O_correct 81 = .ok (.iload_n 3, 1) := by decide +kernel
theorem zd_O_correct_82 : decode zc_O_correct 82 = .ok (.iload 4, 2) := by decide +kernel
theorem zd_O_correct_84 : decode zc_O_correct 84 = .ok (.invokevirtual 128, 3) := by decide +kernel
theorem zd_O_correct_87 : decode zc_O_correct 87 = .ok (.return_, 1) := by decide +kernel
theorem zd_O_known_0 : decode zc_O_known 0 = .ok (.iload_n 1, 1) := by decide +kernel
theorem zd_O_known_1 : decode zc_O_known 1 = .ok (.aload_n 0, 1) := by decide +kernel
theorem zd_O_known_2 : decode zc_O_known 2 = .ok (.getfield 10, 3) := by decide +kernel
theorem zd_O_known_5 : decode zc_O_known 5 = .ok (.getfield 97, 3) := by decide +kernel
theorem zd_O_known_8 : decode zc_O_known 8 = .ok (.invokestatic 87, 3) := by decide +kernel
theorem zd_O_known_11 : decode zc_O_known 11 = .ok (.iload_n 2, 1) := by decide +kernel
theorem zd_O_known_12 : decode zc_O_known 12 = .ok (.iconst 3, 1) := by decide +kernel
theorem zd_O_known_13 : decode zc_O_known 13 = .ok (.invokestatic 87, 3) := by decide +kernel
theorem zd_O_known_16 : decode zc_O_known 16 = .ok (.iload_n 3, 1) := by decide +kernel
theorem zd_O_known_17 : decode zc_O_known 17 = .ok (.invokestatic 93, 3) := by decide +kernel
theorem zd_O_known_20 : decode zc_O_known 20 = .ok (.aload_n 0, 1) := by decide +kernel
theorem zd_O_known_21 : decode zc_O_known 21 = .ok (.getfield 10, 3) := by decide +kernel
theorem zd_O_known_24 : decode zc_O_known 24 = .ok (.getfield 122, 3) := by decide +kernel
theorem zd_O_known_27 : decode zc_O_known 27 = .ok (.iload_n 1, 1) := by decide +kernel
theorem zd_O_known_28 : decode zc_O_known 28 = .ok (.iaload, 1) := by decide +kernel
theorem zd_O_known_29 : decode zc_O_known 29 = .ok (.iload_n 3, 1) := by decide +kernel
theorem zd_O_known_30 : decode zc_O_known 30 = .ok (.if_icmp .le 5, 3) := by decide +kernel
theorem zd_O_known_33 : decode zc_O_known 33 = .ok (.iconst (-1), 1) := by decide +kernel
theorem zd_O_known_34 : decode zc_O_known 34 = .ok (.ireturn, 1) := by decide +kernel
theorem zd_O_known_35 : decode zc_O_known 35 = .ok (.aload_n 0, 1) := by decide +kernel
theorem zd_O_known_36 : decode zc_O_known 36 = .ok (.getfield 26, 3) := by decide +kernel
theorem zd_O_known_39 : decode zc_O_known 39 = .ok (.aload_n 0, 1) := by decide +kernel
theorem zd_O_known_40 : decode zc_O_known 40 = .ok (.getfield 10, 3) := by decide +kernel
theorem zd_O_known_43 : decode zc_O_known 43 = .ok (.aload_n 0, 1) := by decide +kernel
theorem zd_O_known_44 : decode zc_O_known 44 = .ok (.getfield 19, 3) := by decide +kernel
theorem zd_O_known_47 : decode zc_O_known 47 = .ok (.iload_n 3, 1) := by decide +kernel
theorem zd_O_known_48 : decode zc_O_known 48 = .ok (.invokevirtual 131, 3) := by decide +kernel
theorem zd_O_known_51 : decode zc_O_known 51 = .ok (.aload_n 0, 1) := by decide +kernel
theorem zd_O_known_52 : decode zc_O_known 52 = .ok (.getfield 26, 3) := by decide +kernel
theorem zd_O_known_55 : decode zc_O_known 55 = .ok (.getfield 135, 3) := by decide +kernel
theorem zd_O_known_58 : decode zc_O_known 58 = .ok (.iload_n 2, 1) := by decide +kernel
theorem zd_O_known_59 : decode zc_O_known 59 = .ok (.aaload, 1) := by decide +kernel
theorem zd_O_known_60 : decode zc_O_known 60 = .ok (.iload_n 1, 1) := by decide +kernel
theorem zd_O_known_61 : decode zc_O_known 61 = .ok (.iaload, 1) := by decide +kernel
theorem zd_O_known_62 : decode zc_O_known 62 = .ok (.ireturn, 1) := by decide +kernel
theorem zd_O_gap_0 : decode zc_O_gap 0 = .ok (.iload_n 1, 1) := by decide +kernel
theorem zd_O_gap_1 : decode zc_O_gap 1 = .ok (.aload_n 0, 1) := by decide +kernel
theorem zd_O_gap_2 : decode zc_O_gap 2 = .ok (.getfield 79, 3) := by decide +kernel
theorem zd_O_gap_5 : decode zc_O_gap 5 = .ok (.invokestatic 87, 3) := by decide +kernel
theorem zd_O_gap_8 : decode zc_O_gap 8 = .ok (.iload_n 2, 1) := by decide +kernel
theorem zd_O_gap_9 : decode zc_O_gap 9 = .ok (.invokestatic 139, 3) := by decide +kernel
theorem zd_O_gap_12 : decode zc_O_gap 12 = .ok (.iload_n 3, 1) := by decide +kernel
theorem zd_O_gap_13 : decode zc_O_gap 13 = .ok (.iconst 2, 1) := by decide +kernel
theorem zd_O_gap_14 : decode zc_O_gap 14 = .ok (.invokestatic 87, 3) := by decide +kernel
theorem zd_O_gap_17 : decode zc_O_gap 17 = .ok (.iload 4, 2) := by decide +kernel
theorem zd_O_gap_19 : decode zc_O_gap 19 = .ok (.invokestatic 93, 3) := by decide +kernel
theorem zd_O_gap_22 : decode zc_O_gap 22 = .ok (.aload_n 0, 1) := by decide +kernel
theorem zd_O_gap_23 : decode zc_O_gap 23 = .ok (.iload_n 1, 1) := by decide +kernel
theorem zd_O_gap_24 : decode zc_O_gap 24 = .ok (.iload 4, 2) := by decide +kernel
theorem zd_O_gap_26 : decode zc_O_gap 26 = .ok (.invokevirtual 142, 3) := by decide +kernel
theorem zd_O_gap_29 : decode zc_O_gap 29 = .ok (.aload_n 0, 1) := by decide +kernel
theorem zd_O_gap_30 : decode zc_O_gap 30 = .ok (.getfield 26, 3) := by decide +kernel
theorem zd_O_gap_33 : decode zc_O_gap 33 = .ok (.invokevirtual 145, 3) := by decide +kernel
theorem zd_O_gap_36 : decode zc_O_gap 36 = .ok (.aload_n 0, 1) := by decide +kernel
theorem zd_O_gap_37 : decode zc_O_gap 37 = .ok (.getfield 26, 3) := by decide +kernel
theorem zd_O_gap_40 : decode zc_O_gap 40 = .ok (.iload_n 2, 1) := by decide +kernel
theorem zd_O_gap_41 : decode zc_O_gap 41 = .ok (.iload_n 3, 1) := by decide +kernel
theorem zd_O_gap_42 : decode zc_O_gap 42 = .ok (.invokevirtual 148, 3) := by decide +kernel
theorem zd_O_gap_45 : decode zc_O_gap 45 = .ok (.ireturn, 1) := by decide +kernel
theorem zd_O_held_0 : decode zc_O_held 0 = .ok (.iload_n 1, 1) := by decide +kernel
theorem zd_O_held_1 : decode zc_O_held 1 = .ok (.aload_n 0, 1) := by decide +kernel
theorem zd_O_held_2 : decode zc_O_held 2 = .ok (.getfield 79, 3) := by decide +kernel
theorem zd_O_held_5 : decode zc_O_held 5 = .ok (.invokestatic 87, 3) := by decide +kernel
theorem zd_O_held_8 : decode zc_O_held 8 = .ok (.iload 4, 2) := by decide +kernel
theorem zd_O_held_10 : decode zc_O_held 10 = .ok (.iconst 2, 1) := by decide +kernel
theorem zd_O_held_11 : decode zc_O_held 11 = .ok (.invokestatic 87, 3) := by decide +kernel
theorem zd_O_held_14 : decode zc_O_held 14 = .ok (.iload_n 2, 1) := by decide +kernel
theorem zd_O_held_15 : decode zc_O_held 15 = .ok (.invokestatic 93, 3) := by decide +kernel
theorem zd_O_held_18 : decode zc_O_held 18 = .ok (.iload_n 3, 1) := by decide +kernel
theorem zd_O_held_19 : decode zc_O_held 19 = .ok (.invokestatic 93, 3) := by decide +kernel
theorem zd_O_held_22 : decode zc_O_held 22 = .ok (.aload_n 0, 1) := by decide +kernel
theorem zd_O_held_23 : decode zc_O_held 23 = .ok (.iload_n 1, 1) := by decide +kernel
theorem zd_O_held_24 : decode zc_O_held 24 = .ok (.iload_n 3, 1) := by decide +kernel
theorem zd_O_held_25 : decode zc_O_held 25 = .ok (.invokevirtual 142, 3) := by decide +kernel
theorem zd_O_held_28 : decode zc_O_held 28 = .ok (.aload_n 0, 1) := by decide +kernel
theorem zd_O_held_29 : decode zc_O_held 29 = .ok (.iload_n 2, 1) := by decide +kernel
theorem zd_O_held_30 : decode zc_O_held 30 = .ok (.invokevirtual 152, 3) := by decide +kernel
theorem zd_O_held_33 : decode zc_O_held 33 = .ok (.iload 4, 2) := by decide +kernel
theorem zd_O_held_35 : decode zc_O_held 35 = .ok (.ifCond .ne 13, 3) := by decide +kernel
theorem zd_O_held_38 : decode zc_O_held 38 = .ok (.aload_n 0, 1) := by decide +kernel
theorem zd_O_held_39 : decode zc_O_held 39 = .ok (.getfield 33, 3) := by decide +kernel
theorem zd_O_held_42 : decode zc_O_held 42 = .ok (.getfield 155, 3) := by decide +kernel
theorem zd_O_held_45 : decode zc_O_held 45 = .ok (.goto 10, 3) := by decide +kernel
theorem zd_O_held_48 : decode zc_O_held 48 = .ok (.aload_n 0, 1) := by decide +kernel
theorem zd_O_held_49 : decode zc_O_held 49 = .ok (.getfield 33, 3) := by decide +kernel
theorem zd_O_held_52 : decode zc_O_held 52 = .ok (.getfield 158, 3) := by decide +kernel
theorem zd_O_held_55 : decode zc_O_held 55 = .ok (.l2i, 1) := by decide +kernel
theorem zd_O_held_56 : decode zc_O_held 56 = .ok (.ireturn, 1) := by decide +kernel
theorem zd_O_danger_0 : decode zc_O_danger 0 = .ok (.iload_n 1, 1) := by decide +kernel
theorem zd_O_danger_1 : decode zc_O_danger 1 = .ok (.iconst (-1), 1) := by decide +kernel
theorem zd_O_danger_2 : decode zc_O_danger 2 = .ok (.if_icmp .eq 9, 3) := by decide +kernel
theorem zd_O_danger_5 : decode zc_O_danger 5 = .ok (.iload_n 1, 1) := by decide +kernel
theorem zd_O_danger_6 : decode zc_O_danger 6 = .ok (.bipush 32, 2) := by decide +kernel
theorem zd_O_danger_8 : decode zc_O_danger 8 = .ok (.invokestatic 87, 3) := by decide +kernel
theorem zd_O_danger_11 : decode zc_O_danger 11 = .ok (.iload_n 2, 1) := by decide +kernel
theorem zd_O_danger_12 : decode zc_O_danger 12 = .ok (.iload_n 3, 1) := by decide +kernel
theorem zd_O_danger_13 : decode zc_O_danger 13 = .ok (.invokestatic 90, 3) := by decide +kernel
theorem zd_O_danger_16 : decode zc_O_danger 16 = .ok (.aload_n 0, 1) := by decide +kernel
theorem zd_O_danger_17 : decode zc_O_danger 17 = .ok (.getfield 47, 3) := by decide +kernel
theorem zd_O_danger_20 : decode zc_O_danger 20 = .ok (.getfield 160, 3) := by decide +kernel
theorem zd_O_danger_23 : decode zc_O_danger 23 = .ok (.bipush 10, 2) := by decide +kernel
theorem zd_O_danger_25 : decode zc_O_danger 25 = .ok (.invokestatic 83, 3) := by decide +kernel
theorem zd_O_danger_28 : decode zc_O_danger 28 = .ok (.aload_n 0, 1) := by decide +kernel
theorem zd_O_danger_29 : decode zc_O_danger 29 = .ok (.getfield 47, 3) := by decide +kernel
theorem zd_O_danger_32 : decode zc_O_danger 32 = .ok (.iload_n 1, 1) := by decide +kernel
theorem zd_O_danger_33 : decode zc_O_danger 33 = .ok (.iload_n 2, 1) := by decide +kernel
theorem zd_O_danger_34 : decode zc_O_danger 34 = .ok (.iload_n 3, 1) := by decide +kernel
theorem zd_O_danger_35 : decode zc_O_danger 35 = .ok (.invokevirtual 161, 3) := by decide +kernel
theorem zd_O_danger_38 : decode zc_O_danger 38 = .ok (.ireturn, 1) := by decide +kernel
theorem zd_O_asked_0 : decode zc_O_asked 0 = .ok (.iload_n 1, 1) := by decide +kernel
theorem zd_O_asked_1 : decode zc_O_asked 1 = .ok (.aload_n 0, 1) := by decide +kernel
theorem zd_O_asked_2 : decode zc_O_asked 2 = .ok (.getfield 79, 3) := by decide +kernel
theorem zd_O_asked_5 : decode zc_O_asked 5 = .ok (.invokestatic 87, 3) := by decide +kernel
theorem zd_O_asked_8 : decode zc_O_asked 8 = .ok (.iload_n 2, 1) := by decide +kernel
theorem zd_O_asked_9 : decode zc_O_asked 9 = .ok (.invokestatic 139, 3) := by decide +kernel
theorem zd_O_asked_12 : decode zc_O_asked 12 = .ok (.iload_n 3, 1) := by decide +kernel
theorem zd_O_asked_13 : decode zc_O_asked 13 = .ok (.invokestatic 93, 3) := by decide +kernel
theorem zd_O_asked_16 : decode zc_O_asked 16 = .ok (.aload_n 0, 1) := by decide +kernel
theorem zd_O_asked_17 : decode zc_O_asked 17 = .ok (.iload_n 1, 1) := by decide +kernel
theorem zd_O_asked_18 : decode zc_O_asked 18 = .ok (.iload_n 3, 1) := by decide +kernel
theorem zd_O_asked_19 : decode zc_O_asked 19 = .ok (.invokevirtual 142, 3) := by decide +kernel
theorem zd_O_asked_22 : decode zc_O_asked 22 = .ok (.iload_n 2, 1) := by decide +kernel
theorem zd_O_asked_23 : decode zc_O_asked 23 = .ok (.istore 4, 2) := by decide +kernel
theorem zd_O_asked_25 : decode zc_O_asked 25 = .ok (.iconst 0, 1) := by decide +kernel
theorem zd_O_asked_26 : decode zc_O_asked 26 = .ok (.istore 5, 2) := by decide +kernel
theorem zd_O_asked_28 : decode zc_O_asked 28 = .ok (.iload 5, 2) := by decide +kernel
theorem zd_O_asked_30 : decode zc_O_asked 30 = .ok (.aload_n 0, 1) := by decide +kernel
theorem zd_O_asked_31 : decode zc_O_asked 31 = .ok (.getfield 26, 3) := by decide +kernel
theorem zd_O_asked_34 : decode zc_O_asked 34 = .ok (.getfield 164, 3) := by decide +kernel
theorem zd_O_asked_37 : decode zc_O_asked 37 = .ok (.if_icmp .ge 78, 3) := by decide +kernel
theorem zd_O_asked_40 : decode zc_O_asked 40 = .ok (.aload_n 0, 1) := by decide +kernel
theorem zd_O_asked_41 : decode zc_O_asked 41 = .ok (.getfield 26, 3) := by decide +kernel
theorem zd_O_asked_44 : decode zc_O_asked 44 = .ok (.getfield 167, 3) := by decide +kernel
theorem zd_O_asked_47 : decode zc_O_asked 47 = .ok (.iload 5, 2) := by decide +kernel
theorem zd_O_asked_49 : decode zc_O_asked 49 = .ok (.iaload, 1) := by decide +kernel
theorem zd_O_asked_50 : decode zc_O_asked 50 = .ok (.istore 6, 2) := by decide +kernel
theorem zd_O_asked_52 : decode zc_O_asked 52 = .ok (.aload_n 0, 1) := by decide +kernel
theorem zd_O_asked_53 : decode zc_O_asked 53 = .ok (.getfield 47, 3) := by decide +kernel
theorem zd_O_asked_56 : decode zc_O_asked 56 = .ok (.aload_n 0, 1) := by decide +kernel
theorem zd_O_asked_57 : decode zc_O_asked 57 = .ok (.getfield 26, 3) := by decide +kernel
theorem zd_O_asked_60 : decode zc_O_asked 60 = .ok (.getfield 135, 3) := by decide +kernel
theorem zd_O_asked_63 : decode zc_O_asked 63 = .ok (.iconst 0, 1) := by decide +kernel
theorem zd_O_asked_64 : decode zc_O_asked 64 = .ok (.aaload, 1) := by decide +kernel
theorem zd_O_asked_65 : decode zc_O_asked 65 = .ok (.iload 6, 2) := by decide +kernel
theorem zd_O_asked_67 : decode zc_O_asked 67 = .ok (.iaload, 1) := by decide +kernel
theorem zd_O_asked_68 : decode zc_O_asked 68 = .ok (.aload_n 0, 1) := by decide +kernel
theorem zd_O_asked_69 : decode zc_O_asked 69 = .ok (.getfield 26, 3) := by decide +kernel
theorem zd_O_asked_72 : decode zc_O_asked 72 = .ok (.getfield 135, 3) := by decide +kernel
theorem zd_O_asked_75 : decode zc_O_asked 75 = .ok (.iconst 1, 1) := by decide +kernel
theorem zd_O_asked_76 : decode zc_O_asked 76 = .ok (.aaload, 1) := by decide +kernel
theorem zd_O_asked_77 : decode zc_O_asked 77 = .ok (.iload 6, 2) := by decide +kernel
theorem zd_O_asked_79 : decode zc_O_asked 79 = .ok (.iaload, 1) := by decide +kernel
theorem zd_O_asked_80 : decode zc_O_asked 80 = .ok (.aload_n 0, 1) := by decide +kernel
theorem zd_O_asked_81 : decode zc_O_asked 81 = .ok (.getfield 26, 3) := by decide +kernel
theorem zd_O_asked_84 : decode zc_O_asked 84 = .ok (.getfield 135, 3) := by decide +kernel
theorem zd_O_asked_87 : decode zc_O_asked 87 = .ok (.iconst 2, 1) := by decide +kernel
theorem zd_O_asked_88 : decode zc_O_asked 88 = .ok (.aaload, 1) := by decide +kernel
theorem zd_O_asked_89 : decode zc_O_asked 89 = .ok (.iload 6, 2) := by decide +kernel
theorem zd_O_asked_91 : decode zc_O_asked 91 = .ok (.iaload, 1) := by decide +kernel
theorem zd_O_asked_92 : decode zc_O_asked 92 = .ok (.invokevirtual 170, 3) := by decide +kernel
theorem zd_O_asked_95 : decode zc_O_asked 95 = .ok (.ifCond .eq 14, 3) := by decide +kernel
theorem zd_O_asked_98 : decode zc_O_asked 98 = .ok (.iload 4, 2) := by decide +kernel
theorem zd_O_asked_100 : decode zc_O_asked 100 = .ok (.ifCond .ne 6, 3) := by decide +kernel
theorem zd_O_asked_103 : decode zc_O_asked 103 = .ok (.iload 6, 2) := by decide +kernel
theorem zd_O_asked_105 : decode zc_O_asked 105 = .ok (.ireturn, 1) := by decide +kernel
theorem zd_O_asked_106 : decode zc_O_asked 106 = .ok (.iinc 4 (-1), 3) := by decide +kernel
theorem zd_O_asked_109 : decode zc_O_asked 109 = .ok (.iinc 5 1, 3) := by decide +kernel
theorem zd_O_asked_112 : decode zc_O_asked 112 = .ok (.goto (-84), 3) := by decide +kernel
theorem zd_O_asked_115 : decode zc_O_asked 115 = .ok (.iconst (-1), 1) := by decide +kernel
theorem zd_O_asked_116 : decode zc_O_asked 116 = .ok (.ireturn, 1) := by decide +kernel
theorem zd_O_claim_0 : decode zc_O_claim 0 = .ok (.iload_n 1, 1) := by decide +kernel
theorem zd_O_claim_1 : decode zc_O_claim 1 = .ok (.aload_n 0, 1) := by decide +kernel
theorem zd_O_claim_2 : decode zc_O_claim 2 = .ok (.getfield 79, 3) := by decide +kernel
theorem zd_O_claim_5 : decode zc_O_claim 5 = .ok (.invokestatic 87, 3) := by decide +kernel
theorem zd_O_claim_8 : decode zc_O_claim 8 = .ok (.iload_n 2, 1) := by decide +kernel
theorem zd_O_claim_9 : decode zc_O_claim 9 = .ok (.bipush 32, 2) := by decide +kernel
theorem zd_O_claim_11 : decode zc_O_claim 11 = .ok (.invokestatic 87, 3) := by decide +kernel
theorem zd_O_claim_14 : decode zc_O_claim 14 = .ok (.iload_n 3, 1) := by decide +kernel
theorem zd_O_claim_15 : decode zc_O_claim 15 = .ok (.invokestatic 93, 3) := by decide +kernel
theorem zd_O_claim_18 : decode zc_O_claim 18 = .ok (.aload_n 0, 1) := by decide +kernel
theorem zd_O_claim_19 : decode zc_O_claim 19 = .ok (.getfield 54, 3) := by decide +kernel
theorem zd_O_claim_22 : decode zc_O_claim 22 = .ok (.getfield 174, 3) := by decide +kernel
theorem zd_O_claim_25 : decode zc_O_claim 25 = .ok (.bipush 30, 2) := by decide +kernel
theorem zd_O_claim_27 : decode zc_O_claim 27 = .ok (.invokestatic 83, 3) := by decide +kernel
theorem zd_O_claim_30 : decode zc_O_claim 30 = .ok (.aload_n 0, 1) := by decide +kernel
theorem zd_O_claim_31 : decode zc_O_claim 31 = .ok (.getfield 54, 3) := by decide +kernel
theorem zd_O_claim_34 : decode zc_O_claim 34 = .ok (.iload_n 1, 1) := by decide +kernel
theorem zd_O_claim_35 : decode zc_O_claim 35 = .ok (.iload_n 3, 1) := by decide +kernel
theorem zd_O_claim_36 : decode zc_O_claim 36 = .ok (.invokevirtual 175, 3) := by decide +kernel
theorem zd_O_claim_39 : decode zc_O_claim 39 = .ok (.ireturn, 1) := by decide +kernel
theorem zd_O_settle_0 : decode zc_O_settle 0 = .ok (.iload_n 1, 1) := by decide +kernel
theorem zd_O_settle_1 : decode zc_O_settle 1 = .ok (.aload_n 0, 1) := by decide +kernel
theorem zd_O_settle_2 : decode zc_O_settle 2 = .ok (.getfield 54, 3) := by decide +kernel
theorem zd_O_settle_5 : decode zc_O_settle 5 = .ok (.getfield 174, 3) := by decide +kernel
theorem zd_O_settle_8 : decode zc_O_settle 8 = .ok (.invokestatic 87, 3) := by decide +kernel
theorem zd_O_settle_11 : decode zc_O_settle 11 = .ok (.iload_n 2, 1) := by decide +kernel
theorem zd_O_settle_12 : decode zc_O_settle 12 = .ok (.invokestatic 93, 3) := by decide +kernel
theorem zd_O_settle_15 : decode zc_O_settle 15 = .ok (.iload_n 2, 1) := by decide +kernel
theorem zd_O_settle_16 : decode zc_O_settle 16 = .ok (.aload_n 0, 1) := by decide +kernel
theorem zd_O_settle_17 : decode zc_O_settle 17 = .ok (.getfield 54, 3) := by decide +kernel
theorem zd_O_settle_20 : decode zc_O_settle 20 = .ok (.getfield 177, 3) := by decide +kernel
theorem zd_O_settle_23 : decode zc_O_settle 23 = .ok (.iload_n 1, 1) := by decide +kernel
theorem zd_O_settle_24 : decode zc_O_settle 24 = .ok (.iaload, 1) := by decide +kernel
theorem zd_O_settle_25 : decode zc_O_settle 25 = .ok (.if_icmp .ge 13, 3) := by decide +kernel
theorem zd_O_settle_28 : decode zc_O_settle 28 = .ok (.new 104, 3) := by decide +kernel
theorem zd_O_settle_31 : decode zc_O_settle 31 = .ok (.dup, 1) := by decide +kernel
theorem zd_O_settle_32 : decode zc_O_settle 32 = .ok (.ldc 180, 2) := by decide +kernel
theorem zd_O_settle_34 : decode zc_O_settle 34 = .ok (.invokespecial 108, 3) := by decide +kernel
theorem zd_O_settle_37 : decode zc_O_settle 37 = .ok (.athrow, 1) := by decide +kernel
theorem zd_O_settle_38 : decode zc_O_settle 38 = .ok (.aload_n 0, 1) := by decide +kernel
theorem zd_O_settle_39 : decode zc_O_settle 39 = .ok (.getfield 54, 3) := by decide +kernel
theorem zd_O_settle_42 : decode zc_O_settle 42 = .ok (.getfield 182, 3) := by decide +kernel
theorem zd_O_settle_45 : decode zc_O_settle 45 = .ok (.iload_n 1, 1) := by decide +kernel
theorem zd_O_settle_46 : decode zc_O_settle 46 = .ok (.iaload, 1) := by decide +kernel
theorem zd_O_settle_47 : decode zc_O_settle 47 = .ok (.iconst (-1), 1) := by decide +kernel
theorem zd_O_settle_48 : decode zc_O_settle 48 = .ok (.if_icmp .eq 13, 3) := by decide +kernel
theorem zd_O_settle_51 : decode zc_O_settle 51 = .ok (.new 185, 3) := by decide +kernel
theorem zd_O_settle_54 : decode zc_O_settle 54 = .ok (.dup, 1) := by decide +kernel
theorem zd_O_settle_55 : decode zc_O_settle 55 = .ok (.ldc 187, 2) := by decide +kernel
theorem zd_O_settle_57 : decode zc_O_settle 57 = .ok (.invokespecial 189, 3) := by decide +kernel
theorem zd_O_settle_60 : decode zc_O_settle 60 = .ok (.athrow, 1) := by decide +kernel
theorem zd_O_settle_61 : decode zc_O_settle 61 = .ok (.aload_n 0, 1) := by decide +kernel
theorem zd_O_settle_62 : decode zc_O_settle 62 = .ok (.getfield 54, 3) := by decide +kernel
theorem zd_O_settle_65 : decode zc_O_settle 65 = .ok (.getfield 182, 3) := by decide +kernel
theorem zd_O_settle_68 : decode zc_O_settle 68 = .ok (.iload_n 1, 1) := by decide +kernel
theorem zd_O_settle_69 : decode zc_O_settle 69 = .ok (.iload_n 2, 1) := by decide +kernel
theorem zd_O_settle_70 : decode zc_O_settle 70 = .ok (.iastore, 1) := by decide +kernel
theorem zd_O_settle_71 : decode zc_O_settle 71 = .ok (.return_, 1) := by decide +kernel
theorem zd_O_stops_0 : decode zc_O_stops 0 = .ok (.iload_n 1, 1) := by decide +kernel
theorem zd_O_stops_1 : decode zc_O_stops 1 = .ok (.aload_n 0, 1) := by decide +kernel
theorem zd_O_stops_2 : decode zc_O_stops 2 = .ok (.getfield 79, 3) := by decide +kernel
theorem zd_O_stops_5 : decode zc_O_stops 5 = .ok (.invokestatic 87, 3) := by decide +kernel
theorem zd_O_stops_8 : decode zc_O_stops 8 = .ok (.iload_n 2, 1) := by decide +kernel
theorem zd_O_stops_9 : decode zc_O_stops 9 = .ok (.invokestatic 93, 3) := by decide +kernel
theorem zd_O_stops_12 : decode zc_O_stops 12 = .ok (.aload_n 0, 1) := by decide +kernel
theorem zd_O_stops_13 : decode zc_O_stops 13 = .ok (.getfield 54, 3) := by decide +kernel
theorem zd_O_stops_16 : decode zc_O_stops 16 = .ok (.iload_n 1, 1) := by decide +kernel
theorem zd_O_stops_17 : decode zc_O_stops 17 = .ok (.iload_n 2, 1) := by decide +kernel
theorem zd_O_stops_18 : decode zc_O_stops 18 = .ok (.invokevirtual 190, 3) := by decide +kernel
theorem zd_O_stops_21 : decode zc_O_stops 21 = .ok (.ireturn, 1) := by decide +kernel
theorem zd_O_tell_0 : decode zc_O_tell 0 = .ok (.iload_n 1, 1) := by decide +kernel
theorem zd_O_tell_1 : decode zc_O_tell 1 = .ok (.iconst 3, 1) := by decide +kernel
theorem zd_O_tell_2 : decode zc_O_tell 2 = .ok (.invokestatic 87, 3) := by decide +kernel
theorem zd_O_tell_5 : decode zc_O_tell 5 = .ok (.iload_n 1, 1) := by decide +kernel
theorem zd_O_tell_6 : decode zc_O_tell 6 = .ok (.ifCond .ne 12, 3) := by decide +kernel
theorem zd_O_tell_9 : decode zc_O_tell 9 = .ok (.aload_n 0, 1) := by decide +kernel
theorem zd_O_tell_10 : decode zc_O_tell 10 = .ok (.iload_n 2, 1) := by decide +kernel
theorem zd_O_tell_11 : decode zc_O_tell 11 = .ok (.iload_n 3, 1) := by decide +kernel
theorem zd_O_tell_12 : decode zc_O_tell 12 = .ok (.invokevirtual 194, 3) := by decide +kernel
theorem zd_O_tell_15 : decode zc_O_tell 15 = .ok (.goto 23, 3) := by decide +kernel
theorem zd_O_tell_18 : decode zc_O_tell 18 = .ok (.iload_n 1, 1) := by decide +kernel
theorem zd_O_tell_19 : decode zc_O_tell 19 = .ok (.iconst 1, 1) := by decide +kernel
theorem zd_O_tell_20 : decode zc_O_tell 20 = .ok (.if_icmp .ne 12, 3) := by decide +kernel
theorem zd_O_tell_23 : decode zc_O_tell 23 = .ok (.aload_n 0, 1) := by decide +kernel
theorem zd_O_tell_24 : decode zc_O_tell 24 = .ok (.iload_n 2, 1) := by decide +kernel
theorem zd_O_tell_25 : decode zc_O_tell 25 = .ok (.iload_n 3, 1) := by decide +kernel
theorem zd_O_tell_26 : decode zc_O_tell 26 = .ok (.invokevirtual 197, 3) := by decide +kernel
theorem zd_O_tell_29 : decode zc_O_tell 29 = .ok (.goto 9, 3) := by decide +kernel
theorem zd_O_tell_32 : decode zc_O_tell 32 = .ok (.aload_n 0, 1) := by decide +kernel
theorem zd_O_tell_33 : decode zc_O_tell 33 = .ok (.iload_n 2, 1) := by decide +kernel
theorem zd_O_tell_34 : decode zc_O_tell 34 = .ok (.iload_n 3, 1) := by decide +kernel
theorem zd_O_tell_35 : decode zc_O_tell 35 = .ok (.invokevirtual 200, 3) := by decide +kernel
theorem zd_O_tell_38 : decode zc_O_tell 38 = .ok (.return_, 1) := by decide +kernel
theorem zd_O_rights_0 : decode zc_O_rights 0 = .ok (.iload_n 1, 1) := by decide +kernel
theorem zd_O_rights_1 : decode zc_O_rights 1 = .ok (.aload_n 0, 1) := by decide +kernel
theorem zd_O_rights_2 : decode zc_O_rights 2 = .ok (.getfield 79, 3) := by decide +kernel
theorem zd_O_rights_5 : decode zc_O_rights 5 = .ok (.invokestatic 87, 3) := by decide +kernel
theorem zd_O_rights_8 : decode zc_O_rights 8 = .ok (.iload_n 2, 1) := by decide +kernel
theorem zd_O_rights_9 : decode zc_O_rights 9 = .ok (.iconst 4, 1) := by decide +kernel
theorem zd_O_rights_10 : decode zc_O_rights 10 = .ok (.invokestatic 87, 3) := by decide +kernel
theorem zd_O_rights_13 : decode zc_O_rights 13 = .ok (.iload_n 3, 1) := by decide +kernel
theorem zd_O_rights_14 : decode zc_O_rights 14 = .ok (.invokestatic 93, 3) := by decide +kernel
theorem zd_O_rights_17 : decode zc_O_rights 17 = .ok (.aload_n 0, 1) := by decide +kernel
theorem zd_O_rights_18 : decode zc_O_rights 18 = .ok (.getfield 61, 3) := by decide +kernel
theorem zd_O_rights_21 : decode zc_O_rights 21 = .ok (.iload_n 1, 1) := by decide +kernel
theorem zd_O_rights_22 : decode zc_O_rights 22 = .ok (.iload_n 2, 1) := by decide +kernel
theorem zd_O_rights_23 : decode zc_O_rights 23 = .ok (.iload_n 3, 1) := by decide +kernel
theorem zd_O_rights_24 : decode zc_O_rights 24 = .ok (.invokevirtual 203, 3) := by decide +kernel
theorem zd_O_rights_27 : decode zc_O_rights 27 = .ok (.ireturn, 1) := by decide +kernel
theorem zd_O_licence_0 : decode zc_O_licence 0 = .ok (.iload_n 1, 1) := by decide +kernel
theorem zd_O_licence_1 : decode zc_O_licence 1 = .ok (.aload_n 0, 1) := by decide +kernel
theorem zd_O_licence_2 : decode zc_O_licence 2 = .ok (.getfield 79, 3) := by decide +kernel
theorem zd_O_licence_5 : decode zc_O_licence 5 = .ok (.invokestatic 87, 3) := by decide +kernel
theorem zd_O_licence_8 : decode zc_O_licence 8 = .ok (.iload_n 2, 1) := by decide +kernel
theorem zd_O_licence_9 : decode zc_O_licence 9 = .ok (.bipush 8, 2) := by decide +kernel
theorem zd_O_licence_11 : decode zc_O_licence 11 = .ok (.invokestatic 87, 3) := by decide +kernel
theorem zd_O_licence_14 : decode zc_O_licence 14 = .ok (.iload_n 3, 1) := by decide +kernel
theorem zd_O_licence_15 : decode zc_O_licence 15 = .ok (.iload 4, 2) := by decide +kernel
theorem zd_O_licence_17 : decode zc_O_licence 17 = .ok (.invokestatic 90, 3) := by decide +kernel
theorem zd_O_licence_20 : decode zc_O_licence 20 = .ok (.aload_n 0, 1) := by decide +kernel
theorem zd_O_licence_21 : decode zc_O_licence 21 = .ok (.getfield 68, 3) := by decide +kernel
theorem zd_O_licence_24 : decode zc_O_licence 24 = .ok (.getfield 206, 3) := by decide +kernel
theorem zd_O_licence_27 : decode zc_O_licence 27 = .ok (.bipush 40, 2) := by decide +kernel
theorem zd_O_licence_29 : decode zc_O_licence 29 = .ok (.invokestatic 83, 3) := by decide +kernel
theorem zd_O_licence_32 : decode zc_O_licence 32 = .ok (.aload_n 0, 1) := by decide +kernel
theorem zd_O_licence_33 : decode zc_O_licence 33 = .ok (.getfield 68, 3) := by decide +kernel
theorem zd_O_licence_36 : decode zc_O_licence 36 = .ok (.iload_n 1, 1) := by decide +kernel
theorem zd_O_licence_37 : decode zc_O_licence 37 = .ok (.iload_n 2, 1) := by decide +kernel
theorem zd_O_licence_38 : decode zc_O_licence 38 = .ok (.iload_n 3, 1) := by decide +kernel
theorem zd_O_licence_39 : decode zc_O_licence 39 = .ok (.iload 4, 2) := by decide +kernel
theorem zd_O_licence_41 : decode zc_O_licence 41 = .ok (.invokevirtual 207, 3) := by decide +kernel
theorem zd_O_licence_44 : decode zc_O_licence 44 = .ok (.ireturn, 1) := by decide +kernel
theorem zd_O_licensed_0 : decode zc_O_licensed 0 = .ok (.iload_n 1, 1) := by decide +kernel
theorem zd_O_licensed_1 : decode zc_O_licensed 1 = .ok (.aload_n 0, 1) := by decide +kernel
theorem zd_O_licensed_2 : decode zc_O_licensed 2 = .ok (.getfield 79, 3) := by decide +kernel
theorem zd_O_licensed_5 : decode zc_O_licensed 5 = .ok (.invokestatic 87, 3) := by decide +kernel
theorem zd_O_licensed_8 : decode zc_O_licensed 8 = .ok (.iload_n 2, 1) := by decide +kernel
theorem zd_O_licensed_9 : decode zc_O_licensed 9 = .ok (.bipush 8, 2) := by decide +kernel
theorem zd_O_licensed_11 : decode zc_O_licensed 11 = .ok (.invokestatic 87, 3) := by decide +kernel
theorem zd_O_licensed_14 : decode zc_O_licensed 14 = .ok (.iload_n 3, 1) := by decide +kernel
theorem zd_O_licensed_15 : decode zc_O_licensed 15 = .ok (.invokestatic 93, 3) := by decide +kernel
theorem zd_O_licensed_18 : decode zc_O_licensed 18 = .ok (.aload_n 0, 1) := by decide +kernel
theorem zd_O_licensed_19 : decode zc_O_licensed 19 = .ok (.getfield 68, 3) := by decide +kernel
theorem zd_O_licensed_22 : decode zc_O_licensed 22 = .ok (.iload_n 1, 1) := by decide +kernel
theorem zd_O_licensed_23 : decode zc_O_licensed 23 = .ok (.iload_n 2, 1) := by decide +kernel
theorem zd_O_licensed_24 : decode zc_O_licensed 24 = .ok (.iload_n 3, 1) := by decide +kernel
theorem zd_O_licensed_25 : decode zc_O_licensed 25 = .ok (.invokevirtual 210, 3) := by decide +kernel
theorem zd_O_licensed_28 : decode zc_O_licensed 28 = .ok (.ireturn, 1) := by decide +kernel
theorem zd_O_seal_0 : decode zc_O_seal 0 = .ok (.iload_n 1, 1) := by decide +kernel
theorem zd_O_seal_1 : decode zc_O_seal 1 = .ok (.aload_n 0, 1) := by decide +kernel
theorem zd_O_seal_2 : decode zc_O_seal 2 = .ok (.getfield 10, 3) := by decide +kernel
theorem zd_O_seal_5 : decode zc_O_seal 5 = .ok (.getfield 97, 3) := by decide +kernel
theorem zd_O_seal_8 : decode zc_O_seal 8 = .ok (.invokestatic 87, 3) := by decide +kernel
theorem zd_O_seal_11 : decode zc_O_seal 11 = .ok (.iload_n 2, 1) := by decide +kernel
theorem zd_O_seal_12 : decode zc_O_seal 12 = .ok (.bipush 8, 2) := by decide +kernel
theorem zd_O_seal_14 : decode zc_O_seal 14 = .ok (.invokestatic 87, 3) := by decide +kernel
theorem zd_O_seal_17 : decode zc_O_seal 17 = .ok (.aload_n 0, 1) := by decide +kernel
theorem zd_O_seal_18 : decode zc_O_seal 18 = .ok (.getfield 10, 3) := by decide +kernel
theorem zd_O_seal_21 : decode zc_O_seal 21 = .ok (.iload_n 1, 1) := by decide +kernel
theorem zd_O_seal_22 : decode zc_O_seal 22 = .ok (.iload_n 2, 1) := by decide +kernel
theorem zd_O_seal_23 : decode zc_O_seal 23 = .ok (.invokevirtual 213, 3) := by decide +kernel
theorem zd_O_seal_26 : decode zc_O_seal 26 = .ok (.iload_n 3, 1) := by decide +kernel
theorem zd_O_seal_27 : decode zc_O_seal 27 = .ok (.if_icmp .eq 7, 3) := by decide +kernel
theorem zd_O_seal_30 : decode zc_O_seal 30 = .ok (.iconst 1, 1) := by decide +kernel
theorem zd_O_seal_31 : decode zc_O_seal 31 = .ok (.goto 4, 3) := by decide +kernel
theorem zd_O_seal_34 : decode zc_O_seal 34 = .ok (.iconst 0, 1) := by decide +kernel
theorem zd_O_seal_35 : decode zc_O_seal 35 = .ok (.istore 4, 2) := by decide +kernel
theorem zd_O_seal_37 : decode zc_O_seal 37 = .ok (.iload 4, 2) := by decide +kernel
theorem zd_O_seal_39 : decode zc_O_seal 39 = .ok (.ifCond .eq 18, 3) := by decide +kernel
theorem zd_O_seal_42 : decode zc_O_seal 42 = .ok (.aload_n 0, 1) := by decide +kernel
theorem zd_O_seal_43 : decode zc_O_seal 43 = .ok (.getfield 10, 3) := by decide +kernel
theorem zd_O_seal_46 : decode zc_O_seal 46 = .ok (.getfield 216, 3) := by decide +kernel
theorem zd_O_seal_49 : decode zc_O_seal 49 = .ok (.iload_n 1, 1) := by decide +kernel
theorem zd_O_seal_50 : decode zc_O_seal 50 = .ok (.dup2, 1) := by decide +kernel
theorem zd_O_seal_51 : decode zc_O_seal 51 = .ok (.iaload, 1) := by decide +kernel
theorem zd_O_seal_52 : decode zc_O_seal 52 = .ok (.iconst 1, 1) := by decide +kernel
theorem zd_O_seal_53 : decode zc_O_seal 53 = .ok (.iload_n 2, 1) := by decide +kernel
theorem zd_O_seal_54 : decode zc_O_seal 54 = .ok (.ishl, 1) := by decide +kernel
theorem zd_O_seal_55 : decode zc_O_seal 55 = .ok (.ixor, 1) := by decide +kernel
theorem zd_O_seal_56 : decode zc_O_seal 56 = .ok (.iastore, 1) := by decide +kernel
theorem zd_O_seal_57 : decode zc_O_seal 57 = .ok (.iload 4, 2) := by decide +kernel
theorem zd_O_seal_59 : decode zc_O_seal 59 = .ok (.ireturn, 1) := by decide +kernel
theorem zd_O_seen_0 : decode zc_O_seen 0 = .ok (.iload_n 1, 1) := by decide +kernel
theorem zd_O_seen_1 : decode zc_O_seen 1 = .ok (.aload_n 0, 1) := by decide +kernel
theorem zd_O_seen_2 : decode zc_O_seen 2 = .ok (.getfield 79, 3) := by decide +kernel
theorem zd_O_seen_5 : decode zc_O_seen 5 = .ok (.invokestatic 87, 3) := by decide +kernel
theorem zd_O_seen_8 : decode zc_O_seen 8 = .ok (.iload_n 2, 1) := by decide +kernel
theorem zd_O_seen_9 : decode zc_O_seen 9 = .ok (.bipush 8, 2) := by decide +kernel
theorem zd_O_seen_11 : decode zc_O_seen 11 = .ok (.invokestatic 87, 3) := by decide +kernel
theorem zd_O_seen_14 : decode zc_O_seen 14 = .ok (.iload_n 3, 1) := by decide +kernel
theorem zd_O_seen_15 : decode zc_O_seen 15 = .ok (.invokestatic 139, 3) := by decide +kernel
theorem zd_O_seen_18 : decode zc_O_seen 18 = .ok (.iload 4, 2) := by decide +kernel
theorem zd_O_seen_20 : decode zc_O_seen 20 = .ok (.invokestatic 93, 3) := by decide +kernel
theorem zd_O_seen_23 : decode zc_O_seen 23 = .ok (.aload_n 0, 1) := by decide +kernel
theorem zd_O_seen_24 : decode zc_O_seen 24 = .ok (.iload_n 1, 1) := by decide +kernel
theorem zd_O_seen_25 : decode zc_O_seen 25 = .ok (.iload 4, 2) := by decide +kernel
theorem zd_O_seen_27 : decode zc_O_seen 27 = .ok (.invokevirtual 142, 3) := by decide +kernel
theorem zd_O_seen_30 : decode zc_O_seen 30 = .ok (.iload_n 3, 1) := by decide +kernel
theorem zd_O_seen_31 : decode zc_O_seen 31 = .ok (.istore 5, 2) := by decide +kernel
theorem zd_O_seen_33 : decode zc_O_seen 33 = .ok (.iconst 0, 1) := by decide +kernel
theorem zd_O_seen_34 : decode zc_O_seen 34 = .ok (.istore 6, 2) := by decide +kernel
theorem zd_O_seen_36 : decode zc_O_seen 36 = .ok (.iload 6, 2) := by decide +kernel
theorem zd_O_seen_38 : decode zc_O_seen 38 = .ok (.aload_n 0, 1) := by decide +kernel
theorem zd_O_seen_39 : decode zc_O_seen 39 = .ok (.getfield 26, 3) := by decide +kernel
theorem zd_O_seen_42 : decode zc_O_seen 42 = .ok (.getfield 164, 3) := by decide +kernel
theorem zd_O_seen_45 : decode zc_O_seen 45 = .ok (.if_icmp .ge 45, 3) := by decide +kernel
theorem zd_O_seen_48 : decode zc_O_seen 48 = .ok (.aload_n 0, 1) := by decide +kernel
theorem zd_O_seen_49 : decode zc_O_seen 49 = .ok (.getfield 26, 3) := by decide +kernel
theorem zd_O_seen_52 : decode zc_O_seen 52 = .ok (.getfield 167, 3) := by decide +kernel
theorem zd_O_seen_55 : decode zc_O_seen 55 = .ok (.iload 6, 2) := by decide +kernel
theorem zd_O_seen_57 : decode zc_O_seen 57 = .ok (.iaload, 1) := by decide +kernel
theorem zd_O_seen_58 : decode zc_O_seen 58 = .ok (.istore 7, 2) := by decide +kernel
theorem zd_O_seen_60 : decode zc_O_seen 60 = .ok (.aload_n 0, 1) := by decide +kernel
theorem zd_O_seen_61 : decode zc_O_seen 61 = .ok (.getfield 10, 3) := by decide +kernel
theorem zd_O_seen_64 : decode zc_O_seen 64 = .ok (.iload 7, 2) := by decide +kernel
theorem zd_O_seen_66 : decode zc_O_seen 66 = .ok (.iload_n 2, 1) := by decide +kernel
theorem zd_O_seen_67 : decode zc_O_seen 67 = .ok (.invokevirtual 213, 3) := by decide +kernel
theorem zd_O_seen_70 : decode zc_O_seen 70 = .ok (.ifCond .ne 14, 3) := by decide +kernel
theorem zd_O_seen_73 : decode zc_O_seen 73 = .ok (.iload 5, 2) := by decide +kernel
theorem zd_O_seen_75 : decode zc_O_seen 75 = .ok (.ifCond .ne 6, 3) := by decide +kernel
theorem zd_O_seen_78 : decode zc_O_seen 78 = .ok (.iload 7, 2) := by decide +kernel
theorem zd_O_seen_80 : decode zc_O_seen 80 = .ok (.ireturn, 1) := by decide +kernel
theorem zd_O_seen_81 : decode zc_O_seen 81 = .ok (.iinc 5 (-1), 3) := by decide +kernel
theorem zd_O_seen_84 : decode zc_O_seen 84 = .ok (.iinc 6 1, 3) := by decide +kernel
theorem zd_O_seen_87 : decode zc_O_seen 87 = .ok (.goto (-51), 3) := by decide +kernel
theorem zd_O_seen_90 : decode zc_O_seen 90 = .ok (.iconst (-1), 1) := by decide +kernel
theorem zd_O_seen_91 : decode zc_O_seen 91 = .ok (.ireturn, 1) := by decide +kernel
theorem zd_O_worth_0 : decode zc_O_worth 0 = .ok (.iload_n 1, 1) := by decide +kernel
theorem zd_O_worth_1 : decode zc_O_worth 1 = .ok (.aload_n 0, 1) := by decide +kernel
theorem zd_O_worth_2 : decode zc_O_worth 2 = .ok (.getfield 79, 3) := by decide +kernel
theorem zd_O_worth_5 : decode zc_O_worth 5 = .ok (.invokestatic 87, 3) := by decide +kernel
theorem zd_O_worth_8 : decode zc_O_worth 8 = .ok (.iload_n 3, 1) := by decide +kernel
theorem zd_O_worth_9 : decode zc_O_worth 9 = .ok (.bipush 8, 2) := by decide +kernel
theorem zd_O_worth_11 : decode zc_O_worth 11 = .ok (.invokestatic 87, 3) := by decide +kernel
theorem zd_O_worth_14 : decode zc_O_worth 14 = .ok (.iload_n 2, 1) := by decide +kernel
theorem zd_O_worth_15 : decode zc_O_worth 15 = .ok (.invokestatic 93, 3) := by decide +kernel
theorem zd_O_worth_18 : decode zc_O_worth 18 = .ok (.iload 4, 2) := by decide +kernel
theorem zd_O_worth_20 : decode zc_O_worth 20 = .ok (.ifCond .ge 13, 3) := by decide +kernel
theorem zd_O_worth_23 : decode zc_O_worth 23 = .ok (.new 104, 3) := by decide +kernel
theorem zd_O_worth_26 : decode zc_O_worth 26 = .ok (.dup, 1) := by decide +kernel
theorem zd_O_worth_27 : decode zc_O_worth 27 = .ok (.ldc 219, 2) := by decide +kernel
theorem zd_O_worth_29 : decode zc_O_worth 29 = .ok (.invokespecial 108, 3) := by decide +kernel
theorem zd_O_worth_32 : decode zc_O_worth 32 = .ok (.athrow, 1) := by decide +kernel
theorem zd_O_worth_33 : decode zc_O_worth 33 = .ok (.aload_n 0, 1) := by decide +kernel
theorem zd_O_worth_34 : decode zc_O_worth 34 = .ok (.getfield 75, 3) := by decide +kernel
theorem zd_O_worth_37 : decode zc_O_worth 37 = .ok (.getfield 221, 3) := by decide +kernel
theorem zd_O_worth_40 : decode zc_O_worth 40 = .ok (.bipush 60, 2) := by decide +kernel
theorem zd_O_worth_42 : decode zc_O_worth 42 = .ok (.invokestatic 83, 3) := by decide +kernel
theorem zd_O_worth_45 : decode zc_O_worth 45 = .ok (.aload_n 0, 1) := by decide +kernel
theorem zd_O_worth_46 : decode zc_O_worth 46 = .ok (.getfield 75, 3) := by decide +kernel
theorem zd_O_worth_49 : decode zc_O_worth 49 = .ok (.iload_n 1, 1) := by decide +kernel
theorem zd_O_worth_50 : decode zc_O_worth 50 = .ok (.iload_n 2, 1) := by decide +kernel
theorem zd_O_worth_51 : decode zc_O_worth 51 = .ok (.iload_n 3, 1) := by decide +kernel
theorem zd_O_worth_52 : decode zc_O_worth 52 = .ok (.iload 4, 2) := by decide +kernel
theorem zd_O_worth_54 : decode zc_O_worth 54 = .ok (.invokevirtual 222, 3) := by decide +kernel
theorem zd_O_worth_57 : decode zc_O_worth 57 = .ok (.ireturn, 1) := by decide +kernel
theorem zd_O_value_0 : decode zc_O_value 0 = .ok (.iload_n 1, 1) := by decide +kernel
theorem zd_O_value_1 : decode zc_O_value 1 = .ok (.aload_n 0, 1) := by decide +kernel
theorem zd_O_value_2 : decode zc_O_value 2 = .ok (.getfield 79, 3) := by decide +kernel
theorem zd_O_value_5 : decode zc_O_value 5 = .ok (.invokestatic 87, 3) := by decide +kernel
theorem zd_O_value_8 : decode zc_O_value 8 = .ok (.iload_n 3, 1) := by decide +kernel
theorem zd_O_value_9 : decode zc_O_value 9 = .ok (.bipush 8, 2) := by decide +kernel
theorem zd_O_value_11 : decode zc_O_value 11 = .ok (.invokestatic 87, 3) := by decide +kernel
theorem zd_O_value_14 : decode zc_O_value 14 = .ok (.iload_n 2, 1) := by decide +kernel
theorem zd_O_value_15 : decode zc_O_value 15 = .ok (.invokestatic 93, 3) := by decide +kernel
theorem zd_O_value_18 : decode zc_O_value 18 = .ok (.aload_n 0, 1) := by decide +kernel
theorem zd_O_value_19 : decode zc_O_value 19 = .ok (.getfield 75, 3) := by decide +kernel
theorem zd_O_value_22 : decode zc_O_value 22 = .ok (.iload_n 1, 1) := by decide +kernel
theorem zd_O_value_23 : decode zc_O_value 23 = .ok (.iload_n 2, 1) := by decide +kernel
theorem zd_O_value_24 : decode zc_O_value 24 = .ok (.iload_n 3, 1) := by decide +kernel
theorem zd_O_value_25 : decode zc_O_value 25 = .ok (.invokevirtual 223, 3) := by decide +kernel
theorem zd_O_value_28 : decode zc_O_value 28 = .ok (.ireturn, 1) := by decide +kernel
theorem zd_O_chain_0 : decode zc_O_chain 0 = .ok (.iload_n 1, 1) := by decide +kernel
theorem zd_O_chain_1 : decode zc_O_chain 1 = .ok (.aload_n 0, 1) := by decide +kernel
theorem zd_O_chain_2 : decode zc_O_chain 2 = .ok (.getfield 79, 3) := by decide +kernel
theorem zd_O_chain_5 : decode zc_O_chain 5 = .ok (.invokestatic 87, 3) := by decide +kernel
theorem zd_O_chain_8 : decode zc_O_chain 8 = .ok (.iload_n 3, 1) := by decide +kernel
theorem zd_O_chain_9 : decode zc_O_chain 9 = .ok (.iconst (-1), 1) := by decide +kernel
theorem zd_O_chain_10 : decode zc_O_chain 10 = .ok (.if_icmp .ge 13, 3) := by decide +kernel
theorem zd_O_chain_13 : decode zc_O_chain 13 = .ok (.new 226, 3) := by decide +kernel
theorem zd_O_chain_16 : decode zc_O_chain 16 = .ok (.dup, 1) := by decide +kernel
theorem zd_O_chain_17 : decode zc_O_chain 17 = .ok (.ldc 228, 2) := by decide +kernel
theorem zd_O_chain_19 : decode zc_O_chain 19 = .ok (.invokespecial 230, 3) := by decide +kernel
theorem zd_O_chain_22 : decode zc_O_chain 22 = .ok (.athrow, 1) := by decide +kernel
theorem zd_O_chain_23 : decode zc_O_chain 23 = .ok (.iload_n 2, 1) := by decide +kernel
theorem zd_O_chain_24 : decode zc_O_chain 24 = .ok (.invokestatic 93, 3) := by decide +kernel
theorem zd_O_chain_27 : decode zc_O_chain 27 = .ok (.aload_n 0, 1) := by decide +kernel
theorem zd_O_chain_28 : decode zc_O_chain 28 = .ok (.iload_n 1, 1) := by decide +kernel
theorem zd_O_chain_29 : decode zc_O_chain 29 = .ok (.iload_n 2, 1) := by decide +kernel
theorem zd_O_chain_30 : decode zc_O_chain 30 = .ok (.invokevirtual 142, 3) := by decide +kernel
theorem zd_O_chain_33 : decode zc_O_chain 33 = .ok (.aload_n 0, 1) := by decide +kernel
theorem zd_O_chain_34 : decode zc_O_chain 34 = .ok (.getfield 26, 3) := by decide +kernel
theorem zd_O_chain_37 : decode zc_O_chain 37 = .ok (.invokevirtual 145, 3) := by decide +kernel
theorem zd_O_chain_40 : decode zc_O_chain 40 = .ok (.aload_n 0, 1) := by decide +kernel
theorem zd_O_chain_41 : decode zc_O_chain 41 = .ok (.iload_n 3, 1) := by decide +kernel
theorem zd_O_chain_42 : decode zc_O_chain 42 = .ok (.invokevirtual 231, 3) := by decide +kernel
theorem zd_O_chain_45 : decode zc_O_chain 45 = .ok (.iload_n 3, 1) := by decide +kernel
theorem zd_O_chain_46 : decode zc_O_chain 46 = .ok (.iconst (-1), 1) := by decide +kernel
theorem zd_O_chain_47 : decode zc_O_chain 47 = .ok (.if_icmp .ne 11, 3) := by decide +kernel
theorem zd_O_chain_50 : decode zc_O_chain 50 = .ok (.aload_n 0, 1) := by decide +kernel
theorem zd_O_chain_51 : decode zc_O_chain 51 = .ok (.getfield 40, 3) := by decide +kernel
theorem zd_O_chain_54 : decode zc_O_chain 54 = .ok (.getfield 234, 3) := by decide +kernel
theorem zd_O_chain_57 : decode zc_O_chain 57 = .ok (.ireturn, 1) := by decide +kernel
theorem zd_O_chain_58 : decode zc_O_chain 58 = .ok (.iload_n 3, 1) := by decide +kernel
theorem zd_O_chain_59 : decode zc_O_chain 59 = .ok (.aload_n 0, 1) := by decide +kernel
theorem zd_O_chain_60 : decode zc_O_chain 60 = .ok (.getfield 40, 3) := by decide +kernel
theorem zd_O_chain_63 : decode zc_O_chain 63 = .ok (.getfield 234, 3) := by decide +kernel
theorem zd_O_chain_66 : decode zc_O_chain 66 = .ok (.invokestatic 87, 3) := by decide +kernel
theorem zd_O_chain_69 : decode zc_O_chain 69 = .ok (.aload_n 0, 1) := by decide +kernel
theorem zd_O_chain_70 : decode zc_O_chain 70 = .ok (.getfield 40, 3) := by decide +kernel
theorem zd_O_chain_73 : decode zc_O_chain 73 = .ok (.getfield 237, 3) := by decide +kernel
theorem zd_O_chain_76 : decode zc_O_chain 76 = .ok (.ireturn, 1) := by decide +kernel
theorem zd_O_listRows_0 : decode zc_O_listRows 0 = .ok (.aload_n 0, 1) := by decide +kernel
theorem zd_O_listRows_1 : decode zc_O_listRows 1 = .ok (.getfield 26, 3) := by decide +kernel
theorem zd_O_listRows_4 : decode zc_O_listRows 4 = .ok (.aload_n 0, 1) := by decide +kernel
theorem zd_O_listRows_5 : decode zc_O_listRows 5 = .ok (.getfield 10, 3) := by decide +kernel
theorem zd_O_listRows_8 : decode zc_O_listRows 8 = .ok (.aload_n 0, 1) := by decide +kernel
theorem zd_O_listRows_9 : decode zc_O_listRows 9 = .ok (.getfield 19, 3) := by decide +kernel
theorem zd_O_listRows_12 : decode zc_O_listRows 12 = .ok (.iload_n 2, 1) := by decide +kernel
theorem zd_O_listRows_13 : decode zc_O_listRows 13 = .ok (.invokevirtual 131, 3) := by decide +kernel
theorem zd_O_listRows_16 : decode zc_O_listRows 16 = .ok (.aload_n 0, 1) := by decide +kernel
theorem zd_O_listRows_17 : decode zc_O_listRows 17 = .ok (.getfield 26, 3) := by decide +kernel
theorem zd_O_listRows_20 : decode zc_O_listRows 20 = .ok (.aload_n 0, 1) := by decide +kernel
theorem zd_O_listRows_21 : decode zc_O_listRows 21 = .ok (.getfield 10, 3) := by decide +kernel
theorem zd_O_listRows_24 : decode zc_O_listRows 24 = .ok (.iload_n 1, 1) := by decide +kernel
theorem zd_O_listRows_25 : decode zc_O_listRows 25 = .ok (.iload_n 2, 1) := by decide +kernel
theorem zd_O_listRows_26 : decode zc_O_listRows 26 = .ok (.invokevirtual 240, 3) := by decide +kernel
theorem zd_O_listRows_29 : decode zc_O_listRows 29 = .ok (.return_, 1) := by decide +kernel
theorem zd_O_sumShares_0 : decode zc_O_sumShares 0 = .ok (.aload_n 0, 1) := by decide +kernel
theorem zd_O_sumShares_1 : decode zc_O_sumShares 1 = .ok (.getfield 33, 3) := by decide +kernel
theorem zd_O_sumShares_4 : decode zc_O_sumShares 4 = .ok (.invokevirtual 244, 3) := by decide +kernel
theorem zd_O_sumShares_7 : decode zc_O_sumShares 7 = .ok (.iconst 0, 1) := by decide +kernel
theorem zd_O_sumShares_8 : decode zc_O_sumShares 8 = .ok (.istore_n 2, 1) := by decide +kernel
theorem zd_O_sumShares_9 : decode zc_O_sumShares 9 = .ok (.iload_n 2, 1) := by decide +kernel
theorem zd_O_sumShares_10 : decode zc_O_sumShares 10 = .ok (.aload_n 0, 1) := by decide +kernel
theorem zd_O_sumShares_11 : decode zc_O_sumShares 11 = .ok (.getfield 26, 3) := by decide +kernel
theorem zd_O_sumShares_14 : decode zc_O_sumShares 14 = .ok (.getfield 164, 3) := by decide +kernel
theorem zd_O_sumShares_17 : decode zc_O_sumShares 17 = .ok (.if_icmp .ge 112, 3) := by decide +kernel
theorem zd_O_sumShares_20 : decode zc_O_sumShares 20 = .ok (.aload_n 0, 1) := by decide +kernel
theorem zd_O_sumShares_21 : decode zc_O_sumShares 21 = .ok (.getfield 26, 3) := by decide +kernel
theorem zd_O_sumShares_24 : decode zc_O_sumShares 24 = .ok (.getfield 167, 3) := by decide +kernel
theorem zd_O_sumShares_27 : decode zc_O_sumShares 27 = .ok (.iload_n 2, 1) := by decide +kernel
theorem zd_O_sumShares_28 : decode zc_O_sumShares 28 = .ok (.iaload, 1) := by decide +kernel
theorem zd_O_sumShares_29 : decode zc_O_sumShares 29 = .ok (.istore_n 3, 1) := by decide +kernel
theorem zd_O_sumShares_30 : decode zc_O_sumShares 30 = .ok (.aload_n 0, 1) := by decide +kernel
theorem zd_O_sumShares_31 : decode zc_O_sumShares 31 = .ok (.getfield 26, 3) := by decide +kernel
theorem zd_O_sumShares_34 : decode zc_O_sumShares 34 = .ok (.getfield 135, 3) := by decide +kernel
theorem zd_O_sumShares_37 : decode zc_O_sumShares 37 = .ok (.iconst 1, 1) := by decide +kernel
theorem zd_O_sumShares_38 : decode zc_O_sumShares 38 = .ok (.aaload, 1) := by decide +kernel
theorem zd_O_sumShares_39 : decode zc_O_sumShares 39 = .ok (.iload_n 3, 1) := by decide +kernel
theorem zd_O_sumShares_40 : decode zc_O_sumShares 40 = .ok (.iaload, 1) := by decide +kernel
theorem zd_O_sumShares_41 : decode zc_O_sumShares 41 = .ok (.iload_n 1, 1) := by decide +kernel
theorem zd_O_sumShares_42 : decode zc_O_sumShares 42 = .ok (.if_icmp .gt 81, 3) := by decide +kernel
theorem zd_O_sumShares_45 : decode zc_O_sumShares 45 = .ok (.iload_n 1, 1) := by decide +kernel
theorem zd_O_sumShares_46 : decode zc_O_sumShares 46 = .ok (.aload_n 0, 1) := by decide +kernel
theorem zd_O_sumShares_47 : decode zc_O_sumShares 47 = .ok (.getfield 26, 3) := by decide +kernel
theorem zd_O_sumShares_50 : decode zc_O_sumShares 50 = .ok (.getfield 135, 3) := by decide +kernel
theorem zd_O_sumShares_53 : decode zc_O_sumShares 53 = .ok (.iconst 2, 1) := by decide +kernel
theorem zd_O_sumShares_54 : decode zc_O_sumShares 54 = .ok (.aaload, 1) := by decide +kernel
theorem zd_O_sumShares_55 : decode zc_O_sumShares 55 = .ok (.iload_n 3, 1) := by decide +kernel
theorem zd_O_sumShares_56 : decode zc_O_sumShares 56 = .ok (.iaload, 1) := by decide +kernel
theorem zd_O_sumShares_57 : decode zc_O_sumShares 57 = .ok (.if_icmp .gt 66, 3) := by decide +kernel
theorem zd_O_sumShares_60 : decode zc_O_sumShares 60 = .ok (.aload_n 0, 1) := by decide +kernel
theorem zd_O_sumShares_61 : decode zc_O_sumShares 61 = .ok (.getfield 33, 3) := by decide +kernel
theorem zd_O_sumShares_64 : decode zc_O_sumShares 64 = .ok (.aload_n 0, 1) := by decide +kernel
theorem zd_O_sumShares_65 : decode zc_O_sumShares 65 = .ok (.getfield 10, 3) := by decide +kernel
theorem zd_O_sumShares_68 : decode zc_O_sumShares 68 = .ok (.getfield 111, 3) := by decide +kernel
theorem zd_O_sumShares_71 : decode zc_O_sumShares 71 = .ok (.iload_n 3, 1) := by decide +kernel
theorem zd_O_sumShares_72 : decode zc_O_sumShares 72 = .ok (.iaload, 1) := by decide +kernel
theorem zd_O_sumShares_73 : decode zc_O_sumShares 73 = .ok (.aload_n 0, 1) := by decide +kernel
theorem zd_O_sumShares_74 : decode zc_O_sumShares 74 = .ok (.getfield 10, 3) := by decide +kernel
theorem zd_O_sumShares_77 : decode zc_O_sumShares 77 = .ok (.getfield 115, 3) := by decide +kernel
theorem zd_O_sumShares_80 : decode zc_O_sumShares 80 = .ok (.iload_n 3, 1) := by decide +kernel
theorem zd_O_sumShares_81 : decode zc_O_sumShares 81 = .ok (.iaload, 1) := by decide +kernel
theorem zd_O_sumShares_82 : decode zc_O_sumShares 82 = .ok (.invokevirtual 247, 3) := by decide +kernel
theorem zd_O_sumShares_85 : decode zc_O_sumShares 85 = .ok (.aload_n 0, 1) := by decide +kernel
theorem zd_O_sumShares_86 : decode zc_O_sumShares 86 = .ok (.getfield 33, 3) := by decide +kernel
theorem zd_O_sumShares_89 : decode zc_O_sumShares 89 = .ok (.getfield 155, 3) := by decide +kernel
theorem zd_O_sumShares_92 : decode zc_O_sumShares 92 = .ok (.ldc2_w 249, 3) := by decide +kernel
theorem zd_O_sumShares_95 : decode zc_O_sumShares 95 = .ok (.lcmp, 1) := by decide +kernel
theorem zd_O_sumShares_96 : decode zc_O_sumShares 96 = .ok (.ifCond .gt 17, 3) := by decide +kernel
theorem zd_O_sumShares_99 : decode zc_O_sumShares 99 = .ok (.aload_n 0, 1) := by decide +kernel
theorem zd_O_sumShares_100 : decode zc_O_sumShares 100 = .ok (.getfield 33, 3) := by decide +kernel
theorem zd_O_sumShares_103 : decode zc_O_sumShares 103 = .ok (.getfield 158, 3) := by decide +kernel
theorem zd_O_sumShares_106 : decode zc_O_sumShares 106 = .ok (.ldc2_w 249, 3) := by decide +kernel
theorem zd_O_sumShares_109 : decode zc_O_sumShares 109 = .ok (.lcmp, 1) := by decide +kernel
theorem zd_O_sumShares_110 : decode zc_O_sumShares 110 = .ok (.ifCond .le 13, 3) := by decide +kernel
theorem zd_O_sumShares_113 : decode zc_O_sumShares 113 = .ok (.new 185, 3) := by decide +kernel
theorem zd_O_sumShares_116 : decode zc_O_sumShares 116 = .ok (.dup, 1) := by decide +kernel
theorem zd_O_sumShares_117 : decode zc_O_sumShares 117 = .ok (.ldc 251, 2) := by decide +kernel
theorem zd_O_sumShares_119 : decode zc_O_sumShares 119 = .ok (.invokespecial 189, 3) := by decide +kernel
theorem zd_O_sumShares_122 : decode zc_O_sumShares 122 = .ok (.athrow, 1) := by decide +kernel
theorem zd_O_sumShares_123 : decode zc_O_sumShares 123 = .ok (.iinc 2 1, 3) := by decide +kernel
theorem zd_O_sumShares_126 : decode zc_O_sumShares 126 = .ok (.goto (-117), 3) := by decide +kernel
theorem zd_O_sumShares_129 : decode zc_O_sumShares 129 = .ok (.return_, 1) := by decide +kernel
theorem zd_O_printRows_0 : decode zc_O_printRows 0 = .ok (.aload_n 0, 1) := by decide +kernel
theorem zd_O_printRows_1 : decode zc_O_printRows 1 = .ok (.getfield 40, 3) := by decide +kernel
theorem zd_O_printRows_4 : decode zc_O_printRows 4 = .ok (.iload_n 1, 1) := by decide +kernel
theorem zd_O_printRows_5 : decode zc_O_printRows 5 = .ok (.invokevirtual 253, 3) := by decide +kernel
theorem zd_O_printRows_8 : decode zc_O_printRows 8 = .ok (.iconst 0, 1) := by decide +kernel
theorem zd_O_printRows_9 : decode zc_O_printRows 9 = .ok (.istore_n 2, 1) := by decide +kernel
theorem zd_O_printRows_10 : decode zc_O_printRows 10 = .ok (.iload_n 2, 1) := by decide +kernel
theorem zd_O_printRows_11 : decode zc_O_printRows 11 = .ok (.aload_n 0, 1) := by decide +kernel
theorem zd_O_printRows_12 : decode zc_O_printRows 12 = .ok (.getfield 26, 3) := by decide +kernel
theorem zd_O_printRows_15 : decode zc_O_printRows 15 = .ok (.getfield 164, 3) := by decide +kernel
theorem zd_O_printRows_18 : decode zc_O_printRows 18 = .ok (.if_icmp .ge 121, 3) := by decide +kernel
theorem zd_O_printRows_21 : decode zc_O_printRows 21 = .ok (.aload_n 0, 1) := by decide +kernel
theorem zd_O_printRows_22 : decode zc_O_printRows 22 = .ok (.getfield 26, 3) := by decide +kernel
theorem zd_O_printRows_25 : decode zc_O_printRows 25 = .ok (.getfield 167, 3) := by decide +kernel
theorem zd_O_printRows_28 : decode zc_O_printRows 28 = .ok (.iload_n 2, 1) := by decide +kernel
theorem zd_O_printRows_29 : decode zc_O_printRows 29 = .ok (.iaload, 1) := by decide +kernel
theorem zd_O_printRows_30 : decode zc_O_printRows 30 = .ok (.istore_n 3, 1) := by decide +kernel
theorem zd_O_printRows_31 : decode zc_O_printRows 31 = .ok (.aload_n 0, 1) := by decide +kernel
theorem zd_O_printRows_32 : decode zc_O_printRows 32 = .ok (.getfield 40, 3) := by decide +kernel
theorem zd_O_printRows_35 : decode zc_O_printRows 35 = .ok (.aload_n 0, 1) := by decide +kernel
theorem zd_O_printRows_36 : decode zc_O_printRows 36 = .ok (.getfield 26, 3) := by decide +kernel
theorem zd_O_printRows_39 : decode zc_O_printRows 39 = .ok (.getfield 135, 3) := by decide +kernel
theorem zd_O_printRows_42 : decode zc_O_printRows 42 = .ok (.iconst 0, 1) := by decide +kernel
theorem zd_O_printRows_43 : decode zc_O_printRows 43 = .ok (.aaload, 1) := by decide +kernel
theorem zd_O_printRows_44 : decode zc_O_printRows 44 = .ok (.iload_n 3, 1) := by decide +kernel
theorem zd_O_printRows_45 : decode zc_O_printRows 45 = .ok (.iaload, 1) := by decide +kernel
theorem zd_O_printRows_46 : decode zc_O_printRows 46 = .ok (.invokevirtual 256, 3) := by decide +kernel
theorem zd_O_printRows_49 : decode zc_O_printRows 49 = .ok (.aload_n 0, 1) := by decide +kernel
theorem zd_O_printRows_50 : decode zc_O_printRows 50 = .ok (.getfield 40, 3) := by decide +kernel
theorem zd_O_printRows_53 : decode zc_O_printRows 53 = .ok (.bipush 64, 2) := by decide +kernel
theorem zd_O_printRows_55 : decode zc_O_printRows 55 = .ok (.invokevirtual 259, 3) := by decide +kernel
theorem zd_O_printRows_58 : decode zc_O_printRows 58 = .ok (.aload_n 0, 1) := by decide +kernel
theorem zd_O_printRows_59 : decode zc_O_printRows 59 = .ok (.getfield 40, 3) := by decide +kernel
theorem zd_O_printRows_62 : decode zc_O_printRows 62 = .ok (.aload_n 0, 1) := by decide +kernel
theorem zd_O_printRows_63 : decode zc_O_printRows 63 = .ok (.getfield 26, 3) := by decide +kernel
theorem zd_O_printRows_66 : decode zc_O_printRows 66 = .ok (.getfield 135, 3) := by decide +kernel
theorem zd_O_printRows_69 : decode zc_O_printRows 69 = .ok (.iconst 1, 1) := by decide +kernel
theorem zd_O_printRows_70 : decode zc_O_printRows 70 = .ok (.aaload, 1) := by decide +kernel
theorem zd_O_printRows_71 : decode zc_O_printRows 71 = .ok (.iload_n 3, 1) := by decide +kernel
theorem zd_O_printRows_72 : decode zc_O_printRows 72 = .ok (.iaload, 1) := by decide +kernel
theorem zd_O_printRows_73 : decode zc_O_printRows 73 = .ok (.invokevirtual 256, 3) := by decide +kernel
theorem zd_O_printRows_76 : decode zc_O_printRows 76 = .ok (.aload_n 0, 1) := by decide +kernel
theorem zd_O_printRows_77 : decode zc_O_printRows 77 = .ok (.getfield 40, 3) := by decide +kernel
theorem zd_O_printRows_80 : decode zc_O_printRows 80 = .ok (.bipush 45, 2) := by decide +kernel
theorem zd_O_printRows_82 : decode zc_O_printRows 82 = .ok (.invokevirtual 259, 3) := by decide +kernel
theorem zd_O_printRows_85 : decode zc_O_printRows 85 = .ok (.aload_n 0, 1) := by decide +kernel
theorem zd_O_printRows_86 : decode zc_O_printRows 86 = .ok (.getfield 40, 3) := by decide +kernel
theorem zd_O_printRows_89 : decode zc_O_printRows 89 = .ok (.aload_n 0, 1) := by decide +kernel
theorem zd_O_printRows_90 : decode zc_O_printRows 90 = .ok (.getfield 26, 3) := by decide +kernel
theorem zd_O_printRows_93 : decode zc_O_printRows 93 = .ok (.getfield 135, 3) := by decide +kernel
theorem zd_O_printRows_96 : decode zc_O_printRows 96 = .ok (.iconst 2, 1) := by decide +kernel
theorem zd_O_printRows_97 : decode zc_O_printRows 97 = .ok (.aaload, 1) := by decide +kernel
theorem zd_O_printRows_98 : decode zc_O_printRows 98 = .ok (.iload_n 3, 1) := by decide +kernel
theorem zd_O_printRows_99 : decode zc_O_printRows 99 = .ok (.iaload, 1) := by decide +kernel
theorem zd_O_printRows_100 : decode zc_O_printRows 100 = .ok (.invokevirtual 256, 3) := by decide +kernel
theorem zd_O_printRows_103 : decode zc_O_printRows 103 = .ok (.aload_n 0, 1) := by decide +kernel
theorem zd_O_printRows_104 : decode zc_O_printRows 104 = .ok (.getfield 10, 3) := by decide +kernel
theorem zd_O_printRows_107 : decode zc_O_printRows 107 = .ok (.getfield 118, 3) := by decide +kernel
theorem zd_O_printRows_110 : decode zc_O_printRows 110 = .ok (.iload_n 3, 1) := by decide +kernel
theorem zd_O_printRows_111 : decode zc_O_printRows 111 = .ok (.baload, 1) := by decide +kernel
theorem zd_O_printRows_112 : decode zc_O_printRows 112 = .ok (.ifCond .eq 12, 3) := by decide +kernel
theorem zd_O_printRows_115 : decode zc_O_printRows 115 = .ok (.aload_n 0, 1) := by decide +kernel
theorem zd_O_printRows_116 : decode zc_O_printRows 116 = .ok (.getfield 40, 3) := by decide +kernel
theorem zd_O_printRows_119 : decode zc_O_printRows 119 = .ok (.bipush 63, 2) := by decide +kernel
theorem zd_O_printRows_121 : decode zc_O_printRows 121 = .ok (.invokevirtual 259, 3) := by decide +kernel
theorem zd_O_printRows_124 : decode zc_O_printRows 124 = .ok (.aload_n 0, 1) := by decide +kernel
theorem zd_O_printRows_125 : decode zc_O_printRows 125 = .ok (.getfield 40, 3) := by decide +kernel
theorem zd_O_printRows_128 : decode zc_O_printRows 128 = .ok (.bipush 59, 2) := by decide +kernel
theorem zd_O_printRows_130 : decode zc_O_printRows 130 = .ok (.invokevirtual 259, 3) := by decide +kernel
theorem zd_O_printRows_133 : decode zc_O_printRows 133 = .ok (.iinc 2 1, 3) := by decide +kernel
theorem zd_O_printRows_136 : decode zc_O_printRows 136 = .ok (.goto (-126), 3) := by decide +kernel
theorem zd_O_printRows_139 : decode zc_O_printRows 139 = .ok (.return_, 1) := by decide +kernel
theorem zd_O_tellYears_0 : decode zc_O_tellYears 0 = .ok (.iload_n 1, 1) := by decide +kernel
theorem zd_O_tellYears_1 : decode zc_O_tellYears 1 = .ok (.iconst 4, 1) := by decide +kernel
theorem zd_O_tellYears_2 : decode zc_O_tellYears 2 = .ok (.invokestatic 87, 3) := by decide +kernel
theorem zd_O_tellYears_5 : decode zc_O_tellYears 5 = .ok (.iload_n 2, 1) := by decide +kernel
theorem zd_O_tellYears_6 : decode zc_O_tellYears 6 = .ok (.ifCond .lt 10, 3) := by decide +kernel
theorem zd_O_tellYears_9 : decode zc_O_tellYears 9 = .ok (.iload_n 2, 1) := by decide +kernel
theorem zd_O_tellYears_10 : decode zc_O_tellYears 10 = .ok (.sipush 200, 3) := by decide +kernel
theorem zd_O_tellYears_13 : decode zc_O_tellYears 13 = .ok (.if_icmp .le 14, 3) := by decide +kernel
theorem zd_O_tellYears_16 : decode zc_O_tellYears 16 = .ok (.new 104, 3) := by decide +kernel
theorem zd_O_tellYears_19 : decode zc_O_tellYears 19 = .ok (.dup, 1) := by decide +kernel
theorem zd_O_tellYears_20 : decode zc_O_tellYears 20 = .ok (.ldc_w 262, 3) := by decide +kernel
theorem zd_O_tellYears_23 : decode zc_O_tellYears 23 = .ok (.invokespecial 108, 3) := by decide +kernel
theorem zd_O_tellYears_26 : decode zc_O_tellYears 26 = .ok (.athrow, 1) := by decide +kernel
theorem zd_O_tellYears_27 : decode zc_O_tellYears 27 = .ok (.aload_n 0, 1) := by decide +kernel
theorem zd_O_tellYears_28 : decode zc_O_tellYears 28 = .ok (.getfield 61, 3) := by decide +kernel
theorem zd_O_tellYears_31 : decode zc_O_tellYears 31 = .ok (.getfield 264, 3) := by decide +kernel
theorem zd_O_tellYears_34 : decode zc_O_tellYears 34 = .ok (.iload_n 1, 1) := by decide +kernel
theorem zd_O_tellYears_35 : decode zc_O_tellYears 35 = .ok (.iload_n 2, 1) := by decide +kernel
theorem zd_O_tellYears_36 : decode zc_O_tellYears 36 = .ok (.iastore, 1) := by decide +kernel
theorem zd_O_tellYears_37 : decode zc_O_tellYears 37 = .ok (.return_, 1) := by decide +kernel
theorem zd_O_tellMaker_0 : decode zc_O_tellMaker 0 = .ok (.iload_n 1, 1) := by decide +kernel
theorem zd_O_tellMaker_1 : decode zc_O_tellMaker 1 = .ok (.aload_n 0, 1) := by decide +kernel
theorem zd_O_tellMaker_2 : decode zc_O_tellMaker 2 = .ok (.getfield 79, 3) := by decide +kernel
theorem zd_O_tellMaker_5 : decode zc_O_tellMaker 5 = .ok (.invokestatic 87, 3) := by decide +kernel
theorem zd_O_tellMaker_8 : decode zc_O_tellMaker 8 = .ok (.iload_n 2, 1) := by decide +kernel
theorem zd_O_tellMaker_9 : decode zc_O_tellMaker 9 = .ok (.bipush 32, 2) := by decide +kernel
theorem zd_O_tellMaker_11 : decode zc_O_tellMaker 11 = .ok (.invokestatic 87, 3) := by decide +kernel
theorem zd_O_tellMaker_14 : decode zc_O_tellMaker 14 = .ok (.aload_n 0, 1) := by decide +kernel
theorem zd_O_tellMaker_15 : decode zc_O_tellMaker 15 = .ok (.getfield 61, 3) := by decide +kernel
theorem zd_O_tellMaker_18 : decode zc_O_tellMaker 18 = .ok (.getfield 267, 3) := by decide +kernel
theorem zd_O_tellMaker_21 : decode zc_O_tellMaker 21 = .ok (.iload_n 1, 1) := by decide +kernel
theorem zd_O_tellMaker_22 : decode zc_O_tellMaker 22 = .ok (.iload_n 2, 1) := by decide +kernel
theorem zd_O_tellMaker_23 : decode zc_O_tellMaker 23 = .ok (.iastore, 1) := by decide +kernel
theorem zd_O_tellMaker_24 : decode zc_O_tellMaker 24 = .ok (.return_, 1) := by decide +kernel
theorem zd_O_tellEnd_0 : decode zc_O_tellEnd 0 = .ok (.iload_n 1, 1) := by decide +kernel
theorem zd_O_tellEnd_1 : decode zc_O_tellEnd 1 = .ok (.bipush 32, 2) := by decide +kernel
theorem zd_O_tellEnd_3 : decode zc_O_tellEnd 3 = .ok (.invokestatic 87, 3) := by decide +kernel
theorem zd_O_tellEnd_6 : decode zc_O_tellEnd 6 = .ok (.iload_n 2, 1) := by decide +kernel
theorem zd_O_tellEnd_7 : decode zc_O_tellEnd 7 = .ok (.invokestatic 93, 3) := by decide +kernel
theorem zd_O_tellEnd_10 : decode zc_O_tellEnd 10 = .ok (.aload_n 0, 1) := by decide +kernel
theorem zd_O_tellEnd_11 : decode zc_O_tellEnd 11 = .ok (.getfield 61, 3) := by decide +kernel
theorem zd_O_tellEnd_14 : decode zc_O_tellEnd 14 = .ok (.getfield 270, 3) := by decide +kernel
theorem zd_O_tellEnd_17 : decode zc_O_tellEnd 17 = .ok (.iload_n 1, 1) := by decide +kernel
theorem zd_O_tellEnd_18 : decode zc_O_tellEnd 18 = .ok (.iload_n 2, 1) := by decide +kernel
theorem zd_O_tellEnd_19 : decode zc_O_tellEnd 19 = .ok (.iastore, 1) := by decide +kernel
theorem zd_O_tellEnd_20 : decode zc_O_tellEnd 20 = .ok (.return_, 1) := by decide +kernel
theorem zd_O_mustExist_0 : decode zc_O_mustExist 0 = .ok (.iload_n 0, 1) := by decide +kernel
theorem zd_O_mustExist_1 : decode zc_O_mustExist 1 = .ok (.ifCond .lt 8, 3) := by decide +kernel
theorem zd_O_mustExist_4 : decode zc_O_mustExist 4 = .ok (.iload_n 0, 1) := by decide +kernel
theorem zd_O_mustExist_5 : decode zc_O_mustExist 5 = .ok (.iload_n 1, 1) := by decide +kernel
theorem zd_O_mustExist_6 : decode zc_O_mustExist 6 = .ok (.if_icmp .lt 14, 3) := by decide +kernel
theorem zd_O_mustExist_9 : decode zc_O_mustExist 9 = .ok (.new 226, 3) := by decide +kernel
theorem zd_O_mustExist_12 : decode zc_O_mustExist 12 = .ok (.dup, 1) := by decide +kernel
theorem zd_O_mustExist_13 : decode zc_O_mustExist 13 = .ok (.ldc_w 273, 3) := by decide +kernel
theorem zd_O_mustExist_16 : decode zc_O_mustExist 16 = .ok (.invokespecial 230, 3) := by decide +kernel
theorem zd_O_mustExist_19 : decode zc_O_mustExist 19 = .ok (.athrow, 1) := by decide +kernel
theorem zd_O_mustExist_20 : decode zc_O_mustExist 20 = .ok (.return_, 1) := by decide +kernel
theorem zd_O_mustBePlace_0 : decode zc_O_mustBePlace 0 = .ok (.iload_n 0, 1) := by decide +kernel
theorem zd_O_mustBePlace_1 : decode zc_O_mustBePlace 1 = .ok (.ifCond .ge 14, 3) := by decide +kernel
theorem zd_O_mustBePlace_4 : decode zc_O_mustBePlace 4 = .ok (.new 226, 3) := by decide +kernel
theorem zd_O_mustBePlace_7 : decode zc_O_mustBePlace 7 = .ok (.dup, 1) := by decide +kernel
theorem zd_O_mustBePlace_8 : decode zc_O_mustBePlace 8 = .ok (.ldc_w 275, 3) := by decide +kernel
theorem zd_O_mustBePlace_11 : decode zc_O_mustBePlace 11 = .ok (.invokespecial 230, 3) := by decide +kernel
theorem zd_O_mustBePlace_14 : decode zc_O_mustBePlace 14 = .ok (.athrow, 1) := by decide +kernel
theorem zd_O_mustBePlace_15 : decode zc_O_mustBePlace 15 = .ok (.return_, 1) := by decide +kernel
theorem zd_O_mustBeDay_0 : decode zc_O_mustBeDay 0 = .ok (.iload_n 0, 1) := by decide +kernel
theorem zd_O_mustBeDay_1 : decode zc_O_mustBeDay 1 = .ok (.ifCond .lt 10, 3) := by decide +kernel
theorem zd_O_mustBeDay_4 : decode zc_O_mustBeDay 4 = .ok (.iload_n 0, 1) := by decide +kernel
theorem zd_O_mustBeDay_5 : decode zc_O_mustBeDay 5 = .ok (.ldc_w 277, 3) := by decide +kernel
theorem zd_O_mustBeDay_8 : decode zc_O_mustBeDay 8 = .ok (.if_icmp .le 14, 3) := by decide +kernel
theorem zd_O_mustBeDay_11 : decode zc_O_mustBeDay 11 = .ok (.new 104, 3) := by decide +kernel
theorem zd_O_mustBeDay_14 : decode zc_O_mustBeDay 14 = .ok (.dup, 1) := by decide +kernel
theorem zd_O_mustBeDay_15 : decode zc_O_mustBeDay 15 = .ok (.ldc_w 278, 3) := by decide +kernel
theorem zd_O_mustBeDay_18 : decode zc_O_mustBeDay 18 = .ok (.invokespecial 108, 3) := by decide +kernel
theorem zd_O_mustBeDay_21 : decode zc_O_mustBeDay 21 = .ok (.athrow, 1) := by decide +kernel
theorem zd_O_mustBeDay_22 : decode zc_O_mustBeDay 22 = .ok (.return_, 1) := by decide +kernel
theorem zd_O_mustBeSpan_0 : decode zc_O_mustBeSpan 0 = .ok (.iload_n 0, 1) := by decide +kernel
theorem zd_O_mustBeSpan_1 : decode zc_O_mustBeSpan 1 = .ok (.invokestatic 93, 3) := by decide +kernel
theorem zd_O_mustBeSpan_4 : decode zc_O_mustBeSpan 4 = .ok (.iload_n 1, 1) := by decide +kernel
theorem zd_O_mustBeSpan_5 : decode zc_O_mustBeSpan 5 = .ok (.invokestatic 93, 3) := by decide +kernel
theorem zd_O_mustBeSpan_8 : decode zc_O_mustBeSpan 8 = .ok (.iload_n 0, 1) := by decide +kernel
theorem zd_O_mustBeSpan_9 : decode zc_O_mustBeSpan 9 = .ok (.iload_n 1, 1) := by decide +kernel
theorem zd_O_mustBeSpan_10 : decode zc_O_mustBeSpan 10 = .ok (.if_icmp .le 14, 3) := by decide +kernel
theorem zd_O_mustBeSpan_13 : decode zc_O_mustBeSpan 13 = .ok (.new 104, 3) := by decide +kernel
theorem zd_O_mustBeSpan_16 : decode zc_O_mustBeSpan 16 = .ok (.dup, 1) := by decide +kernel
theorem zd_O_mustBeSpan_17 : decode zc_O_mustBeSpan 17 = .ok (.ldc_w 280, 3) := by decide +kernel
theorem zd_O_mustBeSpan_20 : decode zc_O_mustBeSpan 20 = .ok (.invokespecial 108, 3) := by decide +kernel
theorem zd_O_mustBeSpan_23 : decode zc_O_mustBeSpan 23 = .ok (.athrow, 1) := by decide +kernel
theorem zd_O_mustBeSpan_24 : decode zc_O_mustBeSpan 24 = .ok (.return_, 1) := by decide +kernel
theorem zd_O_mustHaveRoom_0 : decode zc_O_mustHaveRoom 0 = .ok (.iload_n 0, 1) := by decide +kernel
theorem zd_O_mustHaveRoom_1 : decode zc_O_mustHaveRoom 1 = .ok (.iload_n 1, 1) := by decide +kernel
theorem zd_O_mustHaveRoom_2 : decode zc_O_mustHaveRoom 2 = .ok (.if_icmp .lt 14, 3) := by decide +kernel
theorem zd_O_mustHaveRoom_5 : decode zc_O_mustHaveRoom 5 = .ok (.new 185, 3) := by decide +kernel
theorem zd_O_mustHaveRoom_8 : decode zc_O_mustHaveRoom 8 = .ok (.dup, 1) := by decide +kernel
theorem zd_O_mustHaveRoom_9 : decode zc_O_mustHaveRoom 9 = .ok (.ldc_w 282, 3) := by decide +kernel
theorem zd_O_mustHaveRoom_12 : decode zc_O_mustHaveRoom 12 = .ok (.invokespecial 189, 3) := by decide +kernel
theorem zd_O_mustHaveRoom_15 : decode zc_O_mustHaveRoom 15 = .ok (.athrow, 1) := by decide +kernel
theorem zd_O_mustHaveRoom_16 : decode zc_O_mustHaveRoom 16 = .ok (.return_, 1) := by decide +kernel
theorem zd_Cl_init_0 : decode zc_Cl_init 0 = .ok (.aload_n 0, 1) := by decide +kernel
theorem zd_Cl_init_1 : decode zc_Cl_init 1 = .ok (.invokespecial 3, 3) := by decide +kernel
theorem zd_Cl_init_4 : decode zc_Cl_init 4 = .ok (.aload_n 0, 1) := by decide +kernel
theorem zd_Cl_init_5 : decode zc_Cl_init 5 = .ok (.bipush 30, 2) := by decide +kernel
theorem zd_Cl_init_7 : decode zc_Cl_init 7 = .ok (.newarray .int, 2) := by decide +kernel
theorem zd_Cl_init_9 : decode zc_Cl_init 9 = .ok (.putfield 9, 3) := by decide +kernel
theorem zd_Cl_init_12 : decode zc_Cl_init 12 = .ok (.aload_n 0, 1) := by decide +kernel
theorem zd_Cl_init_13 : decode zc_Cl_init 13 = .ok (.bipush 30, 2) := by decide +kernel
theorem zd_Cl_init_15 : decode zc_Cl_init 15 = .ok (.newarray .int, 2) := by decide +kernel
theorem zd_Cl_init_17 : decode zc_Cl_init 17 = .ok (.putfield 15, 3) := by decide +kernel
theorem zd_Cl_init_20 : decode zc_Cl_init 20 = .ok (.aload_n 0, 1) := by decide +kernel
theorem zd_Cl_init_21 : decode zc_Cl_init 21 = .ok (.bipush 30, 2) := by decide +kernel
theorem zd_Cl_init_23 : decode zc_Cl_init 23 = .ok (.newarray .int, 2) := by decide +kernel
theorem zd_Cl_init_25 : decode zc_Cl_init 25 = .ok (.putfield 18, 3) := by decide +kernel
theorem zd_Cl_init_28 : decode zc_Cl_init 28 = .ok (.return_, 1) := by decide +kernel
theorem zd_Cl_add_0 : decode zc_Cl_add 0 = .ok (.aload_n 0, 1) := by decide +kernel
theorem zd_Cl_add_1 : decode zc_Cl_add 1 = .ok (.getfield 9, 3) := by decide +kernel
theorem zd_Cl_add_4 : decode zc_Cl_add 4 = .ok (.aload_n 0, 1) := by decide +kernel
theorem zd_Cl_add_5 : decode zc_Cl_add 5 = .ok (.getfield 21, 3) := by decide +kernel
theorem zd_Cl_add_8 : decode zc_Cl_add 8 = .ok (.iload_n 1, 1) := by decide +kernel
theorem zd_Cl_add_9 : decode zc_Cl_add 9 = .ok (.iastore, 1) := by decide +kernel
theorem zd_Cl_add_10 : decode zc_Cl_add 10 = .ok (.aload_n 0, 1) := by decide +kernel
theorem zd_Cl_add_11 : decode zc_Cl_add 11 = .ok (.getfield 15, 3) := by decide +kernel
theorem zd_Cl_add_14 : decode zc_Cl_add 14 = .ok (.aload_n 0, 1) := by decide +kernel
theorem zd_Cl_add_15 : decode zc_Cl_add 15 = .ok (.getfield 21, 3) := by decide +kernel
theorem zd_Cl_add_18 : decode zc_Cl_add 18 = .ok (.iload_n 2, 1) := by decide +kernel
theorem zd_Cl_add_19 : decode zc_Cl_add 19 = .ok (.iastore, 1) := by decide +kernel
theorem zd_Cl_add_20 : decode zc_Cl_add 20 = .ok (.aload_n 0, 1) := by decide +kernel
theorem zd_Cl_add_21 : decode zc_Cl_add 21 = .ok (.getfield 18, 3) := by decide +kernel
theorem zd_Cl_add_24 : decode zc_Cl_add 24 = .ok (.aload_n 0, 1) := by decide +kernel
theorem zd_Cl_add_25 : decode zc_Cl_add 25 = .ok (.getfield 21, 3) := by decide +kernel
theorem zd_Cl_add_28 : decode zc_Cl_add 28 = .ok (.iconst (-1), 1) := by decide +kernel
theorem zd_Cl_add_29 : decode zc_Cl_add 29 = .ok (.iastore, 1) := by decide +kernel
theorem zd_Cl_add_30 : decode zc_Cl_add 30 = .ok (.aload_n 0, 1) := by decide +kernel
theorem zd_Cl_add_31 : decode zc_Cl_add 31 = .ok (.dup, 1) := by decide +kernel
theorem zd_Cl_add_32 : decode zc_Cl_add 32 = .ok (.getfield 21, 3) := by decide +kernel
theorem zd_Cl_add_35 : decode zc_Cl_add 35 = .ok (.iconst 1, 1) := by decide +kernel
theorem zd_Cl_add_36 : decode zc_Cl_add 36 = .ok (.iadd, 1) := by decide +kernel
theorem zd_Cl_add_37 : decode zc_Cl_add 37 = .ok (.putfield 21, 3) := by decide +kernel
theorem zd_Cl_add_40 : decode zc_Cl_add 40 = .ok (.aload_n 0, 1) := by decide +kernel
theorem zd_Cl_add_41 : decode zc_Cl_add 41 = .ok (.getfield 21, 3) := by decide +kernel
theorem zd_Cl_add_44 : decode zc_Cl_add 44 = .ok (.iconst 1, 1) := by decide +kernel
theorem zd_Cl_add_45 : decode zc_Cl_add 45 = .ok (.isub, 1) := by decide +kernel
theorem zd_Cl_add_46 : decode zc_Cl_add 46 = .ok (.ireturn, 1) := by decide +kernel
theorem zd_Cl_hold_0 : decode zc_Cl_hold 0 = .ok (.iconst 0, 1) := by decide +kernel
theorem zd_Cl_hold_1 : decode zc_Cl_hold 1 = .ok (.istore_n 3, 1) := by decide +kernel
theorem zd_Cl_hold_2 : decode zc_Cl_hold 2 = .ok (.iload_n 3, 1) := by decide +kernel
theorem zd_Cl_hold_3 : decode zc_Cl_hold 3 = .ok (.aload_n 0, 1) := by decide +kernel
theorem zd_Cl_hold_4 : decode zc_Cl_hold 4 = .ok (.getfield 21, 3) := by decide +kernel
theorem zd_Cl_hold_7 : decode zc_Cl_hold 7 = .ok (.if_icmp .ge 63, 3) := by decide +kernel
theorem zd_Cl_hold_10 : decode zc_Cl_hold 10 = .ok (.aload_n 0, 1) := by decide +kernel
theorem zd_Cl_hold_11 : decode zc_Cl_hold 11 = .ok (.getfield 18, 3) := by decide +kernel
theorem zd_Cl_hold_14 : decode zc_Cl_hold 14 = .ok (.iload_n 3, 1) := by decide +kernel
theorem zd_Cl_hold_15 : decode zc_Cl_hold 15 = .ok (.iaload, 1) := by decide +kernel
theorem zd_Cl_hold_16 : decode zc_Cl_hold 16 = .ok (.iconst (-1), 1) := by decide +kernel
theorem zd_Cl_hold_17 : decode zc_Cl_hold 17 = .ok (.if_icmp .eq 13, 3) := by decide +kernel
theorem zd_Cl_hold_20 : decode zc_Cl_hold 20 = .ok (.iload_n 2, 1) := by decide +kernel
theorem zd_Cl_hold_21 : decode zc_Cl_hold 21 = .ok (.aload_n 0, 1) := by decide +kernel
theorem zd_Cl_hold_22 : decode zc_Cl_hold 22 = .ok (.getfield 18, 3) := by decide +kernel
theorem zd_Cl_hold_25 : decode zc_Cl_hold 25 = .ok (.iload_n 3, 1) := by decide +kernel
theorem zd_Cl_hold_26 : decode zc_Cl_hold 26 = .ok (.iaload, 1) := by decide +kernel
theorem zd_Cl_hold_27 : decode zc_Cl_hold 27 = .ok (.if_icmp .ge 7, 3) := by decide +kernel
theorem zd_Cl_hold_30 : decode zc_Cl_hold 30 = .ok (.iconst 1, 1) := by decide +kernel
theorem zd_Cl_hold_31 : decode zc_Cl_hold 31 = .ok (.goto 4, 3) := by decide +kernel
theorem zd_Cl_hold_34 : decode zc_Cl_hold 34 = .ok (.iconst 0, 1) := by decide +kernel
theorem zd_Cl_hold_35 : decode zc_Cl_hold 35 = .ok (.istore 4, 2) := by decide +kernel
theorem zd_Cl_hold_37 : decode zc_Cl_hold 37 = .ok (.aload_n 0, 1) := by decide +kernel
theorem zd_Cl_hold_38 : decode zc_Cl_hold 38 = .ok (.getfield 9, 3) := by decide +kernel
theorem zd_Cl_hold_41 : decode zc_Cl_hold 41 = .ok (.iload_n 3, 1) := by decide +kernel
theorem zd_Cl_hold_42 : decode zc_Cl_hold 42 = .ok (.iaload, 1) := by decide +kernel
theorem zd_Cl_hold_43 : decode zc_Cl_hold 43 = .ok (.iload_n 1, 1) := by decide +kernel
theorem zd_Cl_hold_44 : decode zc_Cl_hold 44 = .ok (.if_icmp .ne 20, 3) := by decide +kernel
theorem zd_Cl_hold_47 : decode zc_Cl_hold 47 = .ok (.aload_n 0, 1) := by decide +kernel
theorem zd_Cl_hold_48 : decode zc_Cl_hold 48 = .ok (.getfield 15, 3) := by decide +kernel
theorem zd_Cl_hold_51 : decode zc_Cl_hold 51 = .ok (.iload_n 3, 1) := by decide +kernel
theorem zd_Cl_hold_52 : decode zc_Cl_hold 52 = .ok (.iaload, 1) := by decide +kernel
theorem zd_Cl_hold_53 : decode zc_Cl_hold 53 = .ok (.iload_n 2, 1) := by decide +kernel
theorem zd_Cl_hold_54 : decode zc_Cl_hold 54 = .ok (.if_icmp .gt 10, 3) := by decide +kernel
theorem zd_Cl_hold_57 : decode zc_Cl_hold 57 = .ok (.iload 4, 2) := by decide +kernel
theorem zd_Cl_hold_59 : decode zc_Cl_hold 59 = .ok (.ifCond .eq 5, 3) := by decide +kernel
theorem zd_Cl_hold_62 : decode zc_Cl_hold 62 = .ok (.iconst 1, 1) := by decide +kernel
theorem zd_Cl_hold_63 : decode zc_Cl_hold 63 = .ok (.ireturn, 1) := by decide +kernel
theorem zd_Cl_hold_64 : decode zc_Cl_hold 64 = .ok (.iinc 3 1, 3) := by decide +kernel
theorem zd_Cl_hold_67 : decode zc_Cl_hold 67 = .ok (.goto (-65), 3) := by decide +kernel
theorem zd_Cl_hold_70 : decode zc_Cl_hold 70 = .ok (.iconst 0, 1) := by decide +kernel
theorem zd_Cl_hold_71 : decode zc_Cl_hold 71 = .ok (.ireturn, 1) := by decide +kernel
theorem zd_Co_init_0 : decode zc_Co_init 0 = .ok (.aload_n 0, 1) := by decide +kernel
theorem zd_Co_init_1 : decode zc_Co_init 1 = .ok (.invokespecial 3, 3) := by decide +kernel
theorem zd_Co_init_4 : decode zc_Co_init 4 = .ok (.aload_n 0, 1) := by decide +kernel
theorem zd_Co_init_5 : decode zc_Co_init 5 = .ok (.sipush 200, 3) := by decide +kernel
theorem zd_Co_init_8 : decode zc_Co_init 8 = .ok (.newarray .int, 2) := by decide +kernel
theorem zd_Co_init_10 : decode zc_Co_init 10 = .ok (.putfield 9, 3) := by decide +kernel
theorem zd_Co_init_13 : decode zc_Co_init 13 = .ok (.aload_n 0, 1) := by decide +kernel
theorem zd_Co_init_14 : decode zc_Co_init 14 = .ok (.sipush 200, 3) := by decide +kernel
theorem zd_Co_init_17 : decode zc_Co_init 17 = .ok (.newarray .int, 2) := by decide +kernel
theorem zd_Co_init_19 : decode zc_Co_init 19 = .ok (.putfield 15, 3) := by decide +kernel
theorem zd_Co_init_22 : decode zc_Co_init 22 = .ok (.aload_n 0, 1) := by decide +kernel
theorem zd_Co_init_23 : decode zc_Co_init 23 = .ok (.sipush 200, 3) := by decide +kernel
theorem zd_Co_init_26 : decode zc_Co_init 26 = .ok (.newarray .int, 2) := by decide +kernel
theorem zd_Co_init_28 : decode zc_Co_init 28 = .ok (.putfield 18, 3) := by decide +kernel
theorem zd_Co_init_31 : decode zc_Co_init 31 = .ok (.aload_n 0, 1) := by decide +kernel
theorem zd_Co_init_32 : decode zc_Co_init 32 = .ok (.sipush 200, 3) := by decide +kernel
theorem zd_Co_init_35 : decode zc_Co_init 35 = .ok (.newarray .int, 2) := by decide +kernel
theorem zd_Co_init_37 : decode zc_Co_init 37 = .ok (.putfield 21, 3) := by decide +kernel
theorem zd_Co_init_40 : decode zc_Co_init 40 = .ok (.return_, 1) := by decide +kernel
theorem zd_Co_add_0 : decode zc_Co_add 0 = .ok (.aload_n 0, 1) := by decide +kernel
theorem zd_Co_add_1 : decode zc_Co_add 1 = .ok (.getfield 9, 3) := by decide +kernel
theorem zd_Co_add_4 : decode zc_Co_add 4 = .ok (.aload_n 0, 1) := by decide +kernel
theorem zd_Co_add_5 : decode zc_Co_add 5 = .ok (.getfield 24, 3) := by decide +kernel
theorem zd_Co_add_8 : decode zc_Co_add 8 = .ok (.iload_n 1, 1) := by decide +kernel
theorem zd_Co_add_9 : decode zc_Co_add 9 = .ok (.iastore, 1) := by decide +kernel
theorem zd_Co_add_10 : decode zc_Co_add 10 = .ok (.aload_n 0, 1) := by decide +kernel
theorem zd_Co_add_11 : decode zc_Co_add 11 = .ok (.getfield 15, 3) := by decide +kernel
theorem zd_Co_add_14 : decode zc_Co_add 14 = .ok (.aload_n 0, 1) := by decide +kernel
theorem zd_Co_add_15 : decode zc_Co_add 15 = .ok (.getfield 24, 3) := by decide +kernel
theorem zd_Co_add_18 : decode zc_Co_add 18 = .ok (.iload_n 2, 1) := by decide +kernel
theorem zd_Co_add_19 : decode zc_Co_add 19 = .ok (.iastore, 1) := by decide +kernel
theorem zd_Co_add_20 : decode zc_Co_add 20 = .ok (.aload_n 0, 1) := by decide +kernel
theorem zd_Co_add_21 : decode zc_Co_add 21 = .ok (.getfield 18, 3) := by decide +kernel
theorem zd_Co_add_24 : decode zc_Co_add 24 = .ok (.aload_n 0, 1) := by decide +kernel
theorem zd_Co_add_25 : decode zc_Co_add 25 = .ok (.getfield 24, 3) := by decide +kernel
theorem zd_Co_add_28 : decode zc_Co_add 28 = .ok (.iload_n 3, 1) := by decide +kernel
theorem zd_Co_add_29 : decode zc_Co_add 29 = .ok (.iastore, 1) := by decide +kernel
theorem zd_Co_add_30 : decode zc_Co_add 30 = .ok (.aload_n 0, 1) := by decide +kernel
theorem zd_Co_add_31 : decode zc_Co_add 31 = .ok (.getfield 21, 3) := by decide +kernel
theorem zd_Co_add_34 : decode zc_Co_add 34 = .ok (.aload_n 0, 1) := by decide +kernel
theorem zd_Co_add_35 : decode zc_Co_add 35 = .ok (.getfield 24, 3) := by decide +kernel
theorem zd_Co_add_38 : decode zc_Co_add 38 = .ok (.iload 4, 2) := by decide +kernel
theorem zd_Co_add_40 : decode zc_Co_add 40 = .ok (.iastore, 1) := by decide +kernel
theorem zd_Co_add_41 : decode zc_Co_add 41 = .ok (.aload_n 0, 1) := by decide +kernel
theorem zd_Co_add_42 : decode zc_Co_add 42 = .ok (.dup, 1) := by decide +kernel
theorem zd_Co_add_43 : decode zc_Co_add 43 = .ok (.getfield 24, 3) := by decide +kernel
theorem zd_Co_add_46 : decode zc_Co_add 46 = .ok (.iconst 1, 1) := by decide +kernel
theorem zd_Co_add_47 : decode zc_Co_add 47 = .ok (.iadd, 1) := by decide +kernel
theorem zd_Co_add_48 : decode zc_Co_add 48 = .ok (.putfield 24, 3) := by decide +kernel
theorem zd_Co_add_51 : decode zc_Co_add 51 = .ok (.return_, 1) := by decide +kernel
theorem zd_Li_init_0 : decode zc_Li_init 0 = .ok (.aload_n 0, 1) := by decide +kernel
theorem zd_Li_init_1 : decode zc_Li_init 1 = .ok (.invokespecial 3, 3) := by decide +kernel
theorem zd_Li_init_4 : decode zc_Li_init 4 = .ok (.aload_n 0, 1) := by decide +kernel
theorem zd_Li_init_5 : decode zc_Li_init 5 = .ok (.bipush 40, 2) := by decide +kernel
theorem zd_Li_init_7 : decode zc_Li_init 7 = .ok (.newarray .int, 2) := by decide +kernel
theorem zd_Li_init_9 : decode zc_Li_init 9 = .ok (.putfield 9, 3) := by decide +kernel
theorem zd_Li_init_12 : decode zc_Li_init 12 = .ok (.aload_n 0, 1) := by decide +kernel
theorem zd_Li_init_13 : decode zc_Li_init 13 = .ok (.bipush 40, 2) := by decide +kernel
theorem zd_Li_init_15 : decode zc_Li_init 15 = .ok (.newarray .int, 2) := by decide +kernel
theorem zd_Li_init_17 : decode zc_Li_init 17 = .ok (.putfield 15, 3) := by decide +kernel
theorem zd_Li_init_20 : decode zc_Li_init 20 = .ok (.aload_n 0, 1) := by decide +kernel
theorem zd_Li_init_21 : decode zc_Li_init 21 = .ok (.bipush 40, 2) := by decide +kernel
theorem zd_Li_init_23 : decode zc_Li_init 23 = .ok (.newarray .int, 2) := by decide +kernel
theorem zd_Li_init_25 : decode zc_Li_init 25 = .ok (.putfield 18, 3) := by decide +kernel
theorem zd_Li_init_28 : decode zc_Li_init 28 = .ok (.aload_n 0, 1) := by decide +kernel
theorem zd_Li_init_29 : decode zc_Li_init 29 = .ok (.bipush 40, 2) := by decide +kernel
theorem zd_Li_init_31 : decode zc_Li_init 31 = .ok (.newarray .int, 2) := by decide +kernel
theorem zd_Li_init_33 : decode zc_Li_init 33 = .ok (.putfield 21, 3) := by decide +kernel
theorem zd_Li_init_36 : decode zc_Li_init 36 = .ok (.return_, 1) := by decide +kernel
theorem zd_Li_add_0 : decode zc_Li_add 0 = .ok (.aload_n 0, 1) := by decide +kernel
theorem zd_Li_add_1 : decode zc_Li_add 1 = .ok (.getfield 9, 3) := by decide +kernel
theorem zd_Li_add_4 : decode zc_Li_add 4 = .ok (.aload_n 0, 1) := by decide +kernel
theorem zd_Li_add_5 : decode zc_Li_add 5 = .ok (.getfield 24, 3) := by decide +kernel
theorem zd_Li_add_8 : decode zc_Li_add 8 = .ok (.iload_n 1, 1) := by decide +kernel
theorem zd_Li_add_9 : decode zc_Li_add 9 = .ok (.iastore, 1) := by decide +kernel
theorem zd_Li_add_10 : decode zc_Li_add 10 = .ok (.aload_n 0, 1) := by decide +kernel
theorem zd_Li_add_11 : decode zc_Li_add 11 = .ok (.getfield 15, 3) := by decide +kernel
theorem zd_Li_add_14 : decode zc_Li_add 14 = .ok (.aload_n 0, 1) := by decide +kernel
theorem zd_Li_add_15 : decode zc_Li_add 15 = .ok (.getfield 24, 3) := by decide +kernel
theorem zd_Li_add_18 : decode zc_Li_add 18 = .ok (.iload_n 2, 1) := by decide +kernel
theorem zd_Li_add_19 : decode zc_Li_add 19 = .ok (.iastore, 1) := by decide +kernel
theorem zd_Li_add_20 : decode zc_Li_add 20 = .ok (.aload_n 0, 1) := by decide +kernel
theorem zd_Li_add_21 : decode zc_Li_add 21 = .ok (.getfield 18, 3) := by decide +kernel
theorem zd_Li_add_24 : decode zc_Li_add 24 = .ok (.aload_n 0, 1) := by decide +kernel
theorem zd_Li_add_25 : decode zc_Li_add 25 = .ok (.getfield 24, 3) := by decide +kernel
theorem zd_Li_add_28 : decode zc_Li_add 28 = .ok (.iload_n 3, 1) := by decide +kernel
theorem zd_Li_add_29 : decode zc_Li_add 29 = .ok (.iastore, 1) := by decide +kernel
theorem zd_Li_add_30 : decode zc_Li_add 30 = .ok (.aload_n 0, 1) := by decide +kernel
theorem zd_Li_add_31 : decode zc_Li_add 31 = .ok (.getfield 21, 3) := by decide +kernel
theorem zd_Li_add_34 : decode zc_Li_add 34 = .ok (.aload_n 0, 1) := by decide +kernel
theorem zd_Li_add_35 : decode zc_Li_add 35 = .ok (.getfield 24, 3) := by decide +kernel
theorem zd_Li_add_38 : decode zc_Li_add 38 = .ok (.iload 4, 2) := by decide +kernel
theorem zd_Li_add_40 : decode zc_Li_add 40 = .ok (.iastore, 1) := by decide +kernel
theorem zd_Li_add_41 : decode zc_Li_add 41 = .ok (.aload_n 0, 1) := by decide +kernel
theorem zd_Li_add_42 : decode zc_Li_add 42 = .ok (.dup, 1) := by decide +kernel
theorem zd_Li_add_43 : decode zc_Li_add 43 = .ok (.getfield 24, 3) := by decide +kernel
theorem zd_Li_add_46 : decode zc_Li_add 46 = .ok (.iconst 1, 1) := by decide +kernel
theorem zd_Li_add_47 : decode zc_Li_add 47 = .ok (.iadd, 1) := by decide +kernel
theorem zd_Li_add_48 : decode zc_Li_add 48 = .ok (.putfield 24, 3) := by decide +kernel
theorem zd_Li_add_51 : decode zc_Li_add 51 = .ok (.aload_n 0, 1) := by decide +kernel
theorem zd_Li_add_52 : decode zc_Li_add 52 = .ok (.getfield 24, 3) := by decide +kernel
theorem zd_Li_add_55 : decode zc_Li_add 55 = .ok (.ireturn, 1) := by decide +kernel
theorem zd_Li_allow_0 : decode zc_Li_allow 0 = .ok (.iconst 0, 1) := by decide +kernel
theorem zd_Li_allow_1 : decode zc_Li_allow 1 = .ok (.istore 4, 2) := by decide +kernel
theorem zd_Li_allow_3 : decode zc_Li_allow 3 = .ok (.iload 4, 2) := by decide +kernel
theorem zd_Li_allow_5 : decode zc_Li_allow 5 = .ok (.aload_n 0, 1) := by decide +kernel
theorem zd_Li_allow_6 : decode zc_Li_allow 6 = .ok (.getfield 24, 3) := by decide +kernel
theorem zd_Li_allow_9 : decode zc_Li_allow 9 = .ok (.if_icmp .ge 67, 3) := by decide +kernel
theorem zd_Li_allow_12 : decode zc_Li_allow 12 = .ok (.aload_n 0, 1) := by decide +kernel
theorem zd_Li_allow_13 : decode zc_Li_allow 13 = .ok (.getfield 9, 3) := by decide +kernel
theorem zd_Li_allow_16 : decode zc_Li_allow 16 = .ok (.iload 4, 2) := by decide +kernel
theorem zd_Li_allow_18 : decode zc_Li_allow 18 = .ok (.iaload, 1) := by decide +kernel
theorem zd_Li_allow_19 : decode zc_Li_allow 19 = .ok (.iload_n 1, 1) := by decide +kernel
theorem zd_Li_allow_20 : decode zc_Li_allow 20 = .ok (.if_icmp .ne 18, 3) := by decide +kernel
theorem zd_Li_allow_23 : decode zc_Li_allow 23 = .ok (.aload_n 0, 1) := by decide +kernel
theorem zd_Li_allow_24 : decode zc_Li_allow 24 = .ok (.getfield 15, 3) := by decide +kernel
theorem zd_Li_allow_27 : decode zc_Li_allow 27 = .ok (.iload 4, 2) := by decide +kernel
theorem zd_Li_allow_29 : decode zc_Li_allow 29 = .ok (.iaload, 1) := by decide +kernel
theorem zd_Li_allow_30 : decode zc_Li_allow 30 = .ok (.iload_n 2, 1) := by decide +kernel
theorem zd_Li_allow_31 : decode zc_Li_allow 31 = .ok (.if_icmp .ne 7, 3) := by decide +kernel
theorem zd_Li_allow_34 : decode zc_Li_allow 34 = .ok (.iconst 1, 1) := by decide +kernel
theorem zd_Li_allow_35 : decode zc_Li_allow 35 = .ok (.goto 4, 3) := by decide +kernel
theorem zd_Li_allow_38 : decode zc_Li_allow 38 = .ok (.iconst 0, 1) := by decide +kernel
theorem zd_Li_allow_39 : decode zc_Li_allow 39 = .ok (.istore 5, 2) := by decide +kernel
theorem zd_Li_allow_41 : decode zc_Li_allow 41 = .ok (.iload 5, 2) := by decide +kernel
theorem zd_Li_allow_43 : decode zc_Li_allow 43 = .ok (.ifCond .eq 27, 3) := by decide +kernel
theorem zd_Li_allow_46 : decode zc_Li_allow 46 = .ok (.aload_n 0, 1) := by decide +kernel
theorem zd_Li_allow_47 : decode zc_Li_allow 47 = .ok (.getfield 18, 3) := by decide +kernel
theorem zd_Li_allow_50 : decode zc_Li_allow 50 = .ok (.iload 4, 2) := by decide +kernel
theorem zd_Li_allow_52 : decode zc_Li_allow 52 = .ok (.iaload, 1) := by decide +kernel
theorem zd_Li_allow_53 : decode zc_Li_allow 53 = .ok (.iload_n 3, 1) := by decide +kernel
theorem zd_Li_allow_54 : decode zc_Li_allow 54 = .ok (.if_icmp .gt 16, 3) := by decide +kernel
theorem zd_Li_allow_57 : decode zc_Li_allow 57 = .ok (.iload_n 3, 1) := by decide +kernel
theorem zd_Li_allow_58 : decode zc_Li_allow 58 = .ok (.aload_n 0, 1) := by decide +kernel
theorem zd_Li_allow_59 : decode zc_Li_allow 59 = .ok (.getfield 21, 3) := by decide +kernel
theorem zd_Li_allow_62 : decode zc_Li_allow 62 = .ok (.iload 4, 2) := by decide +kernel
theorem zd_Li_allow_64 : decode zc_Li_allow 64 = .ok (.iaload, 1) := by decide +kernel
theorem zd_Li_allow_65 : decode zc_Li_allow 65 = .ok (.if_icmp .gt 5, 3) := by decide +kernel
theorem zd_Li_allow_68 : decode zc_Li_allow 68 = .ok (.iconst 1, 1) := by decide +kernel
theorem zd_Li_allow_69 : decode zc_Li_allow 69 = .ok (.ireturn, 1) := by decide +kernel
theorem zd_Li_allow_70 : decode zc_Li_allow 70 = .ok (.iinc 4 1, 3) := by decide +kernel
theorem zd_Li_allow_73 : decode zc_Li_allow 73 = .ok (.goto (-70), 3) := by decide +kernel
theorem zd_Li_allow_76 : decode zc_Li_allow 76 = .ok (.iconst 0, 1) := by decide +kernel
theorem zd_Li_allow_77 : decode zc_Li_allow 77 = .ok (.ireturn, 1) := by decide +kernel
theorem zd_Pr_init_0 : decode zc_Pr_init 0 = .ok (.aload_n 0, 1) := by decide +kernel
theorem zd_Pr_init_1 : decode zc_Pr_init 1 = .ok (.invokespecial 3, 3) := by decide +kernel
theorem zd_Pr_init_4 : decode zc_Pr_init 4 = .ok (.return_, 1) := by decide +kernel
theorem zd_Pr_start_0 : decode zc_Pr_start 0 = .ok (.aload_n 0, 1) := by decide +kernel
theorem zd_Pr_start_1 : decode zc_Pr_start 1 = .ok (.iload_n 1, 1) := by decide +kernel
theorem zd_Pr_start_2 : decode zc_Pr_start 2 = .ok (.putfield 9, 3) := by decide +kernel
theorem zd_Pr_start_5 : decode zc_Pr_start 5 = .ok (.aload_n 0, 1) := by decide +kernel
theorem zd_Pr_start_6 : decode zc_Pr_start 6 = .ok (.iconst 0, 1) := by decide +kernel
theorem zd_Pr_start_7 : decode zc_Pr_start 7 = .ok (.putfield 15, 3) := by decide +kernel
theorem zd_Pr_start_10 : decode zc_Pr_start 10 = .ok (.aload_n 0, 1) := by decide +kernel
theorem zd_Pr_start_11 : decode zc_Pr_start 11 = .ok (.iconst (-1), 1) := by decide +kernel
theorem zd_Pr_start_12 : decode zc_Pr_start 12 = .ok (.putfield 18, 3) := by decide +kernel
theorem zd_Pr_start_15 : decode zc_Pr_start 15 = .ok (.return_, 1) := by decide +kernel
theorem zd_Pr_sign_0 : decode zc_Pr_sign 0 = .ok (.aload_n 0, 1) := by decide +kernel
theorem zd_Pr_sign_1 : decode zc_Pr_sign 1 = .ok (.getfield 15, 3) := by decide +kernel
theorem zd_Pr_sign_4 : decode zc_Pr_sign 4 = .ok (.aload_n 0, 1) := by decide +kernel
theorem zd_Pr_sign_5 : decode zc_Pr_sign 5 = .ok (.getfield 9, 3) := by decide +kernel
theorem zd_Pr_sign_8 : decode zc_Pr_sign 8 = .ok (.if_icmp .ne 8, 3) := by decide +kernel
theorem zd_Pr_sign_11 : decode zc_Pr_sign 11 = .ok (.aload_n 0, 1) := by decide +kernel
theorem zd_Pr_sign_12 : decode zc_Pr_sign 12 = .ok (.iload_n 1, 1) := by decide +kernel
theorem zd_Pr_sign_13 : decode zc_Pr_sign 13 = .ok (.putfield 18, 3) := by decide +kernel
theorem zd_Pr_sign_16 : decode zc_Pr_sign 16 = .ok (.aload_n 0, 1) := by decide +kernel
theorem zd_Pr_sign_17 : decode zc_Pr_sign 17 = .ok (.dup, 1) := by decide +kernel
theorem zd_Pr_sign_18 : decode zc_Pr_sign 18 = .ok (.getfield 15, 3) := by decide +kernel
theorem zd_Pr_sign_21 : decode zc_Pr_sign 21 = .ok (.iconst 1, 1) := by decide +kernel
theorem zd_Pr_sign_22 : decode zc_Pr_sign 22 = .ok (.iadd, 1) := by decide +kernel
theorem zd_Pr_sign_23 : decode zc_Pr_sign 23 = .ok (.putfield 15, 3) := by decide +kernel
theorem zd_Pr_sign_26 : decode zc_Pr_sign 26 = .ok (.return_, 1) := by decide +kernel
theorem zd_Pr_number_0 : decode zc_Pr_number 0 = .ok (.ldc 21, 2) := by decide +kernel
theorem zd_Pr_number_2 : decode zc_Pr_number 2 = .ok (.istore_n 2, 1) := by decide +kernel
theorem zd_Pr_number_3 : decode zc_Pr_number 3 = .ok (.iload_n 2, 1) := by decide +kernel
theorem zd_Pr_number_4 : decode zc_Pr_number 4 = .ok (.ifCond .le 34, 3) := by decide +kernel
theorem zd_Pr_number_7 : decode zc_Pr_number 7 = .ok (.iload_n 1, 1) := by decide +kernel
theorem zd_Pr_number_8 : decode zc_Pr_number 8 = .ok (.iload_n 2, 1) := by decide +kernel
theorem zd_Pr_number_9 : decode zc_Pr_number 9 = .ok (.if_icmp .ge 8, 3) := by decide +kernel
theorem zd_Pr_number_12 : decode zc_Pr_number 12 = .ok (.iload_n 2, 1) := by decide +kernel
theorem zd_Pr_number_13 : decode zc_Pr_number 13 = .ok (.iconst 1, 1) := by decide +kernel
theorem zd_Pr_number_14 : decode zc_Pr_number 14 = .ok (.if_icmp .ne 16, 3) := by decide +kernel
theorem zd_Pr_number_17 : decode zc_Pr_number 17 = .ok (.aload_n 0, 1) := by decide +kernel
theorem zd_Pr_number_18 : decode zc_Pr_number 18 = .ok (.bipush 48, 2) := by decide +kernel
theorem zd_Pr_number_20 : decode zc_Pr_number 20 = .ok (.iload_n 1, 1) := by decide +kernel
theorem zd_Pr_number_21 : decode zc_Pr_number 21 = .ok (.iload_n 2, 1) := by decide +kernel
theorem zd_Pr_number_22 : decode zc_Pr_number 22 = .ok (.idiv, 1) := by decide +kernel
theorem zd_Pr_number_23 : decode zc_Pr_number 23 = .ok (.bipush 10, 2) := by decide +kernel
theorem zd_Pr_number_25 : decode zc_Pr_number 25 = .ok (.irem, 1) := by decide +kernel
theorem zd_Pr_number_26 : decode zc_Pr_number 26 = .ok (.iadd, 1) := by decide +kernel
theorem zd_Pr_number_27 : decode zc_Pr_number 27 = .ok (.invokevirtual 22, 3) := by decide +kernel
theorem zd_Pr_number_30 : decode zc_Pr_number 30 = .ok (.iload_n 2, 1) := by decide +kernel
theorem zd_Pr_number_31 : decode zc_Pr_number 31 = .ok (.bipush 10, 2) := by decide +kernel
theorem zd_Pr_number_33 : decode zc_Pr_number 33 = .ok (.idiv, 1) := by decide +kernel
theorem zd_Pr_number_34 : decode zc_Pr_number 34 = .ok (.istore_n 2, 1) := by decide +kernel
theorem zd_Pr_number_35 : decode zc_Pr_number 35 = .ok (.goto (-32), 3) := by decide +kernel
theorem zd_Pr_number_38 : decode zc_Pr_number 38 = .ok (.return_, 1) := by decide +kernel
theorem zd_Ri_init_0 : decode zc_Ri_init 0 = .ok (.aload_n 0, 1) := by decide +kernel
theorem zd_Ri_init_1 : decode zc_Ri_init 1 = .ok (.invokespecial 3, 3) := by decide +kernel
theorem zd_Ri_init_4 : decode zc_Ri_init 4 = .ok (.aload_n 0, 1) := by decide +kernel
theorem zd_Ri_init_5 : decode zc_Ri_init 5 = .ok (.iconst 4, 1) := by decide +kernel
theorem zd_Ri_init_6 : decode zc_Ri_init 6 = .ok (.newarray .int, 2) := by decide +kernel
theorem zd_Ri_init_8 : decode zc_Ri_init 8 = .ok (.putfield 9, 3) := by decide +kernel
theorem zd_Ri_init_11 : decode zc_Ri_init 11 = .ok (.aload_n 0, 1) := by decide +kernel
theorem zd_Ri_init_12 : decode zc_Ri_init 12 = .ok (.bipush 16, 2) := by decide +kernel
theorem zd_Ri_init_14 : decode zc_Ri_init 14 = .ok (.newarray .int, 2) := by decide +kernel
theorem zd_Ri_init_16 : decode zc_Ri_init 16 = .ok (.putfield 15, 3) := by decide +kernel
theorem zd_Ri_init_19 : decode zc_Ri_init 19 = .ok (.aload_n 0, 1) := by decide +kernel
theorem zd_Ri_init_20 : decode zc_Ri_init 20 = .ok (.bipush 32, 2) := by decide +kernel
theorem zd_Ri_init_22 : decode zc_Ri_init 22 = .ok (.newarray .int, 2) := by decide +kernel
theorem zd_Ri_init_24 : decode zc_Ri_init 24 = .ok (.putfield 18, 3) := by decide +kernel
theorem zd_Ri_init_27 : decode zc_Ri_init 27 = .ok (.aload_n 0, 1) := by decide +kernel
theorem zd_Ri_init_28 : decode zc_Ri_init 28 = .ok (.getfield 15, 3) := by decide +kernel
theorem zd_Ri_init_31 : decode zc_Ri_init 31 = .ok (.iconst (-1), 1) := by decide +kernel
theorem zd_Ri_init_32 : decode zc_Ri_init 32 = .ok (.invokestatic 21, 3) := by decide +kernel
theorem zd_Ri_init_35 : decode zc_Ri_init 35 = .ok (.aload_n 0, 1) := by decide +kernel
theorem zd_Ri_init_36 : decode zc_Ri_init 36 = .ok (.getfield 18, 3) := by decide +kernel
theorem zd_Ri_init_39 : decode zc_Ri_init 39 = .ok (.iconst (-1), 1) := by decide +kernel
theorem zd_Ri_init_40 : decode zc_Ri_init 40 = .ok (.invokestatic 21, 3) := by decide +kernel
theorem zd_Ri_init_43 : decode zc_Ri_init 43 = .ok (.return_, 1) := by decide +kernel
theorem zd_Ri_holder_0 : decode zc_Ri_holder 0 = .ok (.aload_n 0, 1) := by decide +kernel
theorem zd_Ri_holder_1 : decode zc_Ri_holder 1 = .ok (.getfield 15, 3) := by decide +kernel
theorem zd_Ri_holder_4 : decode zc_Ri_holder 4 = .ok (.iload_n 1, 1) := by decide +kernel
theorem zd_Ri_holder_5 : decode zc_Ri_holder 5 = .ok (.iaload, 1) := by decide +kernel
theorem zd_Ri_holder_6 : decode zc_Ri_holder 6 = .ok (.istore 4, 2) := by decide +kernel
theorem zd_Ri_holder_8 : decode zc_Ri_holder 8 = .ok (.iload 4, 2) := by decide +kernel
theorem zd_Ri_holder_10 : decode zc_Ri_holder 10 = .ok (.iconst (-1), 1) := by decide +kernel
theorem zd_Ri_holder_11 : decode zc_Ri_holder 11 = .ok (.if_icmp .ne 5, 3) := by decide +kernel
theorem zd_Ri_holder_14 : decode zc_Ri_holder 14 = .ok (.iconst (-1), 1) := by decide +kernel
theorem zd_Ri_holder_15 : decode zc_Ri_holder 15 = .ok (.ireturn, 1) := by decide +kernel
theorem zd_Ri_holder_16 : decode zc_Ri_holder 16 = .ok (.aload_n 0, 1) := by decide +kernel
theorem zd_Ri_holder_17 : decode zc_Ri_holder 17 = .ok (.getfield 18, 3) := by decide +kernel
theorem zd_Ri_holder_20 : decode zc_Ri_holder 20 = .ok (.iload 4, 2) := by decide +kernel
theorem zd_Ri_holder_22 : decode zc_Ri_holder 22 = .ok (.iaload, 1) := by decide +kernel
theorem zd_Ri_holder_23 : decode zc_Ri_holder 23 = .ok (.iconst (-1), 1) := by decide +kernel
theorem zd_Ri_holder_24 : decode zc_Ri_holder 24 = .ok (.if_icmp .ne 7, 3) := by decide +kernel
theorem zd_Ri_holder_27 : decode zc_Ri_holder 27 = .ok (.iconst 1, 1) := by decide +kernel
theorem zd_Ri_holder_28 : decode zc_Ri_holder 28 = .ok (.goto 4, 3) := by decide +kernel
theorem zd_Ri_holder_31 : decode zc_Ri_holder 31 = .ok (.iconst 0, 1) := by decide +kernel
theorem zd_Ri_holder_32 : decode zc_Ri_holder 32 = .ok (.istore 5, 2) := by decide +kernel
theorem zd_Ri_holder_34 : decode zc_Ri_holder 34 = .ok (.iload 5, 2) := by decide +kernel
theorem zd_Ri_holder_36 : decode zc_Ri_holder 36 = .ok (.ifCond .ne 25, 3) := by decide +kernel
theorem zd_Ri_holder_39 : decode zc_Ri_holder 39 = .ok (.iload_n 3, 1) := by decide +kernel
theorem zd_Ri_holder_40 : decode zc_Ri_holder 40 = .ok (.aload_n 0, 1) := by decide +kernel
theorem zd_Ri_holder_41 : decode zc_Ri_holder 41 = .ok (.getfield 18, 3) := by decide +kernel
theorem zd_Ri_holder_44 : decode zc_Ri_holder 44 = .ok (.iload 4, 2) := by decide +kernel
theorem zd_Ri_holder_46 : decode zc_Ri_holder 46 = .ok (.iaload, 1) := by decide +kernel
theorem zd_Ri_holder_47 : decode zc_Ri_holder 47 = .ok (.aload_n 0, 1) := by decide +kernel
theorem zd_Ri_holder_48 : decode zc_Ri_holder 48 = .ok (.getfield 9, 3) := by decide +kernel
theorem zd_Ri_holder_51 : decode zc_Ri_holder 51 = .ok (.iload_n 2, 1) := by decide +kernel
theorem zd_Ri_holder_52 : decode zc_Ri_holder 52 = .ok (.iaload, 1) := by decide +kernel
theorem zd_Ri_holder_53 : decode zc_Ri_holder 53 = .ok (.sipush 365, 3) := by decide +kernel
theorem zd_Ri_holder_56 : decode zc_Ri_holder 56 = .ok (.imul, 1) := by decide +kernel
theorem zd_Ri_holder_57 : decode zc_Ri_holder 57 = .ok (.iadd, 1) := by decide +kernel
theorem zd_Ri_holder_58 : decode zc_Ri_holder 58 = .ok (.if_icmp .gt 8, 3) := by decide +kernel
theorem zd_Ri_holder_61 : decode zc_Ri_holder 61 = .ok (.iload 4, 2) := by decide +kernel
theorem zd_Ri_holder_63 : decode zc_Ri_holder 63 = .ok (.goto 4, 3) := by decide +kernel
theorem zd_Ri_holder_66 : decode zc_Ri_holder 66 = .ok (.iconst (-1), 1) := by decide +kernel
theorem zd_Ri_holder_67 : decode zc_Ri_holder 67 = .ok (.ireturn, 1) := by decide +kernel
theorem zd_Ro_init_0 : decode zc_Ro_init 0 = .ok (.aload_n 0, 1) := by decide +kernel
theorem zd_Ro_init_1 : decode zc_Ro_init 1 = .ok (.invokespecial 3, 3) := by decide +kernel
theorem zd_Ro_init_4 : decode zc_Ro_init 4 = .ok (.aload_n 0, 1) := by decide +kernel
theorem zd_Ro_init_5 : decode zc_Ro_init 5 = .ok (.bipush 120, 2) := by decide +kernel
theorem zd_Ro_init_7 : decode zc_Ro_init 7 = .ok (.newarray .int, 2) := by decide +kernel
theorem zd_Ro_init_9 : decode zc_Ro_init 9 = .ok (.putfield 9, 3) := by decide +kernel
theorem zd_Ro_init_12 : decode zc_Ro_init 12 = .ok (.aload_n 0, 1) := by decide +kernel
theorem zd_Ro_init_13 : decode zc_Ro_init 13 = .ok (.iconst 3, 1) := by decide +kernel
theorem zd_Ro_init_14 : decode zc_Ro_init 14 = .ok (.bipush 120, 2) := by decide +kernel
theorem zd_Ro_init_16 : decode zc_Ro_init 16 = .ok (.multianewarray 15 2, 4) := by decide +kernel
theorem zd_Ro_init_20 : decode zc_Ro_init 20 = .ok (.putfield 17, 3) := by decide +kernel
theorem zd_Ro_init_23 : decode zc_Ro_init 23 = .ok (.aload_n 0, 1) := by decide +kernel
theorem zd_Ro_init_24 : decode zc_Ro_init 24 = .ok (.bipush 120, 2) := by decide +kernel
theorem zd_Ro_init_26 : decode zc_Ro_init 26 = .ok (.newarray .int, 2) := by decide +kernel
theorem zd_Ro_init_28 : decode zc_Ro_init 28 = .ok (.putfield 20, 3) := by decide +kernel
theorem zd_Ro_init_31 : decode zc_Ro_init 31 = .ok (.aload_n 0, 1) := by decide +kernel
theorem zd_Ro_init_32 : decode zc_Ro_init 32 = .ok (.bipush 120, 2) := by decide +kernel
theorem zd_Ro_init_34 : decode zc_Ro_init 34 = .ok (.newarray .int, 2) := by decide +kernel
theorem zd_Ro_init_36 : decode zc_Ro_init 36 = .ok (.putfield 23, 3) := by decide +kernel
theorem zd_Ro_init_39 : decode zc_Ro_init 39 = .ok (.aload_n 0, 1) := by decide +kernel
theorem zd_Ro_init_40 : decode zc_Ro_init 40 = .ok (.bipush 120, 2) := by decide +kernel
theorem zd_Ro_init_42 : decode zc_Ro_init 42 = .ok (.newarray .int, 2) := by decide +kernel
theorem zd_Ro_init_44 : decode zc_Ro_init 44 = .ok (.putfield 26, 3) := by decide +kernel
theorem zd_Ro_init_47 : decode zc_Ro_init 47 = .ok (.aload_n 0, 1) := by decide +kernel
theorem zd_Ro_init_48 : decode zc_Ro_init 48 = .ok (.bipush 120, 2) := by decide +kernel
theorem zd_Ro_init_50 : decode zc_Ro_init 50 = .ok (.newarray .boolean, 2) := by decide +kernel
theorem zd_Ro_init_52 : decode zc_Ro_init 52 = .ok (.putfield 29, 3) := by decide +kernel
theorem zd_Ro_init_55 : decode zc_Ro_init 55 = .ok (.aload_n 0, 1) := by decide +kernel
theorem zd_Ro_init_56 : decode zc_Ro_init 56 = .ok (.bipush 120, 2) := by decide +kernel
theorem zd_Ro_init_58 : decode zc_Ro_init 58 = .ok (.newarray .int, 2) := by decide +kernel
theorem zd_Ro_init_60 : decode zc_Ro_init 60 = .ok (.putfield 33, 3) := by decide +kernel
theorem zd_Ro_init_63 : decode zc_Ro_init 63 = .ok (.return_, 1) := by decide +kernel
theorem zd_Ro_add_0 : decode zc_Ro_add 0 = .ok (.aload_n 0, 1) := by decide +kernel
theorem zd_Ro_add_1 : decode zc_Ro_add 1 = .ok (.getfield 36, 3) := by decide +kernel
theorem zd_Ro_add_4 : decode zc_Ro_add 4 = .ok (.istore 6, 2) := by decide +kernel
theorem zd_Ro_add_6 : decode zc_Ro_add 6 = .ok (.aload_n 0, 1) := by decide +kernel
theorem zd_Ro_add_7 : decode zc_Ro_add 7 = .ok (.getfield 9, 3) := by decide +kernel
theorem zd_Ro_add_10 : decode zc_Ro_add 10 = .ok (.iload 6, 2) := by decide +kernel
theorem zd_Ro_add_12 : decode zc_Ro_add 12 = .ok (.iload_n 1, 1) := by decide +kernel
theorem zd_Ro_add_13 : decode zc_Ro_add 13 = .ok (.iastore, 1) := by decide +kernel
theorem zd_Ro_add_14 : decode zc_Ro_add 14 = .ok (.aload_n 0, 1) := by decide +kernel
theorem zd_Ro_add_15 : decode zc_Ro_add 15 = .ok (.getfield 17, 3) := by decide +kernel
theorem zd_Ro_add_18 : decode zc_Ro_add 18 = .ok (.iconst 0, 1) := by decide +kernel
theorem zd_Ro_add_19 : decode zc_Ro_add 19 = .ok (.aaload, 1) := by decide +kernel
theorem zd_Ro_add_20 : decode zc_Ro_add 20 = .ok (.iload 6, 2) := by decide +kernel
theorem zd_Ro_add_22 : decode zc_Ro_add 22 = .ok (.iload_n 2, 1) := by decide +kernel
theorem zd_Ro_add_23 : decode zc_Ro_add 23 = .ok (.iastore, 1) := by decide +kernel
theorem zd_Ro_add_24 : decode zc_Ro_add 24 = .ok (.aload_n 0, 1) := by decide +kernel
theorem zd_Ro_add_25 : decode zc_Ro_add 25 = .ok (.getfield 17, 3) := by decide +kernel
theorem zd_Ro_add_28 : decode zc_Ro_add 28 = .ok (.iconst 1, 1) := by decide +kernel
theorem zd_Ro_add_29 : decode zc_Ro_add 29 = .ok (.aaload, 1) := by decide +kernel
theorem zd_Ro_add_30 : decode zc_Ro_add 30 = .ok (.iload 6, 2) := by decide +kernel
theorem zd_Ro_add_32 : decode zc_Ro_add 32 = .ok (.iload_n 3, 1) := by decide +kernel
theorem zd_Ro_add_33 : decode zc_Ro_add 33 = .ok (.iastore, 1) := by decide +kernel
theorem zd_Ro_add_34 : decode zc_Ro_add 34 = .ok (.aload_n 0, 1) := by decide +kernel
theorem zd_Ro_add_35 : decode zc_Ro_add 35 = .ok (.getfield 17, 3) := by decide +kernel
theorem zd_Ro_add_38 : decode zc_Ro_add 38 = .ok (.iconst 2, 1) := by decide +kernel
theorem zd_Ro_add_39 : decode zc_Ro_add 39 = .ok (.aaload, 1) := by decide +kernel
theorem zd_Ro_add_40 : decode zc_Ro_add 40 = .ok (.iload 6, 2) := by decide +kernel
theorem zd_Ro_add_42 : decode zc_Ro_add 42 = .ok (.iload 4, 2) := by decide +kernel
theorem zd_Ro_add_44 : decode zc_Ro_add 44 = .ok (.iastore, 1) := by decide +kernel
theorem zd_Ro_add_45 : decode zc_Ro_add 45 = .ok (.aload_n 0, 1) := by decide +kernel
theorem zd_Ro_add_46 : decode zc_Ro_add 46 = .ok (.getfield 20, 3) := by decide +kernel
theorem zd_Ro_add_49 : decode zc_Ro_add 49 = .ok (.iload 6, 2) := by decide +kernel
theorem zd_Ro_add_51 : decode zc_Ro_add 51 = .ok (.iload 5, 2) := by decide +kernel
theorem zd_Ro_add_53 : decode zc_Ro_add 53 = .ok (.iastore, 1) := by decide +kernel
theorem zd_Ro_add_54 : decode zc_Ro_add 54 = .ok (.aload_n 0, 1) := by decide +kernel
theorem zd_Ro_add_55 : decode zc_Ro_add 55 = .ok (.getfield 23, 3) := by decide +kernel
theorem zd_Ro_add_58 : decode zc_Ro_add 58 = .ok (.iload 6, 2) := by decide +kernel
theorem zd_Ro_add_60 : decode zc_Ro_add 60 = .ok (.iconst 1, 1) := by decide +kernel
theorem zd_Ro_add_61 : decode zc_Ro_add 61 = .ok (.iastore, 1) := by decide +kernel
theorem zd_Ro_add_62 : decode zc_Ro_add 62 = .ok (.aload_n 0, 1) := by decide +kernel
theorem zd_Ro_add_63 : decode zc_Ro_add 63 = .ok (.getfield 26, 3) := by decide +kernel
theorem zd_Ro_add_66 : decode zc_Ro_add 66 = .ok (.iload 6, 2) := by decide +kernel
theorem zd_Ro_add_68 : decode zc_Ro_add 68 = .ok (.iconst 1, 1) := by decide +kernel
theorem zd_Ro_add_69 : decode zc_Ro_add 69 = .ok (.iastore, 1) := by decide +kernel
theorem zd_Ro_add_70 : decode zc_Ro_add 70 = .ok (.aload_n 0, 1) := by decide +kernel
theorem zd_Ro_add_71 : decode zc_Ro_add 71 = .ok (.dup, 1) := by decide +kernel
theorem zd_Ro_add_72 : decode zc_Ro_add 72 = .ok (.getfield 36, 3) := by decide +kernel
theorem zd_Ro_add_75 : decode zc_Ro_add 75 = .ok (.iconst 1, 1) := by decide +kernel
theorem zd_Ro_add_76 : decode zc_Ro_add 76 = .ok (.iadd, 1) := by decide +kernel
theorem zd_Ro_add_77 : decode zc_Ro_add 77 = .ok (.putfield 36, 3) := by decide +kernel
theorem zd_Ro_add_80 : decode zc_Ro_add 80 = .ok (.iload 6, 2) := by decide +kernel
theorem zd_Ro_add_82 : decode zc_Ro_add 82 = .ok (.ireturn, 1) := by decide +kernel
theorem zd_Ro_isSealed_0 : decode zc_Ro_isSealed 0 = .ok (.aload_n 0, 1) := by decide +kernel
theorem zd_Ro_isSealed_1 : decode zc_Ro_isSealed 1 = .ok (.getfield 33, 3) := by decide +kernel
theorem zd_Ro_isSealed_4 : decode zc_Ro_isSealed 4 = .ok (.iload_n 1, 1) := by decide +kernel
theorem zd_Ro_isSealed_5 : decode zc_Ro_isSealed 5 = .ok (.iaload, 1) := by decide +kernel
theorem zd_Ro_isSealed_6 : decode zc_Ro_isSealed 6 = .ok (.iconst 1, 1) := by decide +kernel
theorem zd_Ro_isSealed_7 : decode zc_Ro_isSealed 7 = .ok (.iload_n 2, 1) := by decide +kernel
theorem zd_Ro_isSealed_8 : decode zc_Ro_isSealed 8 = .ok (.ishl, 1) := by decide +kernel
theorem zd_Ro_isSealed_9 : decode zc_Ro_isSealed 9 = .ok (.iand, 1) := by decide +kernel
theorem zd_Ro_isSealed_10 : decode zc_Ro_isSealed 10 = .ok (.ifCond .eq 7, 3) := by decide +kernel
theorem zd_Ro_isSealed_13 : decode zc_Ro_isSealed 13 = .ok (.iconst 1, 1) := by decide +kernel
theorem zd_Ro_isSealed_14 : decode zc_Ro_isSealed 14 = .ok (.goto 4, 3) := by decide +kernel
theorem zd_Ro_isSealed_17 : decode zc_Ro_isSealed 17 = .ok (.iconst 0, 1) := by decide +kernel
theorem zd_Ro_isSealed_18 : decode zc_Ro_isSealed 18 = .ok (.ireturn, 1) := by decide +kernel
theorem zd_Ru_init_0 : decode zc_Ru_init 0 = .ok (.aload_n 0, 1) := by decide +kernel
theorem zd_Ru_init_1 : decode zc_Ru_init 1 = .ok (.invokespecial 3, 3) := by decide +kernel
theorem zd_Ru_init_4 : decode zc_Ru_init 4 = .ok (.aload_n 0, 1) := by decide +kernel
theorem zd_Ru_init_5 : decode zc_Ru_init 5 = .ok (.bipush 10, 2) := by decide +kernel
theorem zd_Ru_init_7 : decode zc_Ru_init 7 = .ok (.newarray .int, 2) := by decide +kernel
theorem zd_Ru_init_9 : decode zc_Ru_init 9 = .ok (.putfield 9, 3) := by decide +kernel
theorem zd_Ru_init_12 : decode zc_Ru_init 12 = .ok (.aload_n 0, 1) := by decide +kernel
theorem zd_Ru_init_13 : decode zc_Ru_init 13 = .ok (.bipush 10, 2) := by decide +kernel
theorem zd_Ru_init_15 : decode zc_Ru_init 15 = .ok (.newarray .int, 2) := by decide +kernel
theorem zd_Ru_init_17 : decode zc_Ru_init 17 = .ok (.putfield 15, 3) := by decide +kernel
theorem zd_Ru_init_20 : decode zc_Ru_init 20 = .ok (.aload_n 0, 1) := by decide +kernel
theorem zd_Ru_init_21 : decode zc_Ru_init 21 = .ok (.bipush 10, 2) := by decide +kernel
theorem zd_Ru_init_23 : decode zc_Ru_init 23 = .ok (.newarray .int, 2) := by decide +kernel
theorem zd_Ru_init_25 : decode zc_Ru_init 25 = .ok (.putfield 18, 3) := by decide +kernel
theorem zd_Ru_init_28 : decode zc_Ru_init 28 = .ok (.return_, 1) := by decide +kernel
theorem zd_Ru_add_0 : decode zc_Ru_add 0 = .ok (.aload_n 0, 1) := by decide +kernel
theorem zd_Ru_add_1 : decode zc_Ru_add 1 = .ok (.getfield 9, 3) := by decide +kernel
theorem zd_Ru_add_4 : decode zc_Ru_add 4 = .ok (.aload_n 0, 1) := by decide +kernel
theorem zd_Ru_add_5 : decode zc_Ru_add 5 = .ok (.getfield 21, 3) := by decide +kernel
theorem zd_Ru_add_8 : decode zc_Ru_add 8 = .ok (.iload_n 1, 1) := by decide +kernel
theorem zd_Ru_add_9 : decode zc_Ru_add 9 = .ok (.iastore, 1) := by decide +kernel
theorem zd_Ru_add_10 : decode zc_Ru_add 10 = .ok (.aload_n 0, 1) := by decide +kernel
theorem zd_Ru_add_11 : decode zc_Ru_add 11 = .ok (.getfield 15, 3) := by decide +kernel
theorem zd_Ru_add_14 : decode zc_Ru_add 14 = .ok (.aload_n 0, 1) := by decide +kernel
theorem zd_Ru_add_15 : decode zc_Ru_add 15 = .ok (.getfield 21, 3) := by decide +kernel
theorem zd_Ru_add_18 : decode zc_Ru_add 18 = .ok (.iload_n 2, 1) := by decide +kernel
theorem zd_Ru_add_19 : decode zc_Ru_add 19 = .ok (.iastore, 1) := by decide +kernel
theorem zd_Ru_add_20 : decode zc_Ru_add 20 = .ok (.aload_n 0, 1) := by decide +kernel
theorem zd_Ru_add_21 : decode zc_Ru_add 21 = .ok (.getfield 18, 3) := by decide +kernel
theorem zd_Ru_add_24 : decode zc_Ru_add 24 = .ok (.aload_n 0, 1) := by decide +kernel
theorem zd_Ru_add_25 : decode zc_Ru_add 25 = .ok (.getfield 21, 3) := by decide +kernel
theorem zd_Ru_add_28 : decode zc_Ru_add 28 = .ok (.iload_n 3, 1) := by decide +kernel
theorem zd_Ru_add_29 : decode zc_Ru_add 29 = .ok (.iastore, 1) := by decide +kernel
theorem zd_Ru_add_30 : decode zc_Ru_add 30 = .ok (.aload_n 0, 1) := by decide +kernel
theorem zd_Ru_add_31 : decode zc_Ru_add 31 = .ok (.dup, 1) := by decide +kernel
theorem zd_Ru_add_32 : decode zc_Ru_add 32 = .ok (.getfield 21, 3) := by decide +kernel
theorem zd_Ru_add_35 : decode zc_Ru_add 35 = .ok (.iconst 1, 1) := by decide +kernel
theorem zd_Ru_add_36 : decode zc_Ru_add 36 = .ok (.iadd, 1) := by decide +kernel
theorem zd_Ru_add_37 : decode zc_Ru_add 37 = .ok (.putfield 21, 3) := by decide +kernel
theorem zd_Ru_add_40 : decode zc_Ru_add 40 = .ok (.aload_n 0, 1) := by decide +kernel
theorem zd_Ru_add_41 : decode zc_Ru_add 41 = .ok (.getfield 21, 3) := by decide +kernel
theorem zd_Ru_add_44 : decode zc_Ru_add 44 = .ok (.iconst 1, 1) := by decide +kernel
theorem zd_Ru_add_45 : decode zc_Ru_add 45 = .ok (.isub, 1) := by decide +kernel
theorem zd_Ru_add_46 : decode zc_Ru_add 46 = .ok (.ireturn, 1) := by decide +kernel
theorem zd_Ru_touch_0 : decode zc_Ru_touch 0 = .ok (.iconst 0, 1) := by decide +kernel
theorem zd_Ru_touch_1 : decode zc_Ru_touch 1 = .ok (.istore 4, 2) := by decide +kernel
theorem zd_Ru_touch_3 : decode zc_Ru_touch 3 = .ok (.iload 4, 2) := by decide +kernel
theorem zd_Ru_touch_5 : decode zc_Ru_touch 5 = .ok (.aload_n 0, 1) := by decide +kernel
theorem zd_Ru_touch_6 : decode zc_Ru_touch 6 = .ok (.getfield 21, 3) := by decide +kernel
theorem zd_Ru_touch_9 : decode zc_Ru_touch 9 = .ok (.if_icmp .ge 67, 3) := by decide +kernel
theorem zd_Ru_touch_12 : decode zc_Ru_touch 12 = .ok (.aload_n 0, 1) := by decide +kernel
theorem zd_Ru_touch_13 : decode zc_Ru_touch 13 = .ok (.getfield 15, 3) := by decide +kernel
theorem zd_Ru_touch_16 : decode zc_Ru_touch 16 = .ok (.iload 4, 2) := by decide +kernel
theorem zd_Ru_touch_18 : decode zc_Ru_touch 18 = .ok (.iaload, 1) := by decide +kernel
theorem zd_Ru_touch_19 : decode zc_Ru_touch 19 = .ok (.iload_n 3, 1) := by decide +kernel
theorem zd_Ru_touch_20 : decode zc_Ru_touch 20 = .ok (.if_icmp .gt 18, 3) := by decide +kernel
theorem zd_Ru_touch_23 : decode zc_Ru_touch 23 = .ok (.iload_n 2, 1) := by decide +kernel
theorem zd_Ru_touch_24 : decode zc_Ru_touch 24 = .ok (.aload_n 0, 1) := by decide +kernel
theorem zd_Ru_touch_25 : decode zc_Ru_touch 25 = .ok (.getfield 18, 3) := by decide +kernel
theorem zd_Ru_touch_28 : decode zc_Ru_touch 28 = .ok (.iload 4, 2) := by decide +kernel
theorem zd_Ru_touch_30 : decode zc_Ru_touch 30 = .ok (.iaload, 1) := by decide +kernel
theorem zd_Ru_touch_31 : decode zc_Ru_touch 31 = .ok (.if_icmp .gt 7, 3) := by decide +kernel
theorem zd_Ru_touch_34 : decode zc_Ru_touch 34 = .ok (.iconst 1, 1) := by decide +kernel
theorem zd_Ru_touch_35 : decode zc_Ru_touch 35 = .ok (.goto 4, 3) := by decide +kernel
theorem zd_Ru_touch_38 : decode zc_Ru_touch 38 = .ok (.iconst 0, 1) := by decide +kernel
theorem zd_Ru_touch_39 : decode zc_Ru_touch 39 = .ok (.istore 5, 2) := by decide +kernel
theorem zd_Ru_touch_41 : decode zc_Ru_touch 41 = .ok (.iload 5, 2) := by decide +kernel
theorem zd_Ru_touch_43 : decode zc_Ru_touch 43 = .ok (.ifCond .eq 27, 3) := by decide +kernel
theorem zd_Ru_touch_46 : decode zc_Ru_touch 46 = .ok (.aload_n 0, 1) := by decide +kernel
theorem zd_Ru_touch_47 : decode zc_Ru_touch 47 = .ok (.getfield 9, 3) := by decide +kernel
theorem zd_Ru_touch_50 : decode zc_Ru_touch 50 = .ok (.iload 4, 2) := by decide +kernel
theorem zd_Ru_touch_52 : decode zc_Ru_touch 52 = .ok (.iaload, 1) := by decide +kernel
theorem zd_Ru_touch_53 : decode zc_Ru_touch 53 = .ok (.iconst (-1), 1) := by decide +kernel
theorem zd_Ru_touch_54 : decode zc_Ru_touch 54 = .ok (.if_icmp .eq 14, 3) := by decide +kernel
theorem zd_Ru_touch_57 : decode zc_Ru_touch 57 = .ok (.aload_n 0, 1) := by decide +kernel
theorem zd_Ru_touch_58 : decode zc_Ru_touch 58 = .ok (.getfield 9, 3) := by decide +kernel
theorem zd_Ru_touch_61 : decode zc_Ru_touch 61 = .ok (.iload 4, 2) := by decide +kernel
theorem zd_Ru_touch_63 : decode zc_Ru_touch 63 = .ok (.iaload, 1) := by decide +kernel
theorem zd_Ru_touch_64 : decode zc_Ru_touch 64 = .ok (.iload_n 1, 1) := by decide +kernel
theorem zd_Ru_touch_65 : decode zc_Ru_touch 65 = .ok (.if_icmp .ne 5, 3) := by decide +kernel
theorem zd_Ru_touch_68 : decode zc_Ru_touch 68 = .ok (.iconst 1, 1) := by decide +kernel
theorem zd_Ru_touch_69 : decode zc_Ru_touch 69 = .ok (.ireturn, 1) := by decide +kernel
theorem zd_Ru_touch_70 : decode zc_Ru_touch 70 = .ok (.iinc 4 1, 3) := by decide +kernel
theorem zd_Ru_touch_73 : decode zc_Ru_touch 73 = .ok (.goto (-70), 3) := by decide +kernel
theorem zd_Ru_touch_76 : decode zc_Ru_touch 76 = .ok (.iconst 0, 1) := by decide +kernel
theorem zd_Ru_touch_77 : decode zc_Ru_touch 77 = .ok (.ireturn, 1) := by decide +kernel
theorem zd_Su_init_0 : decode zc_Su_init 0 = .ok (.aload_n 0, 1) := by decide +kernel
theorem zd_Su_init_1 : decode zc_Su_init 1 = .ok (.invokespecial 1, 3) := by decide +kernel
theorem zd_Su_init_4 : decode zc_Su_init 4 = .ok (.aload_n 0, 1) := by decide +kernel
theorem zd_Su_init_5 : decode zc_Su_init 5 = .ok (.lconst 1, 1) := by decide +kernel
theorem zd_Su_init_6 : decode zc_Su_init 6 = .ok (.putfield 7, 3) := by decide +kernel
theorem zd_Su_init_9 : decode zc_Su_init 9 = .ok (.return_, 1) := by decide +kernel
theorem zd_Su_clear_0 : decode zc_Su_clear 0 = .ok (.aload_n 0, 1) := by decide +kernel
theorem zd_Su_clear_1 : decode zc_Su_clear 1 = .ok (.lconst 0, 1) := by decide +kernel
theorem zd_Su_clear_2 : decode zc_Su_clear 2 = .ok (.putfield 13, 3) := by decide +kernel
theorem zd_Su_clear_5 : decode zc_Su_clear 5 = .ok (.aload_n 0, 1) := by decide +kernel
theorem zd_Su_clear_6 : decode zc_Su_clear 6 = .ok (.lconst 1, 1) := by decide +kernel
theorem zd_Su_clear_7 : decode zc_Su_clear 7 = .ok (.putfield 7, 3) := by decide +kernel
theorem zd_Su_clear_10 : decode zc_Su_clear 10 = .ok (.return_, 1) := by decide +kernel
theorem zd_Su_add_0 : decode zc_Su_add 0 = .ok (.aload_n 0, 1) := by decide +kernel
theorem zd_Su_add_1 : decode zc_Su_add 1 = .ok (.getfield 13, 3) := by decide +kernel
theorem zd_Su_add_4 : decode zc_Su_add 4 = .ok (.iload_n 2, 1) := by decide +kernel
theorem zd_Su_add_5 : decode zc_Su_add 5 = .ok (.i2l, 1) := by decide +kernel
theorem zd_Su_add_6 : decode zc_Su_add 6 = .ok (.lmul, 1) := by decide +kernel
theorem zd_Su_add_7 : decode zc_Su_add 7 = .ok (.iload_n 1, 1) := by decide +kernel
theorem zd_Su_add_8 : decode zc_Su_add 8 = .ok (.i2l, 1) := by decide +kernel
theorem zd_Su_add_9 : decode zc_Su_add 9 = .ok (.aload_n 0, 1) := by decide +kernel
theorem zd_Su_add_10 : decode zc_Su_add 10 = .ok (.getfield 7, 3) := by decide +kernel
theorem zd_Su_add_13 : decode zc_Su_add 13 = .ok (.lmul, 1) := by decide +kernel
theorem zd_Su_add_14 : decode zc_Su_add 14 = .ok (.ladd, 1) := by decide +kernel
theorem zd_Su_add_15 : decode zc_Su_add 15 = .ok (.lstore_n 3, 1) := by decide +kernel
theorem zd_Su_add_16 : decode zc_Su_add 16 = .ok (.aload_n 0, 1) := by decide +kernel
theorem zd_Su_add_17 : decode zc_Su_add 17 = .ok (.getfield 7, 3) := by decide +kernel
theorem zd_Su_add_20 : decode zc_Su_add 20 = .ok (.iload_n 2, 1) := by decide +kernel
theorem zd_Su_add_21 : decode zc_Su_add 21 = .ok (.i2l, 1) := by decide +kernel
theorem zd_Su_add_22 : decode zc_Su_add 22 = .ok (.lmul, 1) := by decide +kernel
theorem zd_Su_add_23 : decode zc_Su_add 23 = .ok (.lstore 5, 2) := by decide +kernel
theorem zd_Su_add_25 : decode zc_Su_add 25 = .ok (.lload_n 3, 1) := by decide +kernel
theorem zd_Su_add_26 : decode zc_Su_add 26 = .ok (.lload 5, 2) := by decide +kernel
theorem zd_Su_add_28 : decode zc_Su_add 28 = .ok (.invokestatic 16, 3) := by decide +kernel
theorem zd_Su_add_31 : decode zc_Su_add 31 = .ok (.lstore 7, 2) := by decide +kernel
theorem zd_Su_add_33 : decode zc_Su_add 33 = .ok (.aload_n 0, 1) := by decide +kernel
theorem zd_Su_add_34 : decode zc_Su_add 34 = .ok (.lload_n 3, 1) := by decide +kernel
theorem zd_Su_add_35 : decode zc_Su_add 35 = .ok (.lload 7, 2) := by decide +kernel
theorem zd_Su_add_37 : decode zc_Su_add 37 = .ok (.ldiv, 1) := by decide +kernel
theorem zd_Su_add_38 : decode zc_Su_add 38 = .ok (.putfield 13, 3) := by decide +kernel
theorem zd_Su_add_41 : decode zc_Su_add 41 = .ok (.aload_n 0, 1) := by decide +kernel
theorem zd_Su_add_42 : decode zc_Su_add 42 = .ok (.lload 5, 2) := by decide +kernel
theorem zd_Su_add_44 : decode zc_Su_add 44 = .ok (.lload 7, 2) := by decide +kernel
theorem zd_Su_add_46 : decode zc_Su_add 46 = .ok (.ldiv, 1) := by decide +kernel
theorem zd_Su_add_47 : decode zc_Su_add 47 = .ok (.putfield 7, 3) := by decide +kernel
theorem zd_Su_add_50 : decode zc_Su_add 50 = .ok (.return_, 1) := by decide +kernel
theorem zd_Su_commonDivisor_0 : decode zc_Su_commonDivisor 0 = .ok (.lload_n 0, 1) := by decide +kernel
theorem zd_Su_commonDivisor_1 : decode zc_Su_commonDivisor 1 = .ok (.lstore 4, 2) := by decide +kernel
theorem zd_Su_commonDivisor_3 : decode zc_Su_commonDivisor 3 = .ok (.lload_n 2, 1) := by decide +kernel
theorem zd_Su_commonDivisor_4 : decode zc_Su_commonDivisor 4 = .ok (.lstore 6, 2) := by decide +kernel
theorem zd_Su_commonDivisor_6 : decode zc_Su_commonDivisor 6 = .ok (.iconst 0, 1) := by decide +kernel
theorem zd_Su_commonDivisor_7 : decode zc_Su_commonDivisor 7 = .ok (.istore 8, 2) := by decide +kernel
theorem zd_Su_commonDivisor_9 : decode zc_Su_commonDivisor 9 = .ok (.iload 8, 2) := by decide +kernel
theorem zd_Su_commonDivisor_11 : decode zc_Su_commonDivisor 11 = .ok (.bipush 100, 2) := by decide +kernel
theorem zd_Su_commonDivisor_13 : decode zc_Su_commonDivisor 13 = .ok (.if_icmp .ge 31, 3) := by decide +kernel
theorem zd_Su_commonDivisor_16 : decode zc_Su_commonDivisor 16 = .ok (.lload 6, 2) := by decide +kernel
theorem zd_Su_commonDivisor_18 : decode zc_Su_commonDivisor 18 = .ok (.lconst 0, 1) := by decide +kernel
theorem zd_Su_commonDivisor_19 : decode zc_Su_commonDivisor 19 = .ok (.lcmp, 1) := by decide +kernel
theorem zd_Su_commonDivisor_20 : decode zc_Su_commonDivisor 20 = .ok (.ifCond .eq 24, 3) := by decide +kernel
theorem zd_Su_commonDivisor_23 : decode zc_Su_commonDivisor 23 = .ok (.lload 4, 2) := by decide +kernel
theorem zd_Su_commonDivisor_25 : decode zc_Su_commonDivisor 25 = .ok (.lload 6, 2) := by decide +kernel
theorem zd_Su_commonDivisor_27 : decode zc_Su_commonDivisor 27 = .ok (.lrem, 1) := by decide +kernel
theorem zd_Su_commonDivisor_28 : decode zc_Su_commonDivisor 28 = .ok (.lstore 9, 2) := by decide +kernel
theorem zd_Su_commonDivisor_30 : decode zc_Su_commonDivisor 30 = .ok (.lload 6, 2) := by decide +kernel
theorem zd_Su_commonDivisor_32 : decode zc_Su_commonDivisor 32 = .ok (.lstore 4, 2) := by decide +kernel
theorem zd_Su_commonDivisor_34 : decode zc_Su_commonDivisor 34 = .ok (.lload 9, 2) := by decide +kernel
theorem zd_Su_commonDivisor_36 : decode zc_Su_commonDivisor 36 = .ok (.lstore 6, 2) := by decide +kernel
theorem zd_Su_commonDivisor_38 : decode zc_Su_commonDivisor 38 = .ok (.iinc 8 1, 3) := by decide +kernel
theorem zd_Su_commonDivisor_41 : decode zc_Su_commonDivisor 41 = .ok (.goto (-32), 3) := by decide +kernel
theorem zd_Su_commonDivisor_44 : decode zc_Su_commonDivisor 44 = .ok (.lconst 1, 1) := by decide +kernel
theorem zd_Su_commonDivisor_45 : decode zc_Su_commonDivisor 45 = .ok (.lload 4, 2) := by decide +kernel
theorem zd_Su_commonDivisor_47 : decode zc_Su_commonDivisor 47 = .ok (.invokestatic 20, 3) := by decide +kernel
theorem zd_Su_commonDivisor_50 : decode zc_Su_commonDivisor 50 = .ok (.lreturn, 1) := by decide +kernel
theorem zd_Va_init_0 : decode zc_Va_init 0 = .ok (.aload_n 0, 1) := by decide +kernel
theorem zd_Va_init_1 : decode zc_Va_init 1 = .ok (.invokespecial 3, 3) := by decide +kernel
theorem zd_Va_init_4 : decode zc_Va_init 4 = .ok (.aload_n 0, 1) := by decide +kernel
theorem zd_Va_init_5 : decode zc_Va_init 5 = .ok (.bipush 60, 2) := by decide +kernel
theorem zd_Va_init_7 : decode zc_Va_init 7 = .ok (.newarray .int, 2) := by decide +kernel
theorem zd_Va_init_9 : decode zc_Va_init 9 = .ok (.putfield 9, 3) := by decide +kernel
theorem zd_Va_init_12 : decode zc_Va_init 12 = .ok (.aload_n 0, 1) := by decide +kernel
theorem zd_Va_init_13 : decode zc_Va_init 13 = .ok (.bipush 60, 2) := by decide +kernel
theorem zd_Va_init_15 : decode zc_Va_init 15 = .ok (.newarray .int, 2) := by decide +kernel
theorem zd_Va_init_17 : decode zc_Va_init 17 = .ok (.putfield 15, 3) := by decide +kernel
theorem zd_Va_init_20 : decode zc_Va_init 20 = .ok (.aload_n 0, 1) := by decide +kernel
theorem zd_Va_init_21 : decode zc_Va_init 21 = .ok (.bipush 60, 2) := by decide +kernel
theorem zd_Va_init_23 : decode zc_Va_init 23 = .ok (.newarray .int, 2) := by decide +kernel
theorem zd_Va_init_25 : decode zc_Va_init 25 = .ok (.putfield 18, 3) := by decide +kernel
theorem zd_Va_init_28 : decode zc_Va_init 28 = .ok (.aload_n 0, 1) := by decide +kernel
theorem zd_Va_init_29 : decode zc_Va_init 29 = .ok (.bipush 60, 2) := by decide +kernel
theorem zd_Va_init_31 : decode zc_Va_init 31 = .ok (.newarray .int, 2) := by decide +kernel
theorem zd_Va_init_33 : decode zc_Va_init 33 = .ok (.putfield 21, 3) := by decide +kernel
theorem zd_Va_init_36 : decode zc_Va_init 36 = .ok (.return_, 1) := by decide +kernel
theorem zd_Va_add_0 : decode zc_Va_add 0 = .ok (.aload_n 0, 1) := by decide +kernel
theorem zd_Va_add_1 : decode zc_Va_add 1 = .ok (.getfield 9, 3) := by decide +kernel
theorem zd_Va_add_4 : decode zc_Va_add 4 = .ok (.aload_n 0, 1) := by decide +kernel
theorem zd_Va_add_5 : decode zc_Va_add 5 = .ok (.getfield 24, 3) := by decide +kernel
theorem zd_Va_add_8 : decode zc_Va_add 8 = .ok (.iload_n 1, 1) := by decide +kernel
theorem zd_Va_add_9 : decode zc_Va_add 9 = .ok (.iastore, 1) := by decide +kernel
theorem zd_Va_add_10 : decode zc_Va_add 10 = .ok (.aload_n 0, 1) := by decide +kernel
theorem zd_Va_add_11 : decode zc_Va_add 11 = .ok (.getfield 15, 3) := by decide +kernel
theorem zd_Va_add_14 : decode zc_Va_add 14 = .ok (.aload_n 0, 1) := by decide +kernel
theorem zd_Va_add_15 : decode zc_Va_add 15 = .ok (.getfield 24, 3) := by decide +kernel
theorem zd_Va_add_18 : decode zc_Va_add 18 = .ok (.iload_n 2, 1) := by decide +kernel
theorem zd_Va_add_19 : decode zc_Va_add 19 = .ok (.iastore, 1) := by decide +kernel
theorem zd_Va_add_20 : decode zc_Va_add 20 = .ok (.aload_n 0, 1) := by decide +kernel
theorem zd_Va_add_21 : decode zc_Va_add 21 = .ok (.getfield 18, 3) := by decide +kernel
theorem zd_Va_add_24 : decode zc_Va_add 24 = .ok (.aload_n 0, 1) := by decide +kernel
theorem zd_Va_add_25 : decode zc_Va_add 25 = .ok (.getfield 24, 3) := by decide +kernel
theorem zd_Va_add_28 : decode zc_Va_add 28 = .ok (.iload_n 3, 1) := by decide +kernel
theorem zd_Va_add_29 : decode zc_Va_add 29 = .ok (.iastore, 1) := by decide +kernel
theorem zd_Va_add_30 : decode zc_Va_add 30 = .ok (.aload_n 0, 1) := by decide +kernel
theorem zd_Va_add_31 : decode zc_Va_add 31 = .ok (.getfield 21, 3) := by decide +kernel
theorem zd_Va_add_34 : decode zc_Va_add 34 = .ok (.aload_n 0, 1) := by decide +kernel
theorem zd_Va_add_35 : decode zc_Va_add 35 = .ok (.getfield 24, 3) := by decide +kernel
theorem zd_Va_add_38 : decode zc_Va_add 38 = .ok (.iload 4, 2) := by decide +kernel
theorem zd_Va_add_40 : decode zc_Va_add 40 = .ok (.iastore, 1) := by decide +kernel
theorem zd_Va_add_41 : decode zc_Va_add 41 = .ok (.aload_n 0, 1) := by decide +kernel
theorem zd_Va_add_42 : decode zc_Va_add 42 = .ok (.dup, 1) := by decide +kernel
theorem zd_Va_add_43 : decode zc_Va_add 43 = .ok (.getfield 24, 3) := by decide +kernel
theorem zd_Va_add_46 : decode zc_Va_add 46 = .ok (.iconst 1, 1) := by decide +kernel
theorem zd_Va_add_47 : decode zc_Va_add 47 = .ok (.iadd, 1) := by decide +kernel
theorem zd_Va_add_48 : decode zc_Va_add 48 = .ok (.putfield 24, 3) := by decide +kernel
theorem zd_Va_add_51 : decode zc_Va_add 51 = .ok (.aload_n 0, 1) := by decide +kernel
theorem zd_Va_add_52 : decode zc_Va_add 52 = .ok (.getfield 24, 3) := by decide +kernel
theorem zd_Va_add_55 : decode zc_Va_add 55 = .ok (.ireturn, 1) := by decide +kernel
theorem zd_Va_latest_0 : decode zc_Va_latest 0 = .ok (.iconst (-1), 1) := by decide +kernel
theorem zd_Va_latest_1 : decode zc_Va_latest 1 = .ok (.istore 4, 2) := by decide +kernel
theorem zd_Va_latest_3 : decode zc_Va_latest 3 = .ok (.iconst (-1), 1) := by decide +kernel
theorem zd_Va_latest_4 : decode zc_Va_latest 4 = .ok (.istore 5, 2) := by decide +kernel
theorem zd_Va_latest_6 : decode zc_Va_latest 6 = .ok (.iconst 0, 1) := by decide +kernel
theorem zd_Va_latest_7 : decode zc_Va_latest 7 = .ok (.istore 6, 2) := by decide +kernel
theorem zd_Va_latest_9 : decode zc_Va_latest 9 = .ok (.iload 6, 2) := by decide +kernel
theorem zd_Va_latest_11 : decode zc_Va_latest 11 = .ok (.aload_n 0, 1) := by decide +kernel
theorem zd_Va_latest_12 : decode zc_Va_latest 12 = .ok (.getfield 24, 3) := by decide +kernel
theorem zd_Va_latest_15 : decode zc_Va_latest 15 = .ok (.if_icmp .ge 84, 3) := by decide +kernel
theorem zd_Va_latest_18 : decode zc_Va_latest 18 = .ok (.aload_n 0, 1) := by decide +kernel
theorem zd_Va_latest_19 : decode zc_Va_latest 19 = .ok (.getfield 9, 3) := by decide +kernel
theorem zd_Va_latest_22 : decode zc_Va_latest 22 = .ok (.iload 6, 2) := by decide +kernel
theorem zd_Va_latest_24 : decode zc_Va_latest 24 = .ok (.iaload, 1) := by decide +kernel
theorem zd_Va_latest_25 : decode zc_Va_latest 25 = .ok (.iload_n 1, 1) := by decide +kernel
theorem zd_Va_latest_26 : decode zc_Va_latest 26 = .ok (.if_icmp .ne 18, 3) := by decide +kernel
theorem zd_Va_latest_29 : decode zc_Va_latest 29 = .ok (.aload_n 0, 1) := by decide +kernel
theorem zd_Va_latest_30 : decode zc_Va_latest 30 = .ok (.getfield 18, 3) := by decide +kernel
theorem zd_Va_latest_33 : decode zc_Va_latest 33 = .ok (.iload 6, 2) := by decide +kernel
theorem zd_Va_latest_35 : decode zc_Va_latest 35 = .ok (.iaload, 1) := by decide +kernel
theorem zd_Va_latest_36 : decode zc_Va_latest 36 = .ok (.iload_n 3, 1) := by decide +kernel
theorem zd_Va_latest_37 : decode zc_Va_latest 37 = .ok (.if_icmp .ne 7, 3) := by decide +kernel
theorem zd_Va_latest_40 : decode zc_Va_latest 40 = .ok (.iconst 1, 1) := by decide +kernel
theorem zd_Va_latest_41 : decode zc_Va_latest 41 = .ok (.goto 4, 3) := by decide +kernel
theorem zd_Va_latest_44 : decode zc_Va_latest 44 = .ok (.iconst 0, 1) := by decide +kernel
theorem zd_Va_latest_45 : decode zc_Va_latest 45 = .ok (.istore 7, 2) := by decide +kernel
theorem zd_Va_latest_47 : decode zc_Va_latest 47 = .ok (.iload 7, 2) := by decide +kernel
theorem zd_Va_latest_49 : decode zc_Va_latest 49 = .ok (.ifCond .eq 44, 3) := by decide +kernel
theorem zd_Va_latest_52 : decode zc_Va_latest 52 = .ok (.aload_n 0, 1) := by decide +kernel
theorem zd_Va_latest_53 : decode zc_Va_latest 53 = .ok (.getfield 15, 3) := by decide +kernel
theorem zd_Va_latest_56 : decode zc_Va_latest 56 = .ok (.iload 6, 2) := by decide +kernel
theorem zd_Va_latest_58 : decode zc_Va_latest 58 = .ok (.iaload, 1) := by decide +kernel
theorem zd_Va_latest_59 : decode zc_Va_latest 59 = .ok (.iload_n 2, 1) := by decide +kernel
theorem zd_Va_latest_60 : decode zc_Va_latest 60 = .ok (.if_icmp .gt 33, 3) := by decide +kernel
theorem zd_Va_latest_63 : decode zc_Va_latest 63 = .ok (.aload_n 0, 1) := by decide +kernel
theorem zd_Va_latest_64 : decode zc_Va_latest 64 = .ok (.getfield 15, 3) := by decide +kernel
theorem zd_Va_latest_67 : decode zc_Va_latest 67 = .ok (.iload 6, 2) := by decide +kernel
theorem zd_Va_latest_69 : decode zc_Va_latest 69 = .ok (.iaload, 1) := by decide +kernel
theorem zd_Va_latest_70 : decode zc_Va_latest 70 = .ok (.iload 5, 2) := by decide +kernel
theorem zd_Va_latest_72 : decode zc_Va_latest 72 = .ok (.if_icmp .lt 21, 3) := by decide +kernel
theorem zd_Va_latest_75 : decode zc_Va_latest 75 = .ok (.aload_n 0, 1) := by decide +kernel
theorem zd_Va_latest_76 : decode zc_Va_latest 76 = .ok (.getfield 21, 3) := by decide +kernel
theorem zd_Va_latest_79 : decode zc_Va_latest 79 = .ok (.iload 6, 2) := by decide +kernel
theorem zd_Va_latest_81 : decode zc_Va_latest 81 = .ok (.iaload, 1) := by decide +kernel
theorem zd_Va_latest_82 : decode zc_Va_latest 82 = .ok (.istore 4, 2) := by decide +kernel
theorem zd_Va_latest_84 : decode zc_Va_latest 84 = .ok (.aload_n 0, 1) := by decide +kernel
theorem zd_Va_latest_85 : decode zc_Va_latest 85 = .ok (.getfield 15, 3) := by decide +kernel
theorem zd_Va_latest_88 : decode zc_Va_latest 88 = .ok (.iload 6, 2) := by decide +kernel
theorem zd_Va_latest_90 : decode zc_Va_latest 90 = .ok (.iaload, 1) := by decide +kernel
theorem zd_Va_latest_91 : decode zc_Va_latest 91 = .ok (.istore 5, 2) := by decide +kernel
theorem zd_Va_latest_93 : decode zc_Va_latest 93 = .ok (.iinc 6 1, 3) := by decide +kernel
theorem zd_Va_latest_96 : decode zc_Va_latest 96 = .ok (.goto (-87), 3) := by decide +kernel
theorem zd_Va_latest_99 : decode zc_Va_latest 99 = .ok (.iload 4, 2) := by decide +kernel
theorem zd_Va_latest_101 : decode zc_Va_latest 101 = .ok (.ireturn, 1) := by decide +kernel
theorem zd_Vi_init_0 : decode zc_Vi_init 0 = .ok (.aload_n 0, 1) := by decide +kernel
theorem zd_Vi_init_1 : decode zc_Vi_init 1 = .ok (.invokespecial 3, 3) := by decide +kernel
theorem zd_Vi_init_4 : decode zc_Vi_init 4 = .ok (.aload_n 0, 1) := by decide +kernel
theorem zd_Vi_init_5 : decode zc_Vi_init 5 = .ok (.iconst 3, 1) := by decide +kernel
theorem zd_Vi_init_6 : decode zc_Vi_init 6 = .ok (.bipush 120, 2) := by decide +kernel
theorem zd_Vi_init_8 : decode zc_Vi_init 8 = .ok (.multianewarray 9 2, 4) := by decide +kernel
theorem zd_Vi_init_12 : decode zc_Vi_init 12 = .ok (.putfield 11, 3) := by decide +kernel
theorem zd_Vi_init_15 : decode zc_Vi_init 15 = .ok (.aload_n 0, 1) := by decide +kernel
theorem zd_Vi_init_16 : decode zc_Vi_init 16 = .ok (.iconst 3, 1) := by decide +kernel
theorem zd_Vi_init_17 : decode zc_Vi_init 17 = .ok (.bipush 120, 2) := by decide +kernel
theorem zd_Vi_init_19 : decode zc_Vi_init 19 = .ok (.multianewarray 9 2, 4) := by decide +kernel
theorem zd_Vi_init_23 : decode zc_Vi_init 23 = .ok (.putfield 16, 3) := by decide +kernel
theorem zd_Vi_init_26 : decode zc_Vi_init 26 = .ok (.aload_n 0, 1) := by decide +kernel
theorem zd_Vi_init_27 : decode zc_Vi_init 27 = .ok (.bipush 120, 2) := by decide +kernel
theorem zd_Vi_init_29 : decode zc_Vi_init 29 = .ok (.newarray .int, 2) := by decide +kernel
theorem zd_Vi_init_31 : decode zc_Vi_init 31 = .ok (.putfield 19, 3) := by decide +kernel
theorem zd_Vi_init_34 : decode zc_Vi_init 34 = .ok (.return_, 1) := by decide +kernel
theorem zd_Vi_learn_0 : decode zc_Vi_learn 0 = .ok (.iconst 0, 1) := by decide +kernel
theorem zd_Vi_learn_1 : decode zc_Vi_learn 1 = .ok (.istore 4, 2) := by decide +kernel
theorem zd_Vi_learn_3 : decode zc_Vi_learn 3 = .ok (.iload 4, 2) := by decide +kernel
theorem zd_Vi_learn_5 : decode zc_Vi_learn 5 = .ok (.iconst 3, 1) := by decide +kernel
theorem zd_Vi_learn_6 : decode zc_Vi_learn 6 = .ok (.if_icmp .ge 52, 3) := by decide +kernel
theorem zd_Vi_learn_9 : decode zc_Vi_learn 9 = .ok (.aload_n 1, 1) := by decide +kernel
theorem zd_Vi_learn_10 : decode zc_Vi_learn 10 = .ok (.getfield 23, 3) := by decide +kernel
theorem zd_Vi_learn_13 : decode zc_Vi_learn 13 = .ok (.iload 4, 2) := by decide +kernel
theorem zd_Vi_learn_15 : decode zc_Vi_learn 15 = .ok (.aaload, 1) := by decide +kernel
theorem zd_Vi_learn_16 : decode zc_Vi_learn 16 = .ok (.iconst 0, 1) := by decide +kernel
theorem zd_Vi_learn_17 : decode zc_Vi_learn 17 = .ok (.aload_n 0, 1) := by decide +kernel
theorem zd_Vi_learn_18 : decode zc_Vi_learn 18 = .ok (.getfield 11, 3) := by decide +kernel
theorem zd_Vi_learn_21 : decode zc_Vi_learn 21 = .ok (.iload 4, 2) := by decide +kernel
theorem zd_Vi_learn_23 : decode zc_Vi_learn 23 = .ok (.aaload, 1) := by decide +kernel
theorem zd_Vi_learn_24 : decode zc_Vi_learn 24 = .ok (.iconst 0, 1) := by decide +kernel
theorem zd_Vi_learn_25 : decode zc_Vi_learn 25 = .ok (.aload_n 1, 1) := by decide +kernel
theorem zd_Vi_learn_26 : decode zc_Vi_learn 26 = .ok (.getfield 28, 3) := by decide +kernel
theorem zd_Vi_learn_29 : decode zc_Vi_learn 29 = .ok (.invokestatic 32, 3) := by decide +kernel
theorem zd_Vi_learn_32 : decode zc_Vi_learn 32 = .ok (.aload_n 1, 1) := by decide +kernel
theorem zd_Vi_learn_33 : decode zc_Vi_learn 33 = .ok (.getfield 38, 3) := by decide +kernel
theorem zd_Vi_learn_36 : decode zc_Vi_learn 36 = .ok (.iconst 0, 1) := by decide +kernel
theorem zd_Vi_learn_37 : decode zc_Vi_learn 37 = .ok (.aload_n 0, 1) := by decide +kernel
theorem zd_Vi_learn_38 : decode zc_Vi_learn 38 = .ok (.getfield 16, 3) := by decide +kernel
theorem zd_Vi_learn_41 : decode zc_Vi_learn 41 = .ok (.iload 4, 2) := by decide +kernel
theorem zd_Vi_learn_43 : decode zc_Vi_learn 43 = .ok (.aaload, 1) := by decide +kernel
theorem zd_Vi_learn_44 : decode zc_Vi_learn 44 = .ok (.iconst 0, 1) := by decide +kernel
theorem zd_Vi_learn_45 : decode zc_Vi_learn 45 = .ok (.aload_n 1, 1) := by decide +kernel
theorem zd_Vi_learn_46 : decode zc_Vi_learn 46 = .ok (.getfield 28, 3) := by decide +kernel
theorem zd_Vi_learn_49 : decode zc_Vi_learn 49 = .ok (.invokestatic 32, 3) := by decide +kernel
theorem zd_Vi_learn_52 : decode zc_Vi_learn 52 = .ok (.iinc 4 1, 3) := by decide +kernel
theorem zd_Vi_learn_55 : decode zc_Vi_learn 55 = .ok (.goto (-52), 3) := by decide +kernel
theorem zd_Vi_learn_58 : decode zc_Vi_learn 58 = .ok (.iconst 0, 1) := by decide +kernel
theorem zd_Vi_learn_59 : decode zc_Vi_learn 59 = .ok (.istore 4, 2) := by decide +kernel
theorem zd_Vi_learn_61 : decode zc_Vi_learn 61 = .ok (.iload 4, 2) := by decide +kernel
theorem zd_Vi_learn_63 : decode zc_Vi_learn 63 = .ok (.aload_n 2, 1) := by decide +kernel
theorem zd_Vi_learn_64 : decode zc_Vi_learn 64 = .ok (.getfield 41, 3) := by decide +kernel
theorem zd_Vi_learn_67 : decode zc_Vi_learn 67 = .ok (.if_icmp .ge 86, 3) := by decide +kernel
theorem zd_Vi_learn_70 : decode zc_Vi_learn 70 = .ok (.aload_n 2, 1) := by decide +kernel
theorem zd_Vi_learn_71 : decode zc_Vi_learn 71 = .ok (.getfield 44, 3) := by decide +kernel
theorem zd_Vi_learn_74 : decode zc_Vi_learn 74 = .ok (.iload 4, 2) := by decide +kernel
theorem zd_Vi_learn_76 : decode zc_Vi_learn 76 = .ok (.iaload, 1) := by decide +kernel
theorem zd_Vi_learn_77 : decode zc_Vi_learn 77 = .ok (.istore 5, 2) := by decide +kernel
theorem zd_Vi_learn_79 : decode zc_Vi_learn 79 = .ok (.aload_n 2, 1) := by decide +kernel
theorem zd_Vi_learn_80 : decode zc_Vi_learn 80 = .ok (.getfield 47, 3) := by decide +kernel
theorem zd_Vi_learn_83 : decode zc_Vi_learn 83 = .ok (.iload 4, 2) := by decide +kernel
theorem zd_Vi_learn_85 : decode zc_Vi_learn 85 = .ok (.iaload, 1) := by decide +kernel
theorem zd_Vi_learn_86 : decode zc_Vi_learn 86 = .ok (.istore 6, 2) := by decide +kernel
theorem zd_Vi_learn_88 : decode zc_Vi_learn 88 = .ok (.aload_n 2, 1) := by decide +kernel
theorem zd_Vi_learn_89 : decode zc_Vi_learn 89 = .ok (.getfield 50, 3) := by decide +kernel
theorem zd_Vi_learn_92 : decode zc_Vi_learn 92 = .ok (.iload 4, 2) := by decide +kernel
theorem zd_Vi_learn_94 : decode zc_Vi_learn 94 = .ok (.iaload, 1) := by decide +kernel
theorem zd_Vi_learn_95 : decode zc_Vi_learn 95 = .ok (.istore 7, 2) := by decide +kernel
theorem zd_Vi_learn_97 : decode zc_Vi_learn 97 = .ok (.iload 7, 2) := by decide +kernel
theorem zd_Vi_learn_99 : decode zc_Vi_learn 99 = .ok (.iload_n 3, 1) := by decide +kernel
theorem zd_Vi_learn_100 : decode zc_Vi_learn 100 = .ok (.if_icmp .gt 47, 3) := by decide +kernel
theorem zd_Vi_learn_103 : decode zc_Vi_learn 103 = .ok (.iload 7, 2) := by decide +kernel
theorem zd_Vi_learn_105 : decode zc_Vi_learn 105 = .ok (.aload_n 0, 1) := by decide +kernel
theorem zd_Vi_learn_106 : decode zc_Vi_learn 106 = .ok (.getfield 16, 3) := by decide +kernel
theorem zd_Vi_learn_109 : decode zc_Vi_learn 109 = .ok (.iload 6, 2) := by decide +kernel
theorem zd_Vi_learn_111 : decode zc_Vi_learn 111 = .ok (.aaload, 1) := by decide +kernel
theorem zd_Vi_learn_112 : decode zc_Vi_learn 112 = .ok (.iload 5, 2) := by decide +kernel
theorem zd_Vi_learn_114 : decode zc_Vi_learn 114 = .ok (.iaload, 1) := by decide +kernel
theorem zd_Vi_learn_115 : decode zc_Vi_learn 115 = .ok (.if_icmp .lt 32, 3) := by decide +kernel
theorem zd_Vi_learn_118 : decode zc_Vi_learn 118 = .ok (.aload_n 0, 1) := by decide +kernel
theorem zd_Vi_learn_119 : decode zc_Vi_learn 119 = .ok (.getfield 11, 3) := by decide +kernel
theorem zd_Vi_learn_122 : decode zc_Vi_learn 122 = .ok (.iload 6, 2) := by decide +kernel
theorem zd_Vi_learn_124 : decode zc_Vi_learn 124 = .ok (.aaload, 1) := by decide +kernel
theorem zd_Vi_learn_125 : decode zc_Vi_learn 125 = .ok (.iload 5, 2) := by decide +kernel
theorem zd_Vi_learn_127 : decode zc_Vi_learn 127 = .ok (.aload_n 2, 1) := by decide +kernel
theorem zd_Vi_learn_128 : decode zc_Vi_learn 128 = .ok (.getfield 51, 3) := by decide +kernel
theorem zd_Vi_learn_131 : decode zc_Vi_learn 131 = .ok (.iload 4, 2) := by decide +kernel
theorem zd_Vi_learn_133 : decode zc_Vi_learn 133 = .ok (.iaload, 1) := by decide +kernel
theorem zd_Vi_learn_134 : decode zc_Vi_learn 134 = .ok (.iastore, 1) := by decide +kernel
theorem zd_Vi_learn_135 : decode zc_Vi_learn 135 = .ok (.aload_n 0, 1) := by decide +kernel
theorem zd_Vi_learn_136 : decode zc_Vi_learn 136 = .ok (.getfield 16, 3) := by decide +kernel
theorem zd_Vi_learn_139 : decode zc_Vi_learn 139 = .ok (.iload 6, 2) := by decide +kernel
theorem zd_Vi_learn_141 : decode zc_Vi_learn 141 = .ok (.aaload, 1) := by decide +kernel
theorem zd_Vi_learn_142 : decode zc_Vi_learn 142 = .ok (.iload 5, 2) := by decide +kernel
theorem zd_Vi_learn_144 : decode zc_Vi_learn 144 = .ok (.iload 7, 2) := by decide +kernel
theorem zd_Vi_learn_146 : decode zc_Vi_learn 146 = .ok (.iastore, 1) := by decide +kernel
theorem zd_Vi_learn_147 : decode zc_Vi_learn 147 = .ok (.iinc 4 1, 3) := by decide +kernel
theorem zd_Vi_learn_150 : decode zc_Vi_learn 150 = .ok (.goto (-89), 3) := by decide +kernel
theorem zd_Vi_learn_153 : decode zc_Vi_learn 153 = .ok (.return_, 1) := by decide +kernel
theorem zd_Vi_list_0 : decode zc_Vi_list 0 = .ok (.aload_n 0, 1) := by decide +kernel
theorem zd_Vi_list_1 : decode zc_Vi_list 1 = .ok (.iconst 0, 1) := by decide +kernel
theorem zd_Vi_list_2 : decode zc_Vi_list 2 = .ok (.putfield 54, 3) := by decide +kernel
theorem zd_Vi_list_5 : decode zc_Vi_list 5 = .ok (.iconst 0, 1) := by decide +kernel
theorem zd_Vi_list_6 : decode zc_Vi_list 6 = .ok (.istore 4, 2) := by decide +kernel
theorem zd_Vi_list_8 : decode zc_Vi_list 8 = .ok (.iload 4, 2) := by decide +kernel
theorem zd_Vi_list_10 : decode zc_Vi_list 10 = .ok (.aload_n 1, 1) := by decide +kernel
theorem zd_Vi_list_11 : decode zc_Vi_list 11 = .ok (.getfield 28, 3) := by decide +kernel
theorem zd_Vi_list_14 : decode zc_Vi_list 14 = .ok (.if_icmp .ge 85, 3) := by decide +kernel
theorem zd_Vi_list_17 : decode zc_Vi_list 17 = .ok (.aload_n 0, 1) := by decide +kernel
theorem zd_Vi_list_18 : decode zc_Vi_list 18 = .ok (.getfield 11, 3) := by decide +kernel
theorem zd_Vi_list_21 : decode zc_Vi_list 21 = .ok (.iconst 1, 1) := by decide +kernel
theorem zd_Vi_list_22 : decode zc_Vi_list 22 = .ok (.aaload, 1) := by decide +kernel
theorem zd_Vi_list_23 : decode zc_Vi_list 23 = .ok (.iload 4, 2) := by decide +kernel
theorem zd_Vi_list_25 : decode zc_Vi_list 25 = .ok (.iaload, 1) := by decide +kernel
theorem zd_Vi_list_26 : decode zc_Vi_list 26 = .ok (.aload_n 0, 1) := by decide +kernel
theorem zd_Vi_list_27 : decode zc_Vi_list 27 = .ok (.getfield 11, 3) := by decide +kernel
theorem zd_Vi_list_30 : decode zc_Vi_list 30 = .ok (.iconst 2, 1) := by decide +kernel
theorem zd_Vi_list_31 : decode zc_Vi_list 31 = .ok (.aaload, 1) := by decide +kernel
theorem zd_Vi_list_32 : decode zc_Vi_list 32 = .ok (.iload 4, 2) := by decide +kernel
theorem zd_Vi_list_34 : decode zc_Vi_list 34 = .ok (.iaload, 1) := by decide +kernel
theorem zd_Vi_list_35 : decode zc_Vi_list 35 = .ok (.if_icmp .le 7, 3) := by decide +kernel
theorem zd_Vi_list_38 : decode zc_Vi_list 38 = .ok (.iconst 1, 1) := by decide +kernel
theorem zd_Vi_list_39 : decode zc_Vi_list 39 = .ok (.goto 4, 3) := by decide +kernel
theorem zd_Vi_list_42 : decode zc_Vi_list 42 = .ok (.iconst 0, 1) := by decide +kernel
theorem zd_Vi_list_43 : decode zc_Vi_list 43 = .ok (.istore 5, 2) := by decide +kernel
theorem zd_Vi_list_45 : decode zc_Vi_list 45 = .ok (.aload_n 1, 1) := by decide +kernel
theorem zd_Vi_list_46 : decode zc_Vi_list 46 = .ok (.getfield 57, 3) := by decide +kernel
theorem zd_Vi_list_49 : decode zc_Vi_list 49 = .ok (.iload 4, 2) := by decide +kernel
theorem zd_Vi_list_51 : decode zc_Vi_list 51 = .ok (.iaload, 1) := by decide +kernel
theorem zd_Vi_list_52 : decode zc_Vi_list 52 = .ok (.iload_n 2, 1) := by decide +kernel
theorem zd_Vi_list_53 : decode zc_Vi_list 53 = .ok (.if_icmp .ne 40, 3) := by decide +kernel
theorem zd_Vi_list_56 : decode zc_Vi_list 56 = .ok (.aload_n 1, 1) := by decide +kernel
theorem zd_Vi_list_57 : decode zc_Vi_list 57 = .ok (.getfield 38, 3) := by decide +kernel
theorem zd_Vi_list_60 : decode zc_Vi_list 60 = .ok (.iload 4, 2) := by decide +kernel
theorem zd_Vi_list_62 : decode zc_Vi_list 62 = .ok (.iaload, 1) := by decide +kernel
theorem zd_Vi_list_63 : decode zc_Vi_list 63 = .ok (.iload_n 3, 1) := by decide +kernel
theorem zd_Vi_list_64 : decode zc_Vi_list 64 = .ok (.if_icmp .gt 29, 3) := by decide +kernel
theorem zd_Vi_list_67 : decode zc_Vi_list 67 = .ok (.iload 5, 2) := by decide +kernel
theorem zd_Vi_list_69 : decode zc_Vi_list 69 = .ok (.ifCond .ne 24, 3) := by decide +kernel
theorem zd_Vi_list_72 : decode zc_Vi_list 72 = .ok (.aload_n 0, 1) := by decide +kernel
theorem zd_Vi_list_73 : decode zc_Vi_list 73 = .ok (.getfield 19, 3) := by decide +kernel
theorem zd_Vi_list_76 : decode zc_Vi_list 76 = .ok (.aload_n 0, 1) := by decide +kernel
theorem zd_Vi_list_77 : decode zc_Vi_list 77 = .ok (.getfield 54, 3) := by decide +kernel
theorem zd_Vi_list_80 : decode zc_Vi_list 80 = .ok (.iload 4, 2) := by decide +kernel
theorem zd_Vi_list_82 : decode zc_Vi_list 82 = .ok (.iastore, 1) := by decide +kernel
theorem zd_Vi_list_83 : decode zc_Vi_list 83 = .ok (.aload_n 0, 1) := by decide +kernel
theorem zd_Vi_list_84 : decode zc_Vi_list 84 = .ok (.dup, 1) := by decide +kernel
theorem zd_Vi_list_85 : decode zc_Vi_list 85 = .ok (.getfield 54, 3) := by decide +kernel
theorem zd_Vi_list_88 : decode zc_Vi_list 88 = .ok (.iconst 1, 1) := by decide +kernel
theorem zd_Vi_list_89 : decode zc_Vi_list 89 = .ok (.iadd, 1) := by decide +kernel
theorem zd_Vi_list_90 : decode zc_Vi_list 90 = .ok (.putfield 54, 3) := by decide +kernel
theorem zd_Vi_list_93 : decode zc_Vi_list 93 = .ok (.iinc 4 1, 3) := by decide +kernel
theorem zd_Vi_list_96 : decode zc_Vi_list 96 = .ok (.goto (-88), 3) := by decide +kernel
theorem zd_Vi_list_99 : decode zc_Vi_list 99 = .ok (.return_, 1) := by decide +kernel
theorem zd_Vi_sortByFrom_0 : decode zc_Vi_sortByFrom 0 = .ok (.aload_n 0, 1) := by decide +kernel
theorem zd_Vi_sortByFrom_1 : decode zc_Vi_sortByFrom 1 = .ok (.getfield 11, 3) := by decide +kernel
theorem zd_Vi_sortByFrom_4 : decode zc_Vi_sortByFrom 4 = .ok (.iconst 1, 1) := by decide +kernel
theorem zd_Vi_sortByFrom_5 : decode zc_Vi_sortByFrom 5 = .ok (.aaload, 1) := by decide +kernel
theorem zd_Vi_sortByFrom_6 : decode zc_Vi_sortByFrom 6 = .ok (.astore_n 1, 1) := by decide +kernel
theorem zd_Vi_sortByFrom_7 : decode zc_Vi_sortByFrom 7 = .ok (.iconst 1, 1) := by decide +kernel
theorem zd_Vi_sortByFrom_8 : decode zc_Vi_sortByFrom 8 = .ok (.istore_n 2, 1) := by decide +kernel
theorem zd_Vi_sortByFrom_9 : decode zc_Vi_sortByFrom 9 = .ok (.iload_n 2, 1) := by decide +kernel
theorem zd_Vi_sortByFrom_10 : decode zc_Vi_sortByFrom 10 = .ok (.aload_n 0, 1) := by decide +kernel
theorem zd_Vi_sortByFrom_11 : decode zc_Vi_sortByFrom 11 = .ok (.getfield 54, 3) := by decide +kernel
theorem zd_Vi_sortByFrom_14 : decode zc_Vi_sortByFrom 14 = .ok (.if_icmp .ge 71, 3) := by decide +kernel
theorem zd_Vi_sortByFrom_17 : decode zc_Vi_sortByFrom 17 = .ok (.aload_n 0, 1) := by decide +kernel
theorem zd_Vi_sortByFrom_18 : decode zc_Vi_sortByFrom 18 = .ok (.getfield 19, 3) := by decide +kernel
theorem zd_Vi_sortByFrom_21 : decode zc_Vi_sortByFrom 21 = .ok (.iload_n 2, 1) := by decide +kernel
theorem zd_Vi_sortByFrom_22 : decode zc_Vi_sortByFrom 22 = .ok (.iaload, 1) := by decide +kernel
theorem zd_Vi_sortByFrom_23 : decode zc_Vi_sortByFrom 23 = .ok (.istore_n 3, 1) := by decide +kernel
theorem zd_Vi_sortByFrom_24 : decode zc_Vi_sortByFrom 24 = .ok (.iload_n 2, 1) := by decide +kernel
theorem zd_Vi_sortByFrom_25 : decode zc_Vi_sortByFrom 25 = .ok (.istore 4, 2) := by decide +kernel
theorem zd_Vi_sortByFrom_27 : decode zc_Vi_sortByFrom 27 = .ok (.iload 4, 2) := by decide +kernel
theorem zd_Vi_sortByFrom_29 : decode zc_Vi_sortByFrom 29 = .ok (.ifCond .le 42, 3) := by decide +kernel
theorem zd_Vi_sortByFrom_32 : decode zc_Vi_sortByFrom 32 = .ok (.aload_n 1, 1) := by decide +kernel
theorem zd_Vi_sortByFrom_33 : decode zc_Vi_sortByFrom 33 = .ok (.aload_n 0, 1) := by decide +kernel
theorem zd_Vi_sortByFrom_34 : decode zc_Vi_sortByFrom 34 = .ok (.getfield 19, 3) := by decide +kernel
theorem zd_Vi_sortByFrom_37 : decode zc_Vi_sortByFrom 37 = .ok (.iload 4, 2) := by decide +kernel
theorem zd_Vi_sortByFrom_39 : decode zc_Vi_sortByFrom 39 = .ok (.iconst 1, 1) := by decide +kernel
theorem zd_Vi_sortByFrom_40 : decode zc_Vi_sortByFrom 40 = .ok (.isub, 1) := by decide +kernel
theorem zd_Vi_sortByFrom_41 : decode zc_Vi_sortByFrom 41 = .ok (.iaload, 1) := by decide +kernel
theorem zd_Vi_sortByFrom_42 : decode zc_Vi_sortByFrom 42 = .ok (.iaload, 1) := by decide +kernel
theorem zd_Vi_sortByFrom_43 : decode zc_Vi_sortByFrom 43 = .ok (.aload_n 1, 1) := by decide +kernel
theorem zd_Vi_sortByFrom_44 : decode zc_Vi_sortByFrom 44 = .ok (.iload_n 3, 1) := by decide +kernel
theorem zd_Vi_sortByFrom_45 : decode zc_Vi_sortByFrom 45 = .ok (.iaload, 1) := by decide +kernel
theorem zd_Vi_sortByFrom_46 : decode zc_Vi_sortByFrom 46 = .ok (.if_icmp .le 25, 3) := by decide +kernel
theorem zd_Vi_sortByFrom_49 : decode zc_Vi_sortByFrom 49 = .ok (.aload_n 0, 1) := by decide +kernel
theorem zd_Vi_sortByFrom_50 : decode zc_Vi_sortByFrom 50 = .ok (.getfield 19, 3) := by decide +kernel
theorem zd_Vi_sortByFrom_53 : decode zc_Vi_sortByFrom 53 = .ok (.iload 4, 2) := by decide +kernel
theorem zd_Vi_sortByFrom_55 : decode zc_Vi_sortByFrom 55 = .ok (.aload_n 0, 1) := by decide +kernel
theorem zd_Vi_sortByFrom_56 : decode zc_Vi_sortByFrom 56 = .ok (.getfield 19, 3) := by decide +kernel
theorem zd_Vi_sortByFrom_59 : decode zc_Vi_sortByFrom 59 = .ok (.iload 4, 2) := by decide +kernel
theorem zd_Vi_sortByFrom_61 : decode zc_Vi_sortByFrom 61 = .ok (.iconst 1, 1) := by decide +kernel
theorem zd_Vi_sortByFrom_62 : decode zc_Vi_sortByFrom 62 = .ok (.isub, 1) := by decide +kernel
theorem zd_Vi_sortByFrom_63 : decode zc_Vi_sortByFrom 63 = .ok (.iaload, 1) := by decide +kernel
theorem zd_Vi_sortByFrom_64 : decode zc_Vi_sortByFrom 64 = .ok (.iastore, 1) := by decide +kernel
theorem zd_Vi_sortByFrom_65 : decode zc_Vi_sortByFrom 65 = .ok (.iinc 4 (-1), 3) := by decide +kernel
theorem zd_Vi_sortByFrom_68 : decode zc_Vi_sortByFrom 68 = .ok (.goto (-41), 3) := by decide +kernel
theorem zd_Vi_sortByFrom_71 : decode zc_Vi_sortByFrom 71 = .ok (.aload_n 0, 1) := by decide +kernel
theorem zd_Vi_sortByFrom_72 : decode zc_Vi_sortByFrom 72 = .ok (.getfield 19, 3) := by decide +kernel
theorem zd_Vi_sortByFrom_75 : decode zc_Vi_sortByFrom 75 = .ok (.iload 4, 2) := by decide +kernel
theorem zd_Vi_sortByFrom_77 : decode zc_Vi_sortByFrom 77 = .ok (.iload_n 3, 1) := by decide +kernel
theorem zd_Vi_sortByFrom_78 : decode zc_Vi_sortByFrom 78 = .ok (.iastore, 1) := by decide +kernel
theorem zd_Vi_sortByFrom_79 : decode zc_Vi_sortByFrom 79 = .ok (.iinc 2 1, 3) := by decide +kernel
theorem zd_Vi_sortByFrom_82 : decode zc_Vi_sortByFrom 82 = .ok (.goto (-73), 3) := by decide +kernel
theorem zd_Vi_sortByFrom_85 : decode zc_Vi_sortByFrom 85 = .ok (.return_, 1) := by decide +kernel
theorem zd_Vi_edgeOfGap_0 : decode zc_Vi_edgeOfGap 0 = .ok (.aload_n 0, 1) := by decide +kernel
theorem zd_Vi_edgeOfGap_1 : decode zc_Vi_edgeOfGap 1 = .ok (.getfield 54, 3) := by decide +kernel
theorem zd_Vi_edgeOfGap_4 : decode zc_Vi_edgeOfGap 4 = .ok (.ifCond .ne 5, 3) := by decide +kernel
theorem zd_Vi_edgeOfGap_7 : decode zc_Vi_edgeOfGap 7 = .ok (.iconst (-1), 1) := by decide +kernel
theorem zd_Vi_edgeOfGap_8 : decode zc_Vi_edgeOfGap 8 = .ok (.ireturn, 1) := by decide +kernel
theorem zd_Vi_edgeOfGap_9 : decode zc_Vi_edgeOfGap 9 = .ok (.aload_n 0, 1) := by decide +kernel
theorem zd_Vi_edgeOfGap_10 : decode zc_Vi_edgeOfGap 10 = .ok (.getfield 11, 3) := by decide +kernel
theorem zd_Vi_edgeOfGap_13 : decode zc_Vi_edgeOfGap 13 = .ok (.iconst 2, 1) := by decide +kernel
theorem zd_Vi_edgeOfGap_14 : decode zc_Vi_edgeOfGap 14 = .ok (.aaload, 1) := by decide +kernel
theorem zd_Vi_edgeOfGap_15 : decode zc_Vi_edgeOfGap 15 = .ok (.aload_n 0, 1) := by decide +kernel
theorem zd_Vi_edgeOfGap_16 : decode zc_Vi_edgeOfGap 16 = .ok (.getfield 19, 3) := by decide +kernel
theorem zd_Vi_edgeOfGap_19 : decode zc_Vi_edgeOfGap 19 = .ok (.iconst 0, 1) := by decide +kernel
theorem zd_Vi_edgeOfGap_20 : decode zc_Vi_edgeOfGap 20 = .ok (.iaload, 1) := by decide +kernel
theorem zd_Vi_edgeOfGap_21 : decode zc_Vi_edgeOfGap 21 = .ok (.iaload, 1) := by decide +kernel
theorem zd_Vi_edgeOfGap_22 : decode zc_Vi_edgeOfGap 22 = .ok (.istore_n 3, 1) := by decide +kernel
theorem zd_Vi_edgeOfGap_23 : decode zc_Vi_edgeOfGap 23 = .ok (.iload_n 1, 1) := by decide +kernel
theorem zd_Vi_edgeOfGap_24 : decode zc_Vi_edgeOfGap 24 = .ok (.istore 4, 2) := by decide +kernel
theorem zd_Vi_edgeOfGap_26 : decode zc_Vi_edgeOfGap 26 = .ok (.iconst 1, 1) := by decide +kernel
theorem zd_Vi_edgeOfGap_27 : decode zc_Vi_edgeOfGap 27 = .ok (.istore 5, 2) := by decide +kernel
theorem zd_Vi_edgeOfGap_29 : decode zc_Vi_edgeOfGap 29 = .ok (.iload 5, 2) := by decide +kernel
theorem zd_Vi_edgeOfGap_31 : decode zc_Vi_edgeOfGap 31 = .ok (.aload_n 0, 1) := by decide +kernel
theorem zd_Vi_edgeOfGap_32 : decode zc_Vi_edgeOfGap 32 = .ok (.getfield 54, 3) := by decide +kernel
theorem zd_Vi_edgeOfGap_35 : decode zc_Vi_edgeOfGap 35 = .ok (.if_icmp .ge 75, 3) := by decide +kernel
theorem zd_Vi_edgeOfGap_38 : decode zc_Vi_edgeOfGap 38 = .ok (.aload_n 0, 1) := by decide +kernel
theorem zd_Vi_edgeOfGap_39 : decode zc_Vi_edgeOfGap 39 = .ok (.getfield 11, 3) := by decide +kernel
theorem zd_Vi_edgeOfGap_42 : decode zc_Vi_edgeOfGap 42 = .ok (.iconst 1, 1) := by decide +kernel
theorem zd_Vi_edgeOfGap_43 : decode zc_Vi_edgeOfGap 43 = .ok (.aaload, 1) := by decide +kernel
theorem zd_Vi_edgeOfGap_44 : decode zc_Vi_edgeOfGap 44 = .ok (.aload_n 0, 1) := by decide +kernel
theorem zd_Vi_edgeOfGap_45 : decode zc_Vi_edgeOfGap 45 = .ok (.getfield 19, 3) := by decide +kernel
theorem zd_Vi_edgeOfGap_48 : decode zc_Vi_edgeOfGap 48 = .ok (.iload 5, 2) := by decide +kernel
theorem zd_Vi_edgeOfGap_50 : decode zc_Vi_edgeOfGap 50 = .ok (.iaload, 1) := by decide +kernel
theorem zd_Vi_edgeOfGap_51 : decode zc_Vi_edgeOfGap 51 = .ok (.iaload, 1) := by decide +kernel
theorem zd_Vi_edgeOfGap_52 : decode zc_Vi_edgeOfGap 52 = .ok (.istore 6, 2) := by decide +kernel
theorem zd_Vi_edgeOfGap_54 : decode zc_Vi_edgeOfGap 54 = .ok (.iload 6, 2) := by decide +kernel
theorem zd_Vi_edgeOfGap_56 : decode zc_Vi_edgeOfGap 56 = .ok (.iload_n 3, 1) := by decide +kernel
theorem zd_Vi_edgeOfGap_57 : decode zc_Vi_edgeOfGap 57 = .ok (.iconst 1, 1) := by decide +kernel
theorem zd_Vi_edgeOfGap_58 : decode zc_Vi_edgeOfGap 58 = .ok (.iadd, 1) := by decide +kernel
theorem zd_Vi_edgeOfGap_59 : decode zc_Vi_edgeOfGap 59 = .ok (.if_icmp .le 26, 3) := by decide +kernel
theorem zd_Vi_edgeOfGap_62 : decode zc_Vi_edgeOfGap 62 = .ok (.iload 4, 2) := by decide +kernel
theorem zd_Vi_edgeOfGap_64 : decode zc_Vi_edgeOfGap 64 = .ok (.ifCond .ne 18, 3) := by decide +kernel
theorem zd_Vi_edgeOfGap_67 : decode zc_Vi_edgeOfGap 67 = .ok (.iload_n 2, 1) := by decide +kernel
theorem zd_Vi_edgeOfGap_68 : decode zc_Vi_edgeOfGap 68 = .ok (.ifCond .ne 9, 3) := by decide +kernel
theorem zd_Vi_edgeOfGap_71 : decode zc_Vi_edgeOfGap 71 = .ok (.iload_n 3, 1) := by decide +kernel
theorem zd_Vi_edgeOfGap_72 : decode zc_Vi_edgeOfGap 72 = .ok (.iconst 1, 1) := by decide +kernel
theorem zd_Vi_edgeOfGap_73 : decode zc_Vi_edgeOfGap 73 = .ok (.iadd, 1) := by decide +kernel
theorem zd_Vi_edgeOfGap_74 : decode zc_Vi_edgeOfGap 74 = .ok (.goto 7, 3) := by decide +kernel
theorem zd_Vi_edgeOfGap_77 : decode zc_Vi_edgeOfGap 77 = .ok (.iload 6, 2) := by decide +kernel
theorem zd_Vi_edgeOfGap_79 : decode zc_Vi_edgeOfGap 79 = .ok (.iconst 1, 1) := by decide +kernel
theorem zd_Vi_edgeOfGap_80 : decode zc_Vi_edgeOfGap 80 = .ok (.isub, 1) := by decide +kernel
theorem zd_Vi_edgeOfGap_81 : decode zc_Vi_edgeOfGap 81 = .ok (.ireturn, 1) := by decide +kernel
theorem zd_Vi_edgeOfGap_82 : decode zc_Vi_edgeOfGap 82 = .ok (.iinc 4 (-1), 3) := by decide +kernel
theorem zd_Vi_edgeOfGap_85 : decode zc_Vi_edgeOfGap 85 = .ok (.iload_n 3, 1) := by decide +kernel
theorem zd_Vi_edgeOfGap_86 : decode zc_Vi_edgeOfGap 86 = .ok (.aload_n 0, 1) := by decide +kernel
theorem zd_Vi_edgeOfGap_87 : decode zc_Vi_edgeOfGap 87 = .ok (.getfield 11, 3) := by decide +kernel
theorem zd_Vi_edgeOfGap_90 : decode zc_Vi_edgeOfGap 90 = .ok (.iconst 2, 1) := by decide +kernel
theorem zd_Vi_edgeOfGap_91 : decode zc_Vi_edgeOfGap 91 = .ok (.aaload, 1) := by decide +kernel
theorem zd_Vi_edgeOfGap_92 : decode zc_Vi_edgeOfGap 92 = .ok (.aload_n 0, 1) := by decide +kernel
theorem zd_Vi_edgeOfGap_93 : decode zc_Vi_edgeOfGap 93 = .ok (.getfield 19, 3) := by decide +kernel
theorem zd_Vi_edgeOfGap_96 : decode zc_Vi_edgeOfGap 96 = .ok (.iload 5, 2) := by decide +kernel
theorem zd_Vi_edgeOfGap_98 : decode zc_Vi_edgeOfGap 98 = .ok (.iaload, 1) := by decide +kernel
theorem zd_Vi_edgeOfGap_99 : decode zc_Vi_edgeOfGap 99 = .ok (.iaload, 1) := by decide +kernel
theorem zd_Vi_edgeOfGap_100 : decode zc_Vi_edgeOfGap 100 = .ok (.invokestatic 60, 3) := by decide +kernel
theorem zd_Vi_edgeOfGap_103 : decode zc_Vi_edgeOfGap 103 = .ok (.istore_n 3, 1) := by decide +kernel
theorem zd_Vi_edgeOfGap_104 : decode zc_Vi_edgeOfGap 104 = .ok (.iinc 5 1, 3) := by decide +kernel
theorem zd_Vi_edgeOfGap_107 : decode zc_Vi_edgeOfGap 107 = .ok (.goto (-78), 3) := by decide +kernel
theorem zd_Vi_edgeOfGap_110 : decode zc_Vi_edgeOfGap 110 = .ok (.iconst (-1), 1) := by decide +kernel
theorem zd_Vi_edgeOfGap_111 : decode zc_Vi_edgeOfGap 111 = .ok (.ireturn, 1) := by decide +kernel
theorem zd_L_thing_0 : decode zc_L_thing 0 = .ok (.aload_n 1, 1) := by decide +kernel
theorem zd_L_thing_1 : decode zc_L_thing 1 = .ok (.iconst 0, 1) := by decide +kernel
theorem zd_L_thing_2 : decode zc_L_thing 2 = .ok (.aload_n 0, 1) := by decide +kernel
theorem zd_L_thing_3 : decode zc_L_thing 3 = .ok (.invokevirtual 7, 3) := by decide +kernel
theorem zd_L_thing_6 : decode zc_L_thing 6 = .ok (.i2l, 1) := by decide +kernel
theorem zd_L_thing_7 : decode zc_L_thing 7 = .ok (.lastore, 1) := by decide +kernel
theorem zd_L_thing_8 : decode zc_L_thing 8 = .ok (.goto 6, 3) := by decide +kernel
theorem zd_L_thing_11 : decode zc_L_thing 11 = .ok (.astore_n 2, 1) := by decide +kernel
theorem zd_L_thing_12 : decode zc_L_thing 12 = .ok (.iconst 1, 1) := by decide +kernel
theorem zd_L_thing_13 : decode zc_L_thing 13 = .ok (.ireturn, 1) := by decide +kernel
theorem zd_L_thing_14 : decode zc_L_thing 14 = .ok (.iconst 0, 1) := by decide +kernel
theorem zd_L_thing_15 : decode zc_L_thing 15 = .ok (.ireturn, 1) := by decide +kernel
theorem zd_L_owner_0 : decode zc_L_owner 0 = .ok (.aload 6, 2) := by decide +kernel
theorem zd_L_owner_2 : decode zc_L_owner 2 = .ok (.iconst 0, 1) := by decide +kernel
theorem zd_L_owner_3 : decode zc_L_owner 3 = .ok (.aload_n 0, 1) := by decide +kernel
theorem zd_L_owner_4 : decode zc_L_owner 4 = .ok (.iload_n 1, 1) := by decide +kernel
theorem zd_L_owner_5 : decode zc_L_owner 5 = .ok (.iload_n 2, 1) := by decide +kernel
theorem zd_L_owner_6 : decode zc_L_owner 6 = .ok (.iload_n 3, 1) := by decide +kernel
theorem zd_L_owner_7 : decode zc_L_owner 7 = .ok (.iload 4, 2) := by decide +kernel
theorem zd_L_owner_9 : decode zc_L_owner 9 = .ok (.iload 5, 2) := by decide +kernel
theorem zd_L_owner_11 : decode zc_L_owner 11 = .ok (.invokevirtual 15, 3) := by decide +kernel
theorem zd_L_owner_14 : decode zc_L_owner 14 = .ok (.i2l, 1) := by decide +kernel
theorem zd_L_owner_15 : decode zc_L_owner 15 = .ok (.lastore, 1) := by decide +kernel
theorem zd_L_owner_16 : decode zc_L_owner 16 = .ok (.goto 15, 3) := by decide +kernel
theorem zd_L_owner_19 : decode zc_L_owner 19 = .ok (.astore 7, 2) := by decide +kernel
theorem zd_L_owner_21 : decode zc_L_owner 21 = .ok (.iconst 1, 1) := by decide +kernel
theorem zd_L_owner_22 : decode zc_L_owner 22 = .ok (.ireturn, 1) := by decide +kernel
theorem zd_L_owner_23 : decode zc_L_owner 23 = .ok (.astore 7, 2) := by decide +kernel
theorem zd_L_owner_25 : decode zc_L_owner 25 = .ok (.iconst 2, 1) := by decide +kernel
theorem zd_L_owner_26 : decode zc_L_owner 26 = .ok (.ireturn, 1) := by decide +kernel
theorem zd_L_owner_27 : decode zc_L_owner 27 = .ok (.astore 7, 2) := by decide +kernel
theorem zd_L_owner_29 : decode zc_L_owner 29 = .ok (.iconst 3, 1) := by decide +kernel
theorem zd_L_owner_30 : decode zc_L_owner 30 = .ok (.ireturn, 1) := by decide +kernel
theorem zd_L_owner_31 : decode zc_L_owner 31 = .ok (.iconst 0, 1) := by decide +kernel
theorem zd_L_owner_32 : decode zc_L_owner 32 = .ok (.ireturn, 1) := by decide +kernel
theorem zd_L_share_0 : decode zc_L_share 0 = .ok (.aload_n 0, 1) := by decide +kernel
theorem zd_L_share_1 : decode zc_L_share 1 = .ok (.iload_n 1, 1) := by decide +kernel
theorem zd_L_share_2 : decode zc_L_share 2 = .ok (.iload_n 2, 1) := by decide +kernel
theorem zd_L_share_3 : decode zc_L_share 3 = .ok (.iload_n 3, 1) := by decide +kernel
theorem zd_L_share_4 : decode zc_L_share 4 = .ok (.invokevirtual 23, 3) := by decide +kernel
theorem zd_L_share_7 : decode zc_L_share 7 = .ok (.goto 11, 3) := by decide +kernel
theorem zd_L_share_10 : decode zc_L_share 10 = .ok (.astore 4, 2) := by decide +kernel
theorem zd_L_share_12 : decode zc_L_share 12 = .ok (.iconst 1, 1) := by decide +kernel
theorem zd_L_share_13 : decode zc_L_share 13 = .ok (.ireturn, 1) := by decide +kernel
theorem zd_L_share_14 : decode zc_L_share 14 = .ok (.astore 4, 2) := by decide +kernel
theorem zd_L_share_16 : decode zc_L_share 16 = .ok (.iconst 2, 1) := by decide +kernel
theorem zd_L_share_17 : decode zc_L_share 17 = .ok (.ireturn, 1) := by decide +kernel
theorem zd_L_share_18 : decode zc_L_share 18 = .ok (.iconst 0, 1) := by decide +kernel
theorem zd_L_share_19 : decode zc_L_share 19 = .ok (.ireturn, 1) := by decide +kernel
theorem zd_L_doubt_0 : decode zc_L_doubt 0 = .ok (.aload_n 3, 1) := by decide +kernel
theorem zd_L_doubt_1 : decode zc_L_doubt 1 = .ok (.iconst 0, 1) := by decide +kernel
theorem zd_L_doubt_2 : decode zc_L_doubt 2 = .ok (.aload_n 0, 1) := by decide +kernel
theorem zd_L_doubt_3 : decode zc_L_doubt 3 = .ok (.iload_n 1, 1) := by decide +kernel
theorem zd_L_doubt_4 : decode zc_L_doubt 4 = .ok (.iload_n 2, 1) := by decide +kernel
theorem zd_L_doubt_5 : decode zc_L_doubt 5 = .ok (.invokevirtual 27, 3) := by decide +kernel
theorem zd_L_doubt_8 : decode zc_L_doubt 8 = .ok (.ifCond .eq 7, 3) := by decide +kernel
theorem zd_L_doubt_11 : decode zc_L_doubt 11 = .ok (.lconst 1, 1) := by decide +kernel
theorem zd_L_doubt_12 : decode zc_L_doubt 12 = .ok (.goto 4, 3) := by decide +kernel
theorem zd_L_doubt_15 : decode zc_L_doubt 15 = .ok (.lconst 0, 1) := by decide +kernel
theorem zd_L_doubt_16 : decode zc_L_doubt 16 = .ok (.lastore, 1) := by decide +kernel
theorem zd_L_doubt_17 : decode zc_L_doubt 17 = .ok (.goto 7, 3) := by decide +kernel
theorem zd_L_doubt_20 : decode zc_L_doubt 20 = .ok (.astore 4, 2) := by decide +kernel
theorem zd_L_doubt_22 : decode zc_L_doubt 22 = .ok (.iconst 1, 1) := by decide +kernel
theorem zd_L_doubt_23 : decode zc_L_doubt 23 = .ok (.ireturn, 1) := by decide +kernel
theorem zd_L_doubt_24 : decode zc_L_doubt 24 = .ok (.iconst 0, 1) := by decide +kernel
theorem zd_L_doubt_25 : decode zc_L_doubt 25 = .ok (.ireturn, 1) := by decide +kernel
theorem zd_L_correct_0 : decode zc_L_correct 0 = .ok (.aload_n 0, 1) := by decide +kernel
theorem zd_L_correct_1 : decode zc_L_correct 1 = .ok (.iload_n 1, 1) := by decide +kernel
theorem zd_L_correct_2 : decode zc_L_correct 2 = .ok (.iload_n 2, 1) := by decide +kernel
theorem zd_L_correct_3 : decode zc_L_correct 3 = .ok (.iload_n 3, 1) := by decide +kernel
theorem zd_L_correct_4 : decode zc_L_correct 4 = .ok (.iload 4, 2) := by decide +kernel
theorem zd_L_correct_6 : decode zc_L_correct 6 = .ok (.invokevirtual 31, 3) := by decide +kernel
theorem zd_L_correct_9 : decode zc_L_correct 9 = .ok (.goto 15, 3) := by decide +kernel
theorem zd_L_correct_12 : decode zc_L_correct 12 = .ok (.astore 5, 2) := by decide +kernel
theorem zd_L_correct_14 : decode zc_L_correct 14 = .ok (.iconst 1, 1) := by decide +kernel
theorem zd_L_correct_15 : decode zc_L_correct 15 = .ok (.ireturn, 1) := by decide +kernel
theorem zd_L_correct_16 : decode zc_L_correct 16 = .ok (.astore 5, 2) := by decide +kernel
theorem zd_L_correct_18 : decode zc_L_correct 18 = .ok (.iconst 2, 1) := by decide +kernel
theorem zd_L_correct_19 : decode zc_L_correct 19 = .ok (.ireturn, 1) := by decide +kernel
theorem zd_L_correct_20 : decode zc_L_correct 20 = .ok (.astore 5, 2) := by decide +kernel
theorem zd_L_correct_22 : decode zc_L_correct 22 = .ok (.iconst 3, 1) := by decide +kernel
theorem zd_L_correct_23 : decode zc_L_correct 23 = .ok (.ireturn, 1) := by decide +kernel
theorem zd_L_correct_24 : decode zc_L_correct 24 = .ok (.iconst 0, 1) := by decide +kernel
theorem zd_L_correct_25 : decode zc_L_correct 25 = .ok (.ireturn, 1) := by decide +kernel
theorem zd_L_known_0 : decode zc_L_known 0 = .ok (.aload 4, 2) := by decide +kernel
theorem zd_L_known_2 : decode zc_L_known 2 = .ok (.iconst 0, 1) := by decide +kernel
theorem zd_L_known_3 : decode zc_L_known 3 = .ok (.aload_n 0, 1) := by decide +kernel
theorem zd_L_known_4 : decode zc_L_known 4 = .ok (.iload_n 1, 1) := by decide +kernel
theorem zd_L_known_5 : decode zc_L_known 5 = .ok (.iload_n 2, 1) := by decide +kernel
theorem zd_L_known_6 : decode zc_L_known 6 = .ok (.iload_n 3, 1) := by decide +kernel
theorem zd_L_known_7 : decode zc_L_known 7 = .ok (.invokevirtual 35, 3) := by decide +kernel
theorem zd_L_known_10 : decode zc_L_known 10 = .ok (.i2l, 1) := by decide +kernel
theorem zd_L_known_11 : decode zc_L_known 11 = .ok (.lastore, 1) := by decide +kernel
theorem zd_L_known_12 : decode zc_L_known 12 = .ok (.goto 11, 3) := by decide +kernel
theorem zd_L_known_15 : decode zc_L_known 15 = .ok (.astore 5, 2) := by decide +kernel
theorem zd_L_known_17 : decode zc_L_known 17 = .ok (.iconst 1, 1) := by decide +kernel
theorem zd_L_known_18 : decode zc_L_known 18 = .ok (.ireturn, 1) := by decide +kernel
theorem zd_L_known_19 : decode zc_L_known 19 = .ok (.astore 5, 2) := by decide +kernel
theorem zd_L_known_21 : decode zc_L_known 21 = .ok (.iconst 2, 1) := by decide +kernel
theorem zd_L_known_22 : decode zc_L_known 22 = .ok (.ireturn, 1) := by decide +kernel
theorem zd_L_known_23 : decode zc_L_known 23 = .ok (.iconst 0, 1) := by decide +kernel
theorem zd_L_known_24 : decode zc_L_known 24 = .ok (.ireturn, 1) := by decide +kernel
theorem zd_L_gap_0 : decode zc_L_gap 0 = .ok (.aload 5, 2) := by decide +kernel
theorem zd_L_gap_2 : decode zc_L_gap 2 = .ok (.iconst 0, 1) := by decide +kernel
theorem zd_L_gap_3 : decode zc_L_gap 3 = .ok (.aload_n 0, 1) := by decide +kernel
theorem zd_L_gap_4 : decode zc_L_gap 4 = .ok (.iload_n 1, 1) := by decide +kernel
theorem zd_L_gap_5 : decode zc_L_gap 5 = .ok (.iload_n 2, 1) := by decide +kernel
theorem zd_L_gap_6 : decode zc_L_gap 6 = .ok (.iload_n 3, 1) := by decide +kernel
theorem zd_L_gap_7 : decode zc_L_gap 7 = .ok (.iload 4, 2) := by decide +kernel
theorem zd_L_gap_9 : decode zc_L_gap 9 = .ok (.invokevirtual 39, 3) := by decide +kernel
theorem zd_L_gap_12 : decode zc_L_gap 12 = .ok (.i2l, 1) := by decide +kernel
theorem zd_L_gap_13 : decode zc_L_gap 13 = .ok (.lastore, 1) := by decide +kernel
theorem zd_L_gap_14 : decode zc_L_gap 14 = .ok (.goto 11, 3) := by decide +kernel
theorem zd_L_gap_17 : decode zc_L_gap 17 = .ok (.astore 6, 2) := by decide +kernel
theorem zd_L_gap_19 : decode zc_L_gap 19 = .ok (.iconst 1, 1) := by decide +kernel
theorem zd_L_gap_20 : decode zc_L_gap 20 = .ok (.ireturn, 1) := by decide +kernel
theorem zd_L_gap_21 : decode zc_L_gap 21 = .ok (.astore 6, 2) := by decide +kernel
theorem zd_L_gap_23 : decode zc_L_gap 23 = .ok (.iconst 2, 1) := by decide +kernel
theorem zd_L_gap_24 : decode zc_L_gap 24 = .ok (.ireturn, 1) := by decide +kernel
theorem zd_L_gap_25 : decode zc_L_gap 25 = .ok (.iconst 0, 1) := by decide +kernel
theorem zd_L_gap_26 : decode zc_L_gap 26 = .ok (.ireturn, 1) := by decide +kernel
theorem zd_L_held_0 : decode zc_L_held 0 = .ok (.aload 5, 2) := by decide +kernel
theorem zd_L_held_2 : decode zc_L_held 2 = .ok (.iconst 0, 1) := by decide +kernel
theorem zd_L_held_3 : decode zc_L_held 3 = .ok (.aload_n 0, 1) := by decide +kernel
theorem zd_L_held_4 : decode zc_L_held 4 = .ok (.iload_n 1, 1) := by decide +kernel
theorem zd_L_held_5 : decode zc_L_held 5 = .ok (.iload_n 2, 1) := by decide +kernel
theorem zd_L_held_6 : decode zc_L_held 6 = .ok (.iload_n 3, 1) := by decide +kernel
theorem zd_L_held_7 : decode zc_L_held 7 = .ok (.iload 4, 2) := by decide +kernel
theorem zd_L_held_9 : decode zc_L_held 9 = .ok (.invokevirtual 43, 3) := by decide +kernel
theorem zd_L_held_12 : decode zc_L_held 12 = .ok (.i2l, 1) := by decide +kernel
theorem zd_L_held_13 : decode zc_L_held 13 = .ok (.lastore, 1) := by decide +kernel
theorem zd_L_held_14 : decode zc_L_held 14 = .ok (.goto 15, 3) := by decide +kernel
theorem zd_L_held_17 : decode zc_L_held 17 = .ok (.astore 6, 2) := by decide +kernel
theorem zd_L_held_19 : decode zc_L_held 19 = .ok (.iconst 1, 1) := by decide +kernel
theorem zd_L_held_20 : decode zc_L_held 20 = .ok (.ireturn, 1) := by decide +kernel
theorem zd_L_held_21 : decode zc_L_held 21 = .ok (.astore 6, 2) := by decide +kernel
theorem zd_L_held_23 : decode zc_L_held 23 = .ok (.iconst 2, 1) := by decide +kernel
theorem zd_L_held_24 : decode zc_L_held 24 = .ok (.ireturn, 1) := by decide +kernel
theorem zd_L_held_25 : decode zc_L_held 25 = .ok (.astore 6, 2) := by decide +kernel
theorem zd_L_held_27 : decode zc_L_held 27 = .ok (.iconst 3, 1) := by decide +kernel
theorem zd_L_held_28 : decode zc_L_held 28 = .ok (.ireturn, 1) := by decide +kernel
theorem zd_L_held_29 : decode zc_L_held 29 = .ok (.iconst 0, 1) := by decide +kernel
theorem zd_L_held_30 : decode zc_L_held 30 = .ok (.ireturn, 1) := by decide +kernel
theorem zd_L_danger_0 : decode zc_L_danger 0 = .ok (.aload 4, 2) := by decide +kernel
theorem zd_L_danger_2 : decode zc_L_danger 2 = .ok (.iconst 0, 1) := by decide +kernel
theorem zd_L_danger_3 : decode zc_L_danger 3 = .ok (.aload_n 0, 1) := by decide +kernel
theorem zd_L_danger_4 : decode zc_L_danger 4 = .ok (.iload_n 1, 1) := by decide +kernel
theorem zd_L_danger_5 : decode zc_L_danger 5 = .ok (.iload_n 2, 1) := by decide +kernel
theorem zd_L_danger_6 : decode zc_L_danger 6 = .ok (.iload_n 3, 1) := by decide +kernel
theorem zd_L_danger_7 : decode zc_L_danger 7 = .ok (.invokevirtual 46, 3) := by decide +kernel
theorem zd_L_danger_10 : decode zc_L_danger 10 = .ok (.i2l, 1) := by decide +kernel
theorem zd_L_danger_11 : decode zc_L_danger 11 = .ok (.lastore, 1) := by decide +kernel
theorem zd_L_danger_12 : decode zc_L_danger 12 = .ok (.goto 15, 3) := by decide +kernel
theorem zd_L_danger_15 : decode zc_L_danger 15 = .ok (.astore 5, 2) := by decide +kernel
theorem zd_L_danger_17 : decode zc_L_danger 17 = .ok (.iconst 1, 1) := by decide +kernel
theorem zd_L_danger_18 : decode zc_L_danger 18 = .ok (.ireturn, 1) := by decide +kernel
theorem zd_L_danger_19 : decode zc_L_danger 19 = .ok (.astore 5, 2) := by decide +kernel
theorem zd_L_danger_21 : decode zc_L_danger 21 = .ok (.iconst 2, 1) := by decide +kernel
theorem zd_L_danger_22 : decode zc_L_danger 22 = .ok (.ireturn, 1) := by decide +kernel
theorem zd_L_danger_23 : decode zc_L_danger 23 = .ok (.astore 5, 2) := by decide +kernel
theorem zd_L_danger_25 : decode zc_L_danger 25 = .ok (.iconst 3, 1) := by decide +kernel
theorem zd_L_danger_26 : decode zc_L_danger 26 = .ok (.ireturn, 1) := by decide +kernel
theorem zd_L_danger_27 : decode zc_L_danger 27 = .ok (.iconst 0, 1) := by decide +kernel
theorem zd_L_danger_28 : decode zc_L_danger 28 = .ok (.ireturn, 1) := by decide +kernel
theorem zd_L_asked_0 : decode zc_L_asked 0 = .ok (.aload 4, 2) := by decide +kernel
theorem zd_L_asked_2 : decode zc_L_asked 2 = .ok (.iconst 0, 1) := by decide +kernel
theorem zd_L_asked_3 : decode zc_L_asked 3 = .ok (.aload_n 0, 1) := by decide +kernel
theorem zd_L_asked_4 : decode zc_L_asked 4 = .ok (.iload_n 1, 1) := by decide +kernel
theorem zd_L_asked_5 : decode zc_L_asked 5 = .ok (.iload_n 2, 1) := by decide +kernel
theorem zd_L_asked_6 : decode zc_L_asked 6 = .ok (.iload_n 3, 1) := by decide +kernel
theorem zd_L_asked_7 : decode zc_L_asked 7 = .ok (.invokevirtual 49, 3) := by decide +kernel
theorem zd_L_asked_10 : decode zc_L_asked 10 = .ok (.i2l, 1) := by decide +kernel
theorem zd_L_asked_11 : decode zc_L_asked 11 = .ok (.lastore, 1) := by decide +kernel
theorem zd_L_asked_12 : decode zc_L_asked 12 = .ok (.goto 11, 3) := by decide +kernel
theorem zd_L_asked_15 : decode zc_L_asked 15 = .ok (.astore 5, 2) := by decide +kernel
theorem zd_L_asked_17 : decode zc_L_asked 17 = .ok (.iconst 1, 1) := by decide +kernel
theorem zd_L_asked_18 : decode zc_L_asked 18 = .ok (.ireturn, 1) := by decide +kernel
theorem zd_L_asked_19 : decode zc_L_asked 19 = .ok (.astore 5, 2) := by decide +kernel
theorem zd_L_asked_21 : decode zc_L_asked 21 = .ok (.iconst 2, 1) := by decide +kernel
theorem zd_L_asked_22 : decode zc_L_asked 22 = .ok (.ireturn, 1) := by decide +kernel
theorem zd_L_asked_23 : decode zc_L_asked 23 = .ok (.iconst 0, 1) := by decide +kernel
theorem zd_L_asked_24 : decode zc_L_asked 24 = .ok (.ireturn, 1) := by decide +kernel
theorem zd_L_claim_0 : decode zc_L_claim 0 = .ok (.aload 4, 2) := by decide +kernel
theorem zd_L_claim_2 : decode zc_L_claim 2 = .ok (.iconst 0, 1) := by decide +kernel
theorem zd_L_claim_3 : decode zc_L_claim 3 = .ok (.aload_n 0, 1) := by decide +kernel
theorem zd_L_claim_4 : decode zc_L_claim 4 = .ok (.iload_n 1, 1) := by decide +kernel
theorem zd_L_claim_5 : decode zc_L_claim 5 = .ok (.iload_n 2, 1) := by decide +kernel
theorem zd_L_claim_6 : decode zc_L_claim 6 = .ok (.iload_n 3, 1) := by decide +kernel
theorem zd_L_claim_7 : decode zc_L_claim 7 = .ok (.invokevirtual 52, 3) := by decide +kernel
theorem zd_L_claim_10 : decode zc_L_claim 10 = .ok (.i2l, 1) := by decide +kernel
theorem zd_L_claim_11 : decode zc_L_claim 11 = .ok (.lastore, 1) := by decide +kernel
theorem zd_L_claim_12 : decode zc_L_claim 12 = .ok (.goto 15, 3) := by decide +kernel
theorem zd_L_claim_15 : decode zc_L_claim 15 = .ok (.astore 5, 2) := by decide +kernel
theorem zd_L_claim_17 : decode zc_L_claim 17 = .ok (.iconst 1, 1) := by decide +kernel
theorem zd_L_claim_18 : decode zc_L_claim 18 = .ok (.ireturn, 1) := by decide +kernel
theorem zd_L_claim_19 : decode zc_L_claim 19 = .ok (.astore 5, 2) := by decide +kernel
theorem zd_L_claim_21 : decode zc_L_claim 21 = .ok (.iconst 2, 1) := by decide +kernel
theorem zd_L_claim_22 : decode zc_L_claim 22 = .ok (.ireturn, 1) := by decide +kernel
theorem zd_L_claim_23 : decode zc_L_claim 23 = .ok (.astore 5, 2) := by decide +kernel
theorem zd_L_claim_25 : decode zc_L_claim 25 = .ok (.iconst 3, 1) := by decide +kernel
theorem zd_L_claim_26 : decode zc_L_claim 26 = .ok (.ireturn, 1) := by decide +kernel
theorem zd_L_claim_27 : decode zc_L_claim 27 = .ok (.iconst 0, 1) := by decide +kernel
theorem zd_L_claim_28 : decode zc_L_claim 28 = .ok (.ireturn, 1) := by decide +kernel
theorem zd_L_settle_0 : decode zc_L_settle 0 = .ok (.aload_n 0, 1) := by decide +kernel
theorem zd_L_settle_1 : decode zc_L_settle 1 = .ok (.iload_n 1, 1) := by decide +kernel
theorem zd_L_settle_2 : decode zc_L_settle 2 = .ok (.iload_n 2, 1) := by decide +kernel
theorem zd_L_settle_3 : decode zc_L_settle 3 = .ok (.invokevirtual 55, 3) := by decide +kernel
theorem zd_L_settle_6 : decode zc_L_settle 6 = .ok (.goto 12, 3) := by decide +kernel
theorem zd_L_settle_9 : decode zc_L_settle 9 = .ok (.astore_n 3, 1) := by decide +kernel
theorem zd_L_settle_10 : decode zc_L_settle 10 = .ok (.iconst 1, 1) := by decide +kernel
theorem zd_L_settle_11 : decode zc_L_settle 11 = .ok (.ireturn, 1) := by decide +kernel
theorem zd_L_settle_12 : decode zc_L_settle 12 = .ok (.astore_n 3, 1) := by decide +kernel
theorem zd_L_settle_13 : decode zc_L_settle 13 = .ok (.iconst 2, 1) := by decide +kernel
theorem zd_L_settle_14 : decode zc_L_settle 14 = .ok (.ireturn, 1) := by decide +kernel
theorem zd_L_settle_15 : decode zc_L_settle 15 = .ok (.astore_n 3, 1) := by decide +kernel
theorem zd_L_settle_16 : decode zc_L_settle 16 = .ok (.iconst 3, 1) := by decide +kernel
theorem zd_L_settle_17 : decode zc_L_settle 17 = .ok (.ireturn, 1) := by decide +kernel
theorem zd_L_settle_18 : decode zc_L_settle 18 = .ok (.iconst 0, 1) := by decide +kernel
theorem zd_L_settle_19 : decode zc_L_settle 19 = .ok (.ireturn, 1) := by decide +kernel
theorem zd_L_stops_0 : decode zc_L_stops 0 = .ok (.aload_n 3, 1) := by decide +kernel
theorem zd_L_stops_1 : decode zc_L_stops 1 = .ok (.iconst 0, 1) := by decide +kernel
theorem zd_L_stops_2 : decode zc_L_stops 2 = .ok (.aload_n 0, 1) := by decide +kernel
theorem zd_L_stops_3 : decode zc_L_stops 3 = .ok (.iload_n 1, 1) := by decide +kernel
theorem zd_L_stops_4 : decode zc_L_stops 4 = .ok (.iload_n 2, 1) := by decide +kernel
theorem zd_L_stops_5 : decode zc_L_stops 5 = .ok (.invokevirtual 59, 3) := by decide +kernel
theorem zd_L_stops_8 : decode zc_L_stops 8 = .ok (.ifCond .eq 7, 3) := by decide +kernel
theorem zd_L_stops_11 : decode zc_L_stops 11 = .ok (.lconst 1, 1) := by decide +kernel
theorem zd_L_stops_12 : decode zc_L_stops 12 = .ok (.goto 4, 3) := by decide +kernel
theorem zd_L_stops_15 : decode zc_L_stops 15 = .ok (.lconst 0, 1) := by decide +kernel
theorem zd_L_stops_16 : decode zc_L_stops 16 = .ok (.lastore, 1) := by decide +kernel
theorem zd_L_stops_17 : decode zc_L_stops 17 = .ok (.goto 11, 3) := by decide +kernel
theorem zd_L_stops_20 : decode zc_L_stops 20 = .ok (.astore 4, 2) := by decide +kernel
theorem zd_L_stops_22 : decode zc_L_stops 22 = .ok (.iconst 1, 1) := by decide +kernel
theorem zd_L_stops_23 : decode zc_L_stops 23 = .ok (.ireturn, 1) := by decide +kernel
theorem zd_L_stops_24 : decode zc_L_stops 24 = .ok (.astore 4, 2) := by decide +kernel
theorem zd_L_stops_26 : decode zc_L_stops 26 = .ok (.iconst 2, 1) := by decide +kernel
theorem zd_L_stops_27 : decode zc_L_stops 27 = .ok (.ireturn, 1) := by decide +kernel
theorem zd_L_stops_28 : decode zc_L_stops 28 = .ok (.iconst 0, 1) := by decide +kernel
theorem zd_L_stops_29 : decode zc_L_stops 29 = .ok (.ireturn, 1) := by decide +kernel
theorem zd_L_tell_0 : decode zc_L_tell 0 = .ok (.aload_n 0, 1) := by decide +kernel
theorem zd_L_tell_1 : decode zc_L_tell 1 = .ok (.iload_n 1, 1) := by decide +kernel
theorem zd_L_tell_2 : decode zc_L_tell 2 = .ok (.iload_n 2, 1) := by decide +kernel
theorem zd_L_tell_3 : decode zc_L_tell 3 = .ok (.iload_n 3, 1) := by decide +kernel
theorem zd_L_tell_4 : decode zc_L_tell 4 = .ok (.invokevirtual 63, 3) := by decide +kernel
theorem zd_L_tell_7 : decode zc_L_tell 7 = .ok (.goto 11, 3) := by decide +kernel
theorem zd_L_tell_10 : decode zc_L_tell 10 = .ok (.astore 4, 2) := by decide +kernel
theorem zd_L_tell_12 : decode zc_L_tell 12 = .ok (.iconst 1, 1) := by decide +kernel
theorem zd_L_tell_13 : decode zc_L_tell 13 = .ok (.ireturn, 1) := by decide +kernel
theorem zd_L_tell_14 : decode zc_L_tell 14 = .ok (.astore 4, 2) := by decide +kernel
theorem zd_L_tell_16 : decode zc_L_tell 16 = .ok (.iconst 2, 1) := by decide +kernel
theorem zd_L_tell_17 : decode zc_L_tell 17 = .ok (.ireturn, 1) := by decide +kernel
theorem zd_L_tell_18 : decode zc_L_tell 18 = .ok (.iconst 0, 1) := by decide +kernel
theorem zd_L_tell_19 : decode zc_L_tell 19 = .ok (.ireturn, 1) := by decide +kernel
theorem zd_L_rights_0 : decode zc_L_rights 0 = .ok (.aload 4, 2) := by decide +kernel
theorem zd_L_rights_2 : decode zc_L_rights 2 = .ok (.iconst 0, 1) := by decide +kernel
theorem zd_L_rights_3 : decode zc_L_rights 3 = .ok (.aload_n 0, 1) := by decide +kernel
theorem zd_L_rights_4 : decode zc_L_rights 4 = .ok (.iload_n 1, 1) := by decide +kernel
theorem zd_L_rights_5 : decode zc_L_rights 5 = .ok (.iload_n 2, 1) := by decide +kernel
theorem zd_L_rights_6 : decode zc_L_rights 6 = .ok (.iload_n 3, 1) := by decide +kernel
theorem zd_L_rights_7 : decode zc_L_rights 7 = .ok (.invokevirtual 66, 3) := by decide +kernel
theorem zd_L_rights_10 : decode zc_L_rights 10 = .ok (.i2l, 1) := by decide +kernel
theorem zd_L_rights_11 : decode zc_L_rights 11 = .ok (.lastore, 1) := by decide +kernel
theorem zd_L_rights_12 : decode zc_L_rights 12 = .ok (.goto 11, 3) := by decide +kernel
theorem zd_L_rights_15 : decode zc_L_rights 15 = .ok (.astore 5, 2) := by decide +kernel
theorem zd_L_rights_17 : decode zc_L_rights 17 = .ok (.iconst 1, 1) := by decide +kernel
theorem zd_L_rights_18 : decode zc_L_rights 18 = .ok (.ireturn, 1) := by decide +kernel
theorem zd_L_rights_19 : decode zc_L_rights 19 = .ok (.astore 5, 2) := by decide +kernel
theorem zd_L_rights_21 : decode zc_L_rights 21 = .ok (.iconst 2, 1) := by decide +kernel
theorem zd_L_rights_22 : decode zc_L_rights 22 = .ok (.ireturn, 1) := by decide +kernel
theorem zd_L_rights_23 : decode zc_L_rights 23 = .ok (.iconst 0, 1) := by decide +kernel
theorem zd_L_rights_24 : decode zc_L_rights 24 = .ok (.ireturn, 1) := by decide +kernel
theorem zd_L_licence_0 : decode zc_L_licence 0 = .ok (.aload 5, 2) := by decide +kernel
theorem zd_L_licence_2 : decode zc_L_licence 2 = .ok (.iconst 0, 1) := by decide +kernel
theorem zd_L_licence_3 : decode zc_L_licence 3 = .ok (.aload_n 0, 1) := by decide +kernel
theorem zd_L_licence_4 : decode zc_L_licence 4 = .ok (.iload_n 1, 1) := by decide +kernel
theorem zd_L_licence_5 : decode zc_L_licence 5 = .ok (.iload_n 2, 1) := by decide +kernel
theorem zd_L_licence_6 : decode zc_L_licence 6 = .ok (.iload_n 3, 1) := by decide +kernel
theorem zd_L_licence_7 : decode zc_L_licence 7 = .ok (.iload 4, 2) := by decide +kernel
theorem zd_L_licence_9 : decode zc_L_licence 9 = .ok (.invokevirtual 69, 3) := by decide +kernel
theorem zd_L_licence_12 : decode zc_L_licence 12 = .ok (.i2l, 1) := by decide +kernel
theorem zd_L_licence_13 : decode zc_L_licence 13 = .ok (.lastore, 1) := by decide +kernel
theorem zd_L_licence_14 : decode zc_L_licence 14 = .ok (.goto 15, 3) := by decide +kernel
theorem zd_L_licence_17 : decode zc_L_licence 17 = .ok (.astore 6, 2) := by decide +kernel
theorem zd_L_licence_19 : decode zc_L_licence 19 = .ok (.iconst 1, 1) := by decide +kernel
theorem zd_L_licence_20 : decode zc_L_licence 20 = .ok (.ireturn, 1) := by decide +kernel
theorem zd_L_licence_21 : decode zc_L_licence 21 = .ok (.astore 6, 2) := by decide +kernel
theorem zd_L_licence_23 : decode zc_L_licence 23 = .ok (.iconst 2, 1) := by decide +kernel
theorem zd_L_licence_24 : decode zc_L_licence 24 = .ok (.ireturn, 1) := by decide +kernel
theorem zd_L_licence_25 : decode zc_L_licence 25 = .ok (.astore 6, 2) := by decide +kernel
theorem zd_L_licence_27 : decode zc_L_licence 27 = .ok (.iconst 3, 1) := by decide +kernel
theorem zd_L_licence_28 : decode zc_L_licence 28 = .ok (.ireturn, 1) := by decide +kernel
theorem zd_L_licence_29 : decode zc_L_licence 29 = .ok (.iconst 0, 1) := by decide +kernel
theorem zd_L_licence_30 : decode zc_L_licence 30 = .ok (.ireturn, 1) := by decide +kernel
theorem zd_L_licensed_0 : decode zc_L_licensed 0 = .ok (.aload 4, 2) := by decide +kernel
theorem zd_L_licensed_2 : decode zc_L_licensed 2 = .ok (.iconst 0, 1) := by decide +kernel
theorem zd_L_licensed_3 : decode zc_L_licensed 3 = .ok (.aload_n 0, 1) := by decide +kernel
theorem zd_L_licensed_4 : decode zc_L_licensed 4 = .ok (.iload_n 1, 1) := by decide +kernel
theorem zd_L_licensed_5 : decode zc_L_licensed 5 = .ok (.iload_n 2, 1) := by decide +kernel
theorem zd_L_licensed_6 : decode zc_L_licensed 6 = .ok (.iload_n 3, 1) := by decide +kernel
theorem zd_L_licensed_7 : decode zc_L_licensed 7 = .ok (.invokevirtual 72, 3) := by decide +kernel
theorem zd_L_licensed_10 : decode zc_L_licensed 10 = .ok (.ifCond .eq 7, 3) := by decide +kernel
theorem zd_L_licensed_13 : decode zc_L_licensed 13 = .ok (.lconst 1, 1) := by decide +kernel
theorem zd_L_licensed_14 : decode zc_L_licensed 14 = .ok (.goto 4, 3) := by decide +kernel
theorem zd_L_licensed_17 : decode zc_L_licensed 17 = .ok (.lconst 0, 1) := by decide +kernel
theorem zd_L_licensed_18 : decode zc_L_licensed 18 = .ok (.lastore, 1) := by decide +kernel
theorem zd_L_licensed_19 : decode zc_L_licensed 19 = .ok (.goto 11, 3) := by decide +kernel
theorem zd_L_licensed_22 : decode zc_L_licensed 22 = .ok (.astore 5, 2) := by decide +kernel
theorem zd_L_licensed_24 : decode zc_L_licensed 24 = .ok (.iconst 1, 1) := by decide +kernel
theorem zd_L_licensed_25 : decode zc_L_licensed 25 = .ok (.ireturn, 1) := by decide +kernel
theorem zd_L_licensed_26 : decode zc_L_licensed 26 = .ok (.astore 5, 2) := by decide +kernel
theorem zd_L_licensed_28 : decode zc_L_licensed 28 = .ok (.iconst 2, 1) := by decide +kernel
theorem zd_L_licensed_29 : decode zc_L_licensed 29 = .ok (.ireturn, 1) := by decide +kernel
theorem zd_L_licensed_30 : decode zc_L_licensed 30 = .ok (.iconst 0, 1) := by decide +kernel
theorem zd_L_licensed_31 : decode zc_L_licensed 31 = .ok (.ireturn, 1) := by decide +kernel
theorem zd_L_seal_0 : decode zc_L_seal 0 = .ok (.aload 4, 2) := by decide +kernel
theorem zd_L_seal_2 : decode zc_L_seal 2 = .ok (.iconst 0, 1) := by decide +kernel
theorem zd_L_seal_3 : decode zc_L_seal 3 = .ok (.aload_n 0, 1) := by decide +kernel
theorem zd_L_seal_4 : decode zc_L_seal 4 = .ok (.iload_n 1, 1) := by decide +kernel
theorem zd_L_seal_5 : decode zc_L_seal 5 = .ok (.iload_n 2, 1) := by decide +kernel
theorem zd_L_seal_6 : decode zc_L_seal 6 = .ok (.iload_n 3, 1) := by decide +kernel
theorem zd_L_seal_7 : decode zc_L_seal 7 = .ok (.invokevirtual 76, 3) := by decide +kernel
theorem zd_L_seal_10 : decode zc_L_seal 10 = .ok (.ifCond .eq 7, 3) := by decide +kernel
theorem zd_L_seal_13 : decode zc_L_seal 13 = .ok (.lconst 1, 1) := by decide +kernel
theorem zd_L_seal_14 : decode zc_L_seal 14 = .ok (.goto 4, 3) := by decide +kernel
theorem zd_L_seal_17 : decode zc_L_seal 17 = .ok (.lconst 0, 1) := by decide +kernel
theorem zd_L_seal_18 : decode zc_L_seal 18 = .ok (.lastore, 1) := by decide +kernel
theorem zd_L_seal_19 : decode zc_L_seal 19 = .ok (.goto 7, 3) := by decide +kernel
theorem zd_L_seal_22 : decode zc_L_seal 22 = .ok (.astore 5, 2) := by decide +kernel
theorem zd_L_seal_24 : decode zc_L_seal 24 = .ok (.iconst 1, 1) := by decide +kernel
theorem zd_L_seal_25 : decode zc_L_seal 25 = .ok (.ireturn, 1) := by decide +kernel
theorem zd_L_seal_26 : decode zc_L_seal 26 = .ok (.iconst 0, 1) := by decide +kernel
theorem zd_L_seal_27 : decode zc_L_seal 27 = .ok (.ireturn, 1) := by decide +kernel
theorem zd_L_seen_0 : decode zc_L_seen 0 = .ok (.aload 5, 2) := by decide +kernel
theorem zd_L_seen_2 : decode zc_L_seen 2 = .ok (.iconst 0, 1) := by decide +kernel
theorem zd_L_seen_3 : decode zc_L_seen 3 = .ok (.aload_n 0, 1) := by decide +kernel
theorem zd_L_seen_4 : decode zc_L_seen 4 = .ok (.iload_n 1, 1) := by decide +kernel
theorem zd_L_seen_5 : decode zc_L_seen 5 = .ok (.iload_n 2, 1) := by decide +kernel
theorem zd_L_seen_6 : decode zc_L_seen 6 = .ok (.iload_n 3, 1) := by decide +kernel
theorem zd_L_seen_7 : decode zc_L_seen 7 = .ok (.iload 4, 2) := by decide +kernel
theorem zd_L_seen_9 : decode zc_L_seen 9 = .ok (.invokevirtual 80, 3) := by decide +kernel
theorem zd_L_seen_12 : decode zc_L_seen 12 = .ok (.i2l, 1) := by decide +kernel
theorem zd_L_seen_13 : decode zc_L_seen 13 = .ok (.lastore, 1) := by decide +kernel
theorem zd_L_seen_14 : decode zc_L_seen 14 = .ok (.goto 11, 3) := by decide +kernel
theorem zd_L_seen_17 : decode zc_L_seen 17 = .ok (.astore 6, 2) := by decide +kernel
theorem zd_L_seen_19 : decode zc_L_seen 19 = .ok (.iconst 1, 1) := by decide +kernel
theorem zd_L_seen_20 : decode zc_L_seen 20 = .ok (.ireturn, 1) := by decide +kernel
theorem zd_L_seen_21 : decode zc_L_seen 21 = .ok (.astore 6, 2) := by decide +kernel
theorem zd_L_seen_23 : decode zc_L_seen 23 = .ok (.iconst 2, 1) := by decide +kernel
theorem zd_L_seen_24 : decode zc_L_seen 24 = .ok (.ireturn, 1) := by decide +kernel
theorem zd_L_seen_25 : decode zc_L_seen 25 = .ok (.iconst 0, 1) := by decide +kernel
theorem zd_L_seen_26 : decode zc_L_seen 26 = .ok (.ireturn, 1) := by decide +kernel
theorem zd_L_worth_0 : decode zc_L_worth 0 = .ok (.aload 5, 2) := by decide +kernel
theorem zd_L_worth_2 : decode zc_L_worth 2 = .ok (.iconst 0, 1) := by decide +kernel
theorem zd_L_worth_3 : decode zc_L_worth 3 = .ok (.aload_n 0, 1) := by decide +kernel
theorem zd_L_worth_4 : decode zc_L_worth 4 = .ok (.iload_n 1, 1) := by decide +kernel
theorem zd_L_worth_5 : decode zc_L_worth 5 = .ok (.iload_n 2, 1) := by decide +kernel
theorem zd_L_worth_6 : decode zc_L_worth 6 = .ok (.iload_n 3, 1) := by decide +kernel
theorem zd_L_worth_7 : decode zc_L_worth 7 = .ok (.iload 4, 2) := by decide +kernel
theorem zd_L_worth_9 : decode zc_L_worth 9 = .ok (.invokevirtual 83, 3) := by decide +kernel
theorem zd_L_worth_12 : decode zc_L_worth 12 = .ok (.i2l, 1) := by decide +kernel
theorem zd_L_worth_13 : decode zc_L_worth 13 = .ok (.lastore, 1) := by decide +kernel
theorem zd_L_worth_14 : decode zc_L_worth 14 = .ok (.goto 15, 3) := by decide +kernel
theorem zd_L_worth_17 : decode zc_L_worth 17 = .ok (.astore 6, 2) := by decide +kernel
theorem zd_L_worth_19 : decode zc_L_worth 19 = .ok (.iconst 1, 1) := by decide +kernel
theorem zd_L_worth_20 : decode zc_L_worth 20 = .ok (.ireturn, 1) := by decide +kernel
theorem zd_L_worth_21 : decode zc_L_worth 21 = .ok (.astore 6, 2) := by decide +kernel
theorem zd_L_worth_23 : decode zc_L_worth 23 = .ok (.iconst 2, 1) := by decide +kernel
theorem zd_L_worth_24 : decode zc_L_worth 24 = .ok (.ireturn, 1) := by decide +kernel
theorem zd_L_worth_25 : decode zc_L_worth 25 = .ok (.astore 6, 2) := by decide +kernel
theorem zd_L_worth_27 : decode zc_L_worth 27 = .ok (.iconst 3, 1) := by decide +kernel
theorem zd_L_worth_28 : decode zc_L_worth 28 = .ok (.ireturn, 1) := by decide +kernel
theorem zd_L_worth_29 : decode zc_L_worth 29 = .ok (.iconst 0, 1) := by decide +kernel
theorem zd_L_worth_30 : decode zc_L_worth 30 = .ok (.ireturn, 1) := by decide +kernel
theorem zd_L_value_0 : decode zc_L_value 0 = .ok (.aload 4, 2) := by decide +kernel
theorem zd_L_value_2 : decode zc_L_value 2 = .ok (.iconst 0, 1) := by decide +kernel
theorem zd_L_value_3 : decode zc_L_value 3 = .ok (.aload_n 0, 1) := by decide +kernel
theorem zd_L_value_4 : decode zc_L_value 4 = .ok (.iload_n 1, 1) := by decide +kernel
theorem zd_L_value_5 : decode zc_L_value 5 = .ok (.iload_n 2, 1) := by decide +kernel
theorem zd_L_value_6 : decode zc_L_value 6 = .ok (.iload_n 3, 1) := by decide +kernel
theorem zd_L_value_7 : decode zc_L_value 7 = .ok (.invokevirtual 86, 3) := by decide +kernel
theorem zd_L_value_10 : decode zc_L_value 10 = .ok (.i2l, 1) := by decide +kernel
theorem zd_L_value_11 : decode zc_L_value 11 = .ok (.lastore, 1) := by decide +kernel
theorem zd_L_value_12 : decode zc_L_value 12 = .ok (.goto 11, 3) := by decide +kernel
theorem zd_L_value_15 : decode zc_L_value 15 = .ok (.astore 5, 2) := by decide +kernel
theorem zd_L_value_17 : decode zc_L_value 17 = .ok (.iconst 1, 1) := by decide +kernel
theorem zd_L_value_18 : decode zc_L_value 18 = .ok (.ireturn, 1) := by decide +kernel
theorem zd_L_value_19 : decode zc_L_value 19 = .ok (.astore 5, 2) := by decide +kernel
theorem zd_L_value_21 : decode zc_L_value 21 = .ok (.iconst 2, 1) := by decide +kernel
theorem zd_L_value_22 : decode zc_L_value 22 = .ok (.ireturn, 1) := by decide +kernel
theorem zd_L_value_23 : decode zc_L_value 23 = .ok (.iconst 0, 1) := by decide +kernel
theorem zd_L_value_24 : decode zc_L_value 24 = .ok (.ireturn, 1) := by decide +kernel
theorem zd_L_chain_0 : decode zc_L_chain 0 = .ok (.aload 4, 2) := by decide +kernel
theorem zd_L_chain_2 : decode zc_L_chain 2 = .ok (.iconst 0, 1) := by decide +kernel
theorem zd_L_chain_3 : decode zc_L_chain 3 = .ok (.aload_n 0, 1) := by decide +kernel
theorem zd_L_chain_4 : decode zc_L_chain 4 = .ok (.iload_n 1, 1) := by decide +kernel
theorem zd_L_chain_5 : decode zc_L_chain 5 = .ok (.iload_n 2, 1) := by decide +kernel
theorem zd_L_chain_6 : decode zc_L_chain 6 = .ok (.iload_n 3, 1) := by decide +kernel
theorem zd_L_chain_7 : decode zc_L_chain 7 = .ok (.invokevirtual 89, 3) := by decide +kernel
theorem zd_L_chain_10 : decode zc_L_chain 10 = .ok (.i2l, 1) := by decide +kernel
theorem zd_L_chain_11 : decode zc_L_chain 11 = .ok (.lastore, 1) := by decide +kernel
theorem zd_L_chain_12 : decode zc_L_chain 12 = .ok (.goto 11, 3) := by decide +kernel
theorem zd_L_chain_15 : decode zc_L_chain 15 = .ok (.astore 5, 2) := by decide +kernel
theorem zd_L_chain_17 : decode zc_L_chain 17 = .ok (.iconst 1, 1) := by decide +kernel
theorem zd_L_chain_18 : decode zc_L_chain 18 = .ok (.ireturn, 1) := by decide +kernel
theorem zd_L_chain_19 : decode zc_L_chain 19 = .ok (.astore 5, 2) := by decide +kernel
theorem zd_L_chain_21 : decode zc_L_chain 21 = .ok (.iconst 2, 1) := by decide +kernel
theorem zd_L_chain_22 : decode zc_L_chain 22 = .ok (.ireturn, 1) := by decide +kernel
theorem zd_L_chain_23 : decode zc_L_chain 23 = .ok (.iconst 0, 1) := by decide +kernel
theorem zd_L_chain_24 : decode zc_L_chain 24 = .ok (.ireturn, 1) := by decide +kernel
