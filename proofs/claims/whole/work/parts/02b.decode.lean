theorem dX1_init_0 : decode cX1_init 0 = .ok (.aload_n 0, 1) := by decide +kernel
theorem dX1_init_1 : decode cX1_init 1 = .ok (.invokespecial 3, 3) := by decide +kernel
theorem dX1_init_4 : decode cX1_init 4 = .ok (.aload_n 0, 1) := by decide +kernel
theorem dX1_init_5 : decode cX1_init 5 = .ok (.aload_n 1, 1) := by decide +kernel
theorem dX1_init_6 : decode cX1_init 6 = .ok (.putfield 9, 3) := by decide +kernel
theorem dX1_init_9 : decode cX1_init 9 = .ok (.aload_n 0, 1) := by decide +kernel
theorem dX1_init_10 : decode cX1_init 10 = .ok (.aload_n 2, 1) := by decide +kernel
theorem dX1_init_11 : decode cX1_init 11 = .ok (.putfield 15, 3) := by decide +kernel
theorem dX1_init_14 : decode cX1_init 14 = .ok (.aload_n 0, 1) := by decide +kernel
theorem dX1_init_15 : decode cX1_init 15 = .ok (.bipush 32, 2) := by decide +kernel
theorem dX1_init_17 : decode cX1_init 17 = .ok (.anewarray 19, 3) := by decide +kernel
theorem dX1_init_20 : decode cX1_init 20 = .ok (.putfield 21, 3) := by decide +kernel
theorem dX1_init_23 : decode cX1_init 23 = .ok (.iconst 0, 1) := by decide +kernel
theorem dX1_init_24 : decode cX1_init 24 = .ok (.istore_n 3, 1) := by decide +kernel
theorem dX1_init_25 : decode cX1_init 25 = .ok (.iload_n 3, 1) := by decide +kernel
theorem dX1_init_26 : decode cX1_init 26 = .ok (.bipush 32, 2) := by decide +kernel
theorem dX1_init_28 : decode cX1_init 28 = .ok (.if_icmp .ge 24, 3) := by decide +kernel
theorem dX1_init_31 : decode cX1_init 31 = .ok (.aload_n 0, 1) := by decide +kernel
theorem dX1_init_32 : decode cX1_init 32 = .ok (.getfield 21, 3) := by decide +kernel
theorem dX1_init_35 : decode cX1_init 35 = .ok (.iload_n 3, 1) := by decide +kernel
theorem dX1_init_36 : decode cX1_init 36 = .ok (.new 19, 3) := by decide +kernel
theorem dX1_init_39 : decode cX1_init 39 = .ok (.dup, 1) := by decide +kernel
theorem dX1_init_40 : decode cX1_init 40 = .ok (.bipush 8, 2) := by decide +kernel
theorem dX1_init_42 : decode cX1_init 42 = .ok (.invokespecial 25, 3) := by decide +kernel
theorem dX1_init_45 : decode cX1_init 45 = .ok (.aastore, 1) := by decide +kernel
theorem dX1_init_46 : decode cX1_init 46 = .ok (.iinc 3 1, 3) := by decide +kernel
theorem dX1_init_49 : decode cX1_init 49 = .ok (.goto (-24), 3) := by decide +kernel
theorem dX1_init_52 : decode cX1_init 52 = .ok (.aload_n 0, 1) := by decide +kernel
theorem dX1_init_53 : decode cX1_init 53 = .ok (.bipush 8, 2) := by decide +kernel
theorem dX1_init_55 : decode cX1_init 55 = .ok (.newarray .int, 2) := by decide +kernel
theorem dX1_init_57 : decode cX1_init 57 = .ok (.putfield 28, 3) := by decide +kernel
theorem dX1_init_60 : decode cX1_init 60 = .ok (.aload_n 0, 1) := by decide +kernel
theorem dX1_init_61 : decode cX1_init 61 = .ok (.new 19, 3) := by decide +kernel
theorem dX1_init_64 : decode cX1_init 64 = .ok (.dup, 1) := by decide +kernel
theorem dX1_init_65 : decode cX1_init 65 = .ok (.bipush 8, 2) := by decide +kernel
theorem dX1_init_67 : decode cX1_init 67 = .ok (.invokespecial 25, 3) := by decide +kernel
theorem dX1_init_70 : decode cX1_init 70 = .ok (.putfield 31, 3) := by decide +kernel
theorem dX1_init_73 : decode cX1_init 73 = .ok (.aload_n 0, 1) := by decide +kernel
theorem dX1_init_74 : decode cX1_init 74 = .ok (.new 19, 3) := by decide +kernel
theorem dX1_init_77 : decode cX1_init 77 = .ok (.dup, 1) := by decide +kernel
theorem dX1_init_78 : decode cX1_init 78 = .ok (.bipush 32, 2) := by decide +kernel
theorem dX1_init_80 : decode cX1_init 80 = .ok (.invokespecial 25, 3) := by decide +kernel
theorem dX1_init_83 : decode cX1_init 83 = .ok (.putfield 35, 3) := by decide +kernel
theorem dX1_init_86 : decode cX1_init 86 = .ok (.aload_n 0, 1) := by decide +kernel
theorem dX1_init_87 : decode cX1_init 87 = .ok (.new 19, 3) := by decide +kernel
theorem dX1_init_90 : decode cX1_init 90 = .ok (.dup, 1) := by decide +kernel
theorem dX1_init_91 : decode cX1_init 91 = .ok (.sipush 264, 3) := by decide +kernel
theorem dX1_init_94 : decode cX1_init 94 = .ok (.invokespecial 25, 3) := by decide +kernel
theorem dX1_init_97 : decode cX1_init 97 = .ok (.putfield 38, 3) := by decide +kernel
theorem dX1_init_100 : decode cX1_init 100 = .ok (.return_, 1) := by decide +kernel
theorem dX1_find_0 : decode cX1_find 0 = .ok (.aload_n 0, 1) := by decide +kernel
theorem dX1_find_1 : decode cX1_find 1 = .ok (.getfield 31, 3) := by decide +kernel
theorem dX1_find_4 : decode cX1_find 4 = .ok (.lload_n 1, 1) := by decide +kernel
theorem dX1_find_5 : decode cX1_find 5 = .ok (.invokevirtual 41, 3) := by decide +kernel
theorem dX1_find_8 : decode cX1_find 8 = .ok (.astore_n 3, 1) := by decide +kernel
theorem dX1_find_9 : decode cX1_find 9 = .ok (.iconst 0, 1) := by decide +kernel
theorem dX1_find_10 : decode cX1_find 10 = .ok (.istore 4, 2) := by decide +kernel
theorem dX1_find_12 : decode cX1_find 12 = .ok (.iload 4, 2) := by decide +kernel
theorem dX1_find_14 : decode cX1_find 14 = .ok (.bipush 32, 2) := by decide +kernel
theorem dX1_find_16 : decode cX1_find 16 = .ok (.if_icmp .ge 25, 3) := by decide +kernel
theorem dX1_find_19 : decode cX1_find 19 = .ok (.aload_n 3, 1) := by decide +kernel
theorem dX1_find_20 : decode cX1_find 20 = .ok (.ifnonnull 21, 3) := by decide +kernel
theorem dX1_find_23 : decode cX1_find 23 = .ok (.aload_n 0, 1) := by decide +kernel
theorem dX1_find_24 : decode cX1_find 24 = .ok (.getfield 21, 3) := by decide +kernel
theorem dX1_find_27 : decode cX1_find 27 = .ok (.iload 4, 2) := by decide +kernel
theorem dX1_find_29 : decode cX1_find 29 = .ok (.aaload, 1) := by decide +kernel
theorem dX1_find_30 : decode cX1_find 30 = .ok (.lload_n 1, 1) := by decide +kernel
theorem dX1_find_31 : decode cX1_find 31 = .ok (.invokevirtual 41, 3) := by decide +kernel
theorem dX1_find_34 : decode cX1_find 34 = .ok (.astore_n 3, 1) := by decide +kernel
theorem dX1_find_35 : decode cX1_find 35 = .ok (.iinc 4 1, 3) := by decide +kernel
theorem dX1_find_38 : decode cX1_find 38 = .ok (.goto (-26), 3) := by decide +kernel
theorem dX1_find_41 : decode cX1_find 41 = .ok (.aload_n 3, 1) := by decide +kernel
theorem dX1_find_42 : decode cX1_find 42 = .ok (.areturn, 1) := by decide +kernel
theorem dX1_kill_0 : decode cX1_kill 0 = .ok (.aload_n 1, 1) := by decide +kernel
theorem dX1_kill_1 : decode cX1_kill 1 = .ok (.ifnull 10, 3) := by decide +kernel
theorem dX1_kill_4 : decode cX1_kill 4 = .ok (.aload_n 1, 1) := by decide +kernel
theorem dX1_kill_5 : decode cX1_kill 5 = .ok (.getfield 45, 3) := by decide +kernel
theorem dX1_kill_8 : decode cX1_kill 8 = .ok (.ifCond .ne 5, 3) := by decide +kernel
theorem dX1_kill_11 : decode cX1_kill 11 = .ok (.iconst 0, 1) := by decide +kernel
theorem dX1_kill_12 : decode cX1_kill 12 = .ok (.ireturn, 1) := by decide +kernel
theorem dX1_kill_13 : decode cX1_kill 13 = .ok (.aload_n 1, 1) := by decide +kernel
theorem dX1_kill_14 : decode cX1_kill 14 = .ok (.iconst 0, 1) := by decide +kernel
theorem dX1_kill_15 : decode cX1_kill 15 = .ok (.putfield 45, 3) := by decide +kernel
theorem dX1_kill_18 : decode cX1_kill 18 = .ok (.aload_n 0, 1) := by decide +kernel
theorem dX1_kill_19 : decode cX1_kill 19 = .ok (.dup, 1) := by decide +kernel
theorem dX1_kill_20 : decode cX1_kill 20 = .ok (.getfield 51, 3) := by decide +kernel
theorem dX1_kill_23 : decode cX1_kill 23 = .ok (.iconst 1, 1) := by decide +kernel
theorem dX1_kill_24 : decode cX1_kill 24 = .ok (.isub, 1) := by decide +kernel
theorem dX1_kill_25 : decode cX1_kill 25 = .ok (.putfield 51, 3) := by decide +kernel
theorem dX1_kill_28 : decode cX1_kill 28 = .ok (.iconst 1, 1) := by decide +kernel
theorem dX1_kill_29 : decode cX1_kill 29 = .ok (.ireturn, 1) := by decide +kernel
theorem dX1_append_0 : decode cX1_append 0 = .ok (.iconst 0, 1) := by decide +kernel
theorem dX1_append_1 : decode cX1_append 1 = .ok (.istore_n 2, 1) := by decide +kernel
theorem dX1_append_2 : decode cX1_append 2 = .ok (.iload_n 2, 1) := by decide +kernel
theorem dX1_append_3 : decode cX1_append 3 = .ok (.sipush 1000, 3) := by decide +kernel
theorem dX1_append_6 : decode cX1_append 6 = .ok (.if_icmp .ge 64, 3) := by decide +kernel
theorem dX1_append_9 : decode cX1_append 9 = .ok (.aload_n 0, 1) := by decide +kernel
theorem dX1_append_10 : decode cX1_append 10 = .ok (.getfield 31, 3) := by decide +kernel
theorem dX1_append_13 : decode cX1_append 13 = .ok (.aload_n 1, 1) := by decide +kernel
theorem dX1_append_14 : decode cX1_append 14 = .ok (.invokevirtual 55, 3) := by decide +kernel
theorem dX1_append_17 : decode cX1_append 17 = .ok (.ifCond .ne 53, 3) := by decide +kernel
theorem dX1_append_20 : decode cX1_append 20 = .ok (.aload_n 0, 1) := by decide +kernel
theorem dX1_append_21 : decode cX1_append 21 = .ok (.invokevirtual 59, 3) := by decide +kernel
theorem dX1_append_24 : decode cX1_append 24 = .ok (.aload_n 0, 1) := by decide +kernel
theorem dX1_append_25 : decode cX1_append 25 = .ok (.getfield 28, 3) := by decide +kernel
theorem dX1_append_28 : decode cX1_append 28 = .ok (.aload_n 0, 1) := by decide +kernel
theorem dX1_append_29 : decode cX1_append 29 = .ok (.getfield 62, 3) := by decide +kernel
theorem dX1_append_32 : decode cX1_append 32 = .ok (.iaload, 1) := by decide +kernel
theorem dX1_append_33 : decode cX1_append 33 = .ok (.iconst 4, 1) := by decide +kernel
theorem dX1_append_34 : decode cX1_append 34 = .ok (.if_icmp .lt 30, 3) := by decide +kernel
theorem dX1_append_37 : decode cX1_append 37 = .ok (.aload_n 0, 1) := by decide +kernel
theorem dX1_append_38 : decode cX1_append 38 = .ok (.getfield 15, 3) := by decide +kernel
theorem dX1_append_41 : decode cX1_append 41 = .ok (.iconst 0, 1) := by decide +kernel
theorem dX1_append_42 : decode cX1_append 42 = .ok (.dup2, 1) := by decide +kernel
theorem dX1_append_43 : decode cX1_append 43 = .ok (.iaload, 1) := by decide +kernel
theorem dX1_append_44 : decode cX1_append 44 = .ok (.iconst 1, 1) := by decide +kernel
theorem dX1_append_45 : decode cX1_append 45 = .ok (.iadd, 1) := by decide +kernel
theorem dX1_append_46 : decode cX1_append 46 = .ok (.iastore, 1) := by decide +kernel
theorem dX1_append_47 : decode cX1_append 47 = .ok (.aload_n 0, 1) := by decide +kernel
theorem dX1_append_48 : decode cX1_append 48 = .ok (.aload_n 0, 1) := by decide +kernel
theorem dX1_append_49 : decode cX1_append 49 = .ok (.getfield 62, 3) := by decide +kernel
theorem dX1_append_52 : decode cX1_append 52 = .ok (.iconst 1, 1) := by decide +kernel
theorem dX1_append_53 : decode cX1_append 53 = .ok (.iadd, 1) := by decide +kernel
theorem dX1_append_54 : decode cX1_append 54 = .ok (.bipush 8, 2) := by decide +kernel
theorem dX1_append_56 : decode cX1_append 56 = .ok (.irem, 1) := by decide +kernel
theorem dX1_append_57 : decode cX1_append 57 = .ok (.putfield 62, 3) := by decide +kernel
theorem dX1_append_60 : decode cX1_append 60 = .ok (.aload_n 0, 1) := by decide +kernel
theorem dX1_append_61 : decode cX1_append 61 = .ok (.invokevirtual 65, 3) := by decide +kernel
theorem dX1_append_64 : decode cX1_append 64 = .ok (.iinc 2 1, 3) := by decide +kernel
theorem dX1_append_67 : decode cX1_append 67 = .ok (.goto (-65), 3) := by decide +kernel
theorem dX1_append_70 : decode cX1_append 70 = .ok (.aload_n 1, 1) := by decide +kernel
theorem dX1_append_71 : decode cX1_append 71 = .ok (.iconst 1, 1) := by decide +kernel
theorem dX1_append_72 : decode cX1_append 72 = .ok (.putfield 45, 3) := by decide +kernel
theorem dX1_append_75 : decode cX1_append 75 = .ok (.aload_n 0, 1) := by decide +kernel
theorem dX1_append_76 : decode cX1_append 76 = .ok (.dup, 1) := by decide +kernel
theorem dX1_append_77 : decode cX1_append 77 = .ok (.getfield 51, 3) := by decide +kernel
theorem dX1_append_80 : decode cX1_append 80 = .ok (.iconst 1, 1) := by decide +kernel
theorem dX1_append_81 : decode cX1_append 81 = .ok (.iadd, 1) := by decide +kernel
theorem dX1_append_82 : decode cX1_append 82 = .ok (.putfield 51, 3) := by decide +kernel
theorem dX1_append_85 : decode cX1_append 85 = .ok (.aload_n 0, 1) := by decide +kernel
theorem dX1_append_86 : decode cX1_append 86 = .ok (.getfield 31, 3) := by decide +kernel
theorem dX1_append_89 : decode cX1_append 89 = .ok (.aload_n 1, 1) := by decide +kernel
theorem dX1_append_90 : decode cX1_append 90 = .ok (.invokevirtual 68, 3) := by decide +kernel
theorem dX1_append_93 : decode cX1_append 93 = .ok (.return_, 1) := by decide +kernel
theorem dX1_writeOpenPage_0 : decode cX1_writeOpenPage 0 = .ok (.aload_n 0, 1) := by decide +kernel
theorem dX1_writeOpenPage_1 : decode cX1_writeOpenPage 1 = .ok (.getfield 28, 3) := by decide +kernel
theorem dX1_writeOpenPage_4 : decode cX1_writeOpenPage 4 = .ok (.aload_n 0, 1) := by decide +kernel
theorem dX1_writeOpenPage_5 : decode cX1_writeOpenPage 5 = .ok (.getfield 62, 3) := by decide +kernel
theorem dX1_writeOpenPage_8 : decode cX1_writeOpenPage 8 = .ok (.iaload, 1) := by decide +kernel
theorem dX1_writeOpenPage_9 : decode cX1_writeOpenPage 9 = .ok (.iconst 4, 1) := by decide +kernel
theorem dX1_writeOpenPage_10 : decode cX1_writeOpenPage 10 = .ok (.if_icmp .ge 65, 3) := by decide +kernel
theorem dX1_writeOpenPage_13 : decode cX1_writeOpenPage 13 = .ok (.aload_n 0, 1) := by decide +kernel
theorem dX1_writeOpenPage_14 : decode cX1_writeOpenPage 14 = .ok (.getfield 62, 3) := by decide +kernel
theorem dX1_writeOpenPage_17 : decode cX1_writeOpenPage 17 = .ok (.iconst 4, 1) := by decide +kernel
theorem dX1_writeOpenPage_18 : decode cX1_writeOpenPage 18 = .ok (.imul, 1) := by decide +kernel
theorem dX1_writeOpenPage_19 : decode cX1_writeOpenPage 19 = .ok (.aload_n 0, 1) := by decide +kernel
theorem dX1_writeOpenPage_20 : decode cX1_writeOpenPage 20 = .ok (.getfield 28, 3) := by decide +kernel
theorem dX1_writeOpenPage_23 : decode cX1_writeOpenPage 23 = .ok (.aload_n 0, 1) := by decide +kernel
theorem dX1_writeOpenPage_24 : decode cX1_writeOpenPage 24 = .ok (.getfield 62, 3) := by decide +kernel
theorem dX1_writeOpenPage_27 : decode cX1_writeOpenPage 27 = .ok (.iaload, 1) := by decide +kernel
theorem dX1_writeOpenPage_28 : decode cX1_writeOpenPage 28 = .ok (.iadd, 1) := by decide +kernel
theorem dX1_writeOpenPage_29 : decode cX1_writeOpenPage 29 = .ok (.istore_n 1, 1) := by decide +kernel
theorem dX1_writeOpenPage_30 : decode cX1_writeOpenPage 30 = .ok (.aload_n 0, 1) := by decide +kernel
theorem dX1_writeOpenPage_31 : decode cX1_writeOpenPage 31 = .ok (.getfield 21, 3) := by decide +kernel
theorem dX1_writeOpenPage_34 : decode cX1_writeOpenPage 34 = .ok (.iload_n 1, 1) := by decide +kernel
theorem dX1_writeOpenPage_35 : decode cX1_writeOpenPage 35 = .ok (.aaload, 1) := by decide +kernel
theorem dX1_writeOpenPage_36 : decode cX1_writeOpenPage 36 = .ok (.astore_n 2, 1) := by decide +kernel
theorem dX1_writeOpenPage_37 : decode cX1_writeOpenPage 37 = .ok (.aload_n 0, 1) := by decide +kernel
theorem dX1_writeOpenPage_38 : decode cX1_writeOpenPage 38 = .ok (.getfield 21, 3) := by decide +kernel
theorem dX1_writeOpenPage_41 : decode cX1_writeOpenPage 41 = .ok (.iload_n 1, 1) := by decide +kernel
theorem dX1_writeOpenPage_42 : decode cX1_writeOpenPage 42 = .ok (.aload_n 0, 1) := by decide +kernel
theorem dX1_writeOpenPage_43 : decode cX1_writeOpenPage 43 = .ok (.getfield 31, 3) := by decide +kernel
theorem dX1_writeOpenPage_46 : decode cX1_writeOpenPage 46 = .ok (.aastore, 1) := by decide +kernel
theorem dX1_writeOpenPage_47 : decode cX1_writeOpenPage 47 = .ok (.aload_n 0, 1) := by decide +kernel
theorem dX1_writeOpenPage_48 : decode cX1_writeOpenPage 48 = .ok (.aload_n 2, 1) := by decide +kernel
theorem dX1_writeOpenPage_49 : decode cX1_writeOpenPage 49 = .ok (.putfield 31, 3) := by decide +kernel
theorem dX1_writeOpenPage_52 : decode cX1_writeOpenPage 52 = .ok (.aload_n 0, 1) := by decide +kernel
theorem dX1_writeOpenPage_53 : decode cX1_writeOpenPage 53 = .ok (.getfield 28, 3) := by decide +kernel
theorem dX1_writeOpenPage_56 : decode cX1_writeOpenPage 56 = .ok (.aload_n 0, 1) := by decide +kernel
theorem dX1_writeOpenPage_57 : decode cX1_writeOpenPage 57 = .ok (.getfield 62, 3) := by decide +kernel
theorem dX1_writeOpenPage_60 : decode cX1_writeOpenPage 60 = .ok (.dup2, 1) := by decide +kernel
theorem dX1_writeOpenPage_61 : decode cX1_writeOpenPage 61 = .ok (.iaload, 1) := by decide +kernel
theorem dX1_writeOpenPage_62 : decode cX1_writeOpenPage 62 = .ok (.iconst 1, 1) := by decide +kernel
theorem dX1_writeOpenPage_63 : decode cX1_writeOpenPage 63 = .ok (.iadd, 1) := by decide +kernel
theorem dX1_writeOpenPage_64 : decode cX1_writeOpenPage 64 = .ok (.iastore, 1) := by decide +kernel
theorem dX1_writeOpenPage_65 : decode cX1_writeOpenPage 65 = .ok (.aload_n 0, 1) := by decide +kernel
theorem dX1_writeOpenPage_66 : decode cX1_writeOpenPage 66 = .ok (.getfield 15, 3) := by decide +kernel
theorem dX1_writeOpenPage_69 : decode cX1_writeOpenPage 69 = .ok (.iconst 1, 1) := by decide +kernel
theorem dX1_writeOpenPage_70 : decode cX1_writeOpenPage 70 = .ok (.dup2, 1) := by decide +kernel
theorem dX1_writeOpenPage_71 : decode cX1_writeOpenPage 71 = .ok (.iaload, 1) := by decide +kernel
theorem dX1_writeOpenPage_72 : decode cX1_writeOpenPage 72 = .ok (.iconst 1, 1) := by decide +kernel
theorem dX1_writeOpenPage_73 : decode cX1_writeOpenPage 73 = .ok (.iadd, 1) := by decide +kernel
theorem dX1_writeOpenPage_74 : decode cX1_writeOpenPage 74 = .ok (.iastore, 1) := by decide +kernel
theorem dX1_writeOpenPage_75 : decode cX1_writeOpenPage 75 = .ok (.aload_n 0, 1) := by decide +kernel
theorem dX1_writeOpenPage_76 : decode cX1_writeOpenPage 76 = .ok (.getfield 31, 3) := by decide +kernel
theorem dX1_writeOpenPage_79 : decode cX1_writeOpenPage 79 = .ok (.invokevirtual 72, 3) := by decide +kernel
theorem dX1_writeOpenPage_82 : decode cX1_writeOpenPage 82 = .ok (.return_, 1) := by decide +kernel
theorem dX1_emptyHead_0 : decode cX1_emptyHead 0 = .ok (.aload_n 0, 1) := by decide +kernel
theorem dX1_emptyHead_1 : decode cX1_emptyHead 1 = .ok (.getfield 35, 3) := by decide +kernel
theorem dX1_emptyHead_4 : decode cX1_emptyHead 4 = .ok (.invokevirtual 72, 3) := by decide +kernel
theorem dX1_emptyHead_7 : decode cX1_emptyHead 7 = .ok (.iconst 0, 1) := by decide +kernel
theorem dX1_emptyHead_8 : decode cX1_emptyHead 8 = .ok (.istore_n 1, 1) := by decide +kernel
theorem dX1_emptyHead_9 : decode cX1_emptyHead 9 = .ok (.iload_n 1, 1) := by decide +kernel
theorem dX1_emptyHead_10 : decode cX1_emptyHead 10 = .ok (.iconst 4, 1) := by decide +kernel
theorem dX1_emptyHead_11 : decode cX1_emptyHead 11 = .ok (.if_icmp .ge 35, 3) := by decide +kernel
theorem dX1_emptyHead_14 : decode cX1_emptyHead 14 = .ok (.aload_n 0, 1) := by decide +kernel
theorem dX1_emptyHead_15 : decode cX1_emptyHead 15 = .ok (.getfield 21, 3) := by decide +kernel
theorem dX1_emptyHead_18 : decode cX1_emptyHead 18 = .ok (.aload_n 0, 1) := by decide +kernel
theorem dX1_emptyHead_19 : decode cX1_emptyHead 19 = .ok (.getfield 62, 3) := by decide +kernel
theorem dX1_emptyHead_22 : decode cX1_emptyHead 22 = .ok (.iconst 4, 1) := by decide +kernel
theorem dX1_emptyHead_23 : decode cX1_emptyHead 23 = .ok (.imul, 1) := by decide +kernel
theorem dX1_emptyHead_24 : decode cX1_emptyHead 24 = .ok (.iload_n 1, 1) := by decide +kernel
theorem dX1_emptyHead_25 : decode cX1_emptyHead 25 = .ok (.iadd, 1) := by decide +kernel
theorem dX1_emptyHead_26 : decode cX1_emptyHead 26 = .ok (.aaload, 1) := by decide +kernel
theorem dX1_emptyHead_27 : decode cX1_emptyHead 27 = .ok (.astore_n 2, 1) := by decide +kernel
theorem dX1_emptyHead_28 : decode cX1_emptyHead 28 = .ok (.aload_n 0, 1) := by decide +kernel
theorem dX1_emptyHead_29 : decode cX1_emptyHead 29 = .ok (.getfield 35, 3) := by decide +kernel
theorem dX1_emptyHead_32 : decode cX1_emptyHead 32 = .ok (.aload_n 2, 1) := by decide +kernel
theorem dX1_emptyHead_33 : decode cX1_emptyHead 33 = .ok (.invokevirtual 75, 3) := by decide +kernel
theorem dX1_emptyHead_36 : decode cX1_emptyHead 36 = .ok (.aload_n 2, 1) := by decide +kernel
theorem dX1_emptyHead_37 : decode cX1_emptyHead 37 = .ok (.invokevirtual 72, 3) := by decide +kernel
theorem dX1_emptyHead_40 : decode cX1_emptyHead 40 = .ok (.iinc 1 1, 3) := by decide +kernel
theorem dX1_emptyHead_43 : decode cX1_emptyHead 43 = .ok (.goto (-34), 3) := by decide +kernel
theorem dX1_emptyHead_46 : decode cX1_emptyHead 46 = .ok (.aload_n 0, 1) := by decide +kernel
theorem dX1_emptyHead_47 : decode cX1_emptyHead 47 = .ok (.getfield 28, 3) := by decide +kernel
theorem dX1_emptyHead_50 : decode cX1_emptyHead 50 = .ok (.aload_n 0, 1) := by decide +kernel
theorem dX1_emptyHead_51 : decode cX1_emptyHead 51 = .ok (.getfield 62, 3) := by decide +kernel
theorem dX1_emptyHead_54 : decode cX1_emptyHead 54 = .ok (.iconst 0, 1) := by decide +kernel
theorem dX1_emptyHead_55 : decode cX1_emptyHead 55 = .ok (.iastore, 1) := by decide +kernel
theorem dX1_emptyHead_56 : decode cX1_emptyHead 56 = .ok (.iconst 0, 1) := by decide +kernel
theorem dX1_emptyHead_57 : decode cX1_emptyHead 57 = .ok (.istore_n 1, 1) := by decide +kernel
theorem dX1_emptyHead_58 : decode cX1_emptyHead 58 = .ok (.iload_n 1, 1) := by decide +kernel
theorem dX1_emptyHead_59 : decode cX1_emptyHead 59 = .ok (.aload_n 0, 1) := by decide +kernel
theorem dX1_emptyHead_60 : decode cX1_emptyHead 60 = .ok (.getfield 35, 3) := by decide +kernel
theorem dX1_emptyHead_63 : decode cX1_emptyHead 63 = .ok (.getfield 79, 3) := by decide +kernel
theorem dX1_emptyHead_66 : decode cX1_emptyHead 66 = .ok (.if_icmp .ge 14, 3) := by decide +kernel
theorem dX1_emptyHead_69 : decode cX1_emptyHead 69 = .ok (.aload_n 0, 1) := by decide +kernel
theorem dX1_emptyHead_70 : decode cX1_emptyHead 70 = .ok (.iload_n 1, 1) := by decide +kernel
theorem dX1_emptyHead_71 : decode cX1_emptyHead 71 = .ok (.invokevirtual 82, 3) := by decide +kernel
theorem dX1_emptyHead_74 : decode cX1_emptyHead 74 = .ok (.iinc 1 1, 3) := by decide +kernel
theorem dX1_emptyHead_77 : decode cX1_emptyHead 77 = .ok (.goto (-19), 3) := by decide +kernel
theorem dX1_emptyHead_80 : decode cX1_emptyHead 80 = .ok (.aload_n 0, 1) := by decide +kernel
theorem dX1_emptyHead_81 : decode cX1_emptyHead 81 = .ok (.getfield 35, 3) := by decide +kernel
theorem dX1_emptyHead_84 : decode cX1_emptyHead 84 = .ok (.invokevirtual 72, 3) := by decide +kernel
theorem dX1_emptyHead_87 : decode cX1_emptyHead 87 = .ok (.return_, 1) := by decide +kernel
theorem dX1_settle_0 : decode cX1_settle 0 = .ok (.aload_n 0, 1) := by decide +kernel
theorem dX1_settle_1 : decode cX1_settle 1 = .ok (.getfield 35, 3) := by decide +kernel
theorem dX1_settle_4 : decode cX1_settle 4 = .ok (.iload_n 1, 1) := by decide +kernel
theorem dX1_settle_5 : decode cX1_settle 5 = .ok (.invokevirtual 85, 3) := by decide +kernel
theorem dX1_settle_8 : decode cX1_settle 8 = .ok (.astore_n 2, 1) := by decide +kernel
theorem dX1_settle_9 : decode cX1_settle 9 = .ok (.aload_n 2, 1) := by decide +kernel
theorem dX1_settle_10 : decode cX1_settle 10 = .ok (.ifnull 10, 3) := by decide +kernel
theorem dX1_settle_13 : decode cX1_settle 13 = .ok (.aload_n 2, 1) := by decide +kernel
theorem dX1_settle_14 : decode cX1_settle 14 = .ok (.getfield 45, 3) := by decide +kernel
theorem dX1_settle_17 : decode cX1_settle 17 = .ok (.ifCond .ne 4, 3) := by decide +kernel
theorem dX1_settle_20 : decode cX1_settle 20 = .ok (.return_, 1) := by decide +kernel
theorem dX1_settle_21 : decode cX1_settle 21 = .ok (.aload_n 0, 1) := by decide +kernel
theorem dX1_settle_22 : decode cX1_settle 22 = .ok (.aload_n 2, 1) := by decide +kernel
theorem dX1_settle_23 : decode cX1_settle 23 = .ok (.getfield 89, 3) := by decide +kernel
theorem dX1_settle_26 : decode cX1_settle 26 = .ok (.iload_n 1, 1) := by decide +kernel
theorem dX1_settle_27 : decode cX1_settle 27 = .ok (.invokevirtual 92, 3) := by decide +kernel
theorem dX1_settle_30 : decode cX1_settle 30 = .ok (.aload_n 0, 1) := by decide +kernel
theorem dX1_settle_31 : decode cX1_settle 31 = .ok (.getfield 38, 3) := by decide +kernel
theorem dX1_settle_34 : decode cX1_settle 34 = .ok (.getfield 79, 3) := by decide +kernel
theorem dX1_settle_37 : decode cX1_settle 37 = .ok (.iconst 2, 1) := by decide +kernel
theorem dX1_settle_38 : decode cX1_settle 38 = .ok (.if_icmp .lt 25, 3) := by decide +kernel
theorem dX1_settle_41 : decode cX1_settle 41 = .ok (.aload_n 0, 1) := by decide +kernel
theorem dX1_settle_42 : decode cX1_settle 42 = .ok (.invokevirtual 96, 3) := by decide +kernel
theorem dX1_settle_45 : decode cX1_settle 45 = .ok (.aload_n 0, 1) := by decide +kernel
theorem dX1_settle_46 : decode cX1_settle 46 = .ok (.getfield 9, 3) := by decide +kernel
theorem dX1_settle_49 : decode cX1_settle 49 = .ok (.aload_n 2, 1) := by decide +kernel
theorem dX1_settle_50 : decode cX1_settle 50 = .ok (.getfield 89, 3) := by decide +kernel
theorem dX1_settle_53 : decode cX1_settle 53 = .ok (.aload_n 0, 1) := by decide +kernel
theorem dX1_settle_54 : decode cX1_settle 54 = .ok (.getfield 38, 3) := by decide +kernel
theorem dX1_settle_57 : decode cX1_settle 57 = .ok (.invokevirtual 99, 3) := by decide +kernel
theorem dX1_settle_60 : decode cX1_settle 60 = .ok (.goto 48, 3) := by decide +kernel
theorem dX1_settle_63 : decode cX1_settle 63 = .ok (.aload_n 2, 1) := by decide +kernel
theorem dX1_settle_64 : decode cX1_settle 64 = .ok (.getfield 105, 3) := by decide +kernel
theorem dX1_settle_67 : decode cX1_settle 67 = .ok (.ifCond .eq 11, 3) := by decide +kernel
theorem dX1_settle_70 : decode cX1_settle 70 = .ok (.aload_n 0, 1) := by decide +kernel
theorem dX1_settle_71 : decode cX1_settle 71 = .ok (.aload_n 2, 1) := by decide +kernel
theorem dX1_settle_72 : decode cX1_settle 72 = .ok (.invokevirtual 108, 3) := by decide +kernel
theorem dX1_settle_75 : decode cX1_settle 75 = .ok (.goto 33, 3) := by decide +kernel
theorem dX1_settle_78 : decode cX1_settle 78 = .ok (.aload_n 0, 1) := by decide +kernel
theorem dX1_settle_79 : decode cX1_settle 79 = .ok (.aload_n 2, 1) := by decide +kernel
theorem dX1_settle_80 : decode cX1_settle 80 = .ok (.invokevirtual 111, 3) := by decide +kernel
theorem dX1_settle_83 : decode cX1_settle 83 = .ok (.pop, 1) := by decide +kernel
theorem dX1_settle_84 : decode cX1_settle 84 = .ok (.aload_n 0, 1) := by decide +kernel
theorem dX1_settle_85 : decode cX1_settle 85 = .ok (.getfield 15, 3) := by decide +kernel
theorem dX1_settle_88 : decode cX1_settle 88 = .ok (.bipush 9, 2) := by decide +kernel
theorem dX1_settle_90 : decode cX1_settle 90 = .ok (.dup2, 1) := by decide +kernel
theorem dX1_settle_91 : decode cX1_settle 91 = .ok (.iaload, 1) := by decide +kernel
theorem dX1_settle_92 : decode cX1_settle 92 = .ok (.iconst 1, 1) := by decide +kernel
theorem dX1_settle_93 : decode cX1_settle 93 = .ok (.iadd, 1) := by decide +kernel
theorem dX1_settle_94 : decode cX1_settle 94 = .ok (.iastore, 1) := by decide +kernel
theorem dX1_settle_95 : decode cX1_settle 95 = .ok (.aload_n 0, 1) := by decide +kernel
theorem dX1_settle_96 : decode cX1_settle 96 = .ok (.getfield 9, 3) := by decide +kernel
theorem dX1_settle_99 : decode cX1_settle 99 = .ok (.aload_n 2, 1) := by decide +kernel
theorem dX1_settle_100 : decode cX1_settle 100 = .ok (.getfield 114, 3) := by decide +kernel
theorem dX1_settle_103 : decode cX1_settle 103 = .ok (.iconst 3, 1) := by decide +kernel
theorem dX1_settle_104 : decode cX1_settle 104 = .ok (.invokevirtual 118, 3) := by decide +kernel
theorem dX1_settle_107 : decode cX1_settle 107 = .ok (.pop, 1) := by decide +kernel
theorem dX1_settle_108 : decode cX1_settle 108 = .ok (.return_, 1) := by decide +kernel
theorem dX1_gather_0 : decode cX1_gather 0 = .ok (.aload_n 0, 1) := by decide +kernel
theorem dX1_gather_1 : decode cX1_gather 1 = .ok (.getfield 38, 3) := by decide +kernel
theorem dX1_gather_4 : decode cX1_gather 4 = .ok (.invokevirtual 72, 3) := by decide +kernel
theorem dX1_gather_7 : decode cX1_gather 7 = .ok (.aload_n 0, 1) := by decide +kernel
theorem dX1_gather_8 : decode cX1_gather 8 = .ok (.getfield 38, 3) := by decide +kernel
theorem dX1_gather_11 : decode cX1_gather 11 = .ok (.aload_n 0, 1) := by decide +kernel
theorem dX1_gather_12 : decode cX1_gather 12 = .ok (.getfield 35, 3) := by decide +kernel
theorem dX1_gather_15 : decode cX1_gather 15 = .ok (.iload_n 2, 1) := by decide +kernel
theorem dX1_gather_16 : decode cX1_gather 16 = .ok (.iload_n 1, 1) := by decide +kernel
theorem dX1_gather_17 : decode cX1_gather 17 = .ok (.invokevirtual 122, 3) := by decide +kernel
theorem dX1_gather_20 : decode cX1_gather 20 = .ok (.aload_n 0, 1) := by decide +kernel
theorem dX1_gather_21 : decode cX1_gather 21 = .ok (.getfield 62, 3) := by decide +kernel
theorem dX1_gather_24 : decode cX1_gather 24 = .ok (.iconst 1, 1) := by decide +kernel
theorem dX1_gather_25 : decode cX1_gather 25 = .ok (.iadd, 1) := by decide +kernel
theorem dX1_gather_26 : decode cX1_gather 26 = .ok (.iconst 4, 1) := by decide +kernel
theorem dX1_gather_27 : decode cX1_gather 27 = .ok (.imul, 1) := by decide +kernel
theorem dX1_gather_28 : decode cX1_gather 28 = .ok (.istore_n 3, 1) := by decide +kernel
theorem dX1_gather_29 : decode cX1_gather 29 = .ok (.iconst 0, 1) := by decide +kernel
theorem dX1_gather_30 : decode cX1_gather 30 = .ok (.istore 4, 2) := by decide +kernel
theorem dX1_gather_32 : decode cX1_gather 32 = .ok (.iload 4, 2) := by decide +kernel
theorem dX1_gather_34 : decode cX1_gather 34 = .ok (.bipush 32, 2) := by decide +kernel
theorem dX1_gather_36 : decode cX1_gather 36 = .ok (.if_icmp .ge 30, 3) := by decide +kernel
theorem dX1_gather_39 : decode cX1_gather 39 = .ok (.aload_n 0, 1) := by decide +kernel
theorem dX1_gather_40 : decode cX1_gather 40 = .ok (.getfield 38, 3) := by decide +kernel
theorem dX1_gather_43 : decode cX1_gather 43 = .ok (.aload_n 0, 1) := by decide +kernel
theorem dX1_gather_44 : decode cX1_gather 44 = .ok (.getfield 21, 3) := by decide +kernel
theorem dX1_gather_47 : decode cX1_gather 47 = .ok (.iload_n 3, 1) := by decide +kernel
theorem dX1_gather_48 : decode cX1_gather 48 = .ok (.iload 4, 2) := by decide +kernel
theorem dX1_gather_50 : decode cX1_gather 50 = .ok (.iadd, 1) := by decide +kernel
theorem dX1_gather_51 : decode cX1_gather 51 = .ok (.bipush 32, 2) := by decide +kernel
theorem dX1_gather_53 : decode cX1_gather 53 = .ok (.irem, 1) := by decide +kernel
theorem dX1_gather_54 : decode cX1_gather 54 = .ok (.aaload, 1) := by decide +kernel
theorem dX1_gather_55 : decode cX1_gather 55 = .ok (.iconst 0, 1) := by decide +kernel
theorem dX1_gather_56 : decode cX1_gather 56 = .ok (.iload_n 1, 1) := by decide +kernel
theorem dX1_gather_57 : decode cX1_gather 57 = .ok (.invokevirtual 122, 3) := by decide +kernel
theorem dX1_gather_60 : decode cX1_gather 60 = .ok (.iinc 4 1, 3) := by decide +kernel
theorem dX1_gather_63 : decode cX1_gather 63 = .ok (.goto (-31), 3) := by decide +kernel
theorem dX1_gather_66 : decode cX1_gather 66 = .ok (.aload_n 0, 1) := by decide +kernel
theorem dX1_gather_67 : decode cX1_gather 67 = .ok (.getfield 38, 3) := by decide +kernel
theorem dX1_gather_70 : decode cX1_gather 70 = .ok (.aload_n 0, 1) := by decide +kernel
theorem dX1_gather_71 : decode cX1_gather 71 = .ok (.getfield 31, 3) := by decide +kernel
theorem dX1_gather_74 : decode cX1_gather 74 = .ok (.iconst 0, 1) := by decide +kernel
theorem dX1_gather_75 : decode cX1_gather 75 = .ok (.iload_n 1, 1) := by decide +kernel
theorem dX1_gather_76 : decode cX1_gather 76 = .ok (.invokevirtual 122, 3) := by decide +kernel
theorem dX1_gather_79 : decode cX1_gather 79 = .ok (.return_, 1) := by decide +kernel
theorem dX1_killGroup_0 : decode cX1_killGroup 0 = .ok (.iconst 0, 1) := by decide +kernel
theorem dX1_killGroup_1 : decode cX1_killGroup 1 = .ok (.istore_n 1, 1) := by decide +kernel
theorem dX1_killGroup_2 : decode cX1_killGroup 2 = .ok (.iload_n 1, 1) := by decide +kernel
theorem dX1_killGroup_3 : decode cX1_killGroup 3 = .ok (.aload_n 0, 1) := by decide +kernel
theorem dX1_killGroup_4 : decode cX1_killGroup 4 = .ok (.getfield 38, 3) := by decide +kernel
theorem dX1_killGroup_7 : decode cX1_killGroup 7 = .ok (.getfield 79, 3) := by decide +kernel
theorem dX1_killGroup_10 : decode cX1_killGroup 10 = .ok (.if_icmp .ge 22, 3) := by decide +kernel
theorem dX1_killGroup_13 : decode cX1_killGroup 13 = .ok (.aload_n 0, 1) := by decide +kernel
theorem dX1_killGroup_14 : decode cX1_killGroup 14 = .ok (.aload_n 0, 1) := by decide +kernel
theorem dX1_killGroup_15 : decode cX1_killGroup 15 = .ok (.getfield 38, 3) := by decide +kernel
theorem dX1_killGroup_18 : decode cX1_killGroup 18 = .ok (.iload_n 1, 1) := by decide +kernel
theorem dX1_killGroup_19 : decode cX1_killGroup 19 = .ok (.invokevirtual 85, 3) := by decide +kernel
theorem dX1_killGroup_22 : decode cX1_killGroup 22 = .ok (.invokevirtual 111, 3) := by decide +kernel
theorem dX1_killGroup_25 : decode cX1_killGroup 25 = .ok (.pop, 1) := by decide +kernel
theorem dX1_killGroup_26 : decode cX1_killGroup 26 = .ok (.iinc 1 1, 3) := by decide +kernel
theorem dX1_killGroup_29 : decode cX1_killGroup 29 = .ok (.goto (-27), 3) := by decide +kernel
theorem dX1_killGroup_32 : decode cX1_killGroup 32 = .ok (.return_, 1) := by decide +kernel
theorem dX1_putAnew_0 : decode cX1_putAnew 0 = .ok (.aload_n 1, 1) := by decide +kernel
theorem dX1_putAnew_1 : decode cX1_putAnew 1 = .ok (.iconst 0, 1) := by decide +kernel
theorem dX1_putAnew_2 : decode cX1_putAnew 2 = .ok (.putfield 105, 3) := by decide +kernel
theorem dX1_putAnew_5 : decode cX1_putAnew 5 = .ok (.aload_n 0, 1) := by decide +kernel
theorem dX1_putAnew_6 : decode cX1_putAnew 6 = .ok (.getfield 15, 3) := by decide +kernel
theorem dX1_putAnew_9 : decode cX1_putAnew 9 = .ok (.bipush 10, 2) := by decide +kernel
theorem dX1_putAnew_11 : decode cX1_putAnew 11 = .ok (.dup2, 1) := by decide +kernel
theorem dX1_putAnew_12 : decode cX1_putAnew 12 = .ok (.iaload, 1) := by decide +kernel
theorem dX1_putAnew_13 : decode cX1_putAnew 13 = .ok (.iconst 1, 1) := by decide +kernel
theorem dX1_putAnew_14 : decode cX1_putAnew 14 = .ok (.iadd, 1) := by decide +kernel
theorem dX1_putAnew_15 : decode cX1_putAnew 15 = .ok (.iastore, 1) := by decide +kernel
theorem dX1_putAnew_16 : decode cX1_putAnew 16 = .ok (.aload_n 0, 1) := by decide +kernel
theorem dX1_putAnew_17 : decode cX1_putAnew 17 = .ok (.getfield 31, 3) := by decide +kernel
theorem dX1_putAnew_20 : decode cX1_putAnew 20 = .ok (.aload_n 1, 1) := by decide +kernel
theorem dX1_putAnew_21 : decode cX1_putAnew 21 = .ok (.invokevirtual 55, 3) := by decide +kernel
theorem dX1_putAnew_24 : decode cX1_putAnew 24 = .ok (.ifCond .ne 7, 3) := by decide +kernel
theorem dX1_putAnew_27 : decode cX1_putAnew 27 = .ok (.aload_n 0, 1) := by decide +kernel
theorem dX1_putAnew_28 : decode cX1_putAnew 28 = .ok (.invokevirtual 59, 3) := by decide +kernel
theorem dX1_putAnew_31 : decode cX1_putAnew 31 = .ok (.aload_n 0, 1) := by decide +kernel
theorem dX1_putAnew_32 : decode cX1_putAnew 32 = .ok (.getfield 31, 3) := by decide +kernel
theorem dX1_putAnew_35 : decode cX1_putAnew 35 = .ok (.aload_n 1, 1) := by decide +kernel
theorem dX1_putAnew_36 : decode cX1_putAnew 36 = .ok (.invokevirtual 68, 3) := by decide +kernel
theorem dX1_putAnew_39 : decode cX1_putAnew 39 = .ok (.return_, 1) := by decide +kernel
theorem dX1_wipe_0 : decode cX1_wipe 0 = .ok (.iconst 0, 1) := by decide +kernel
theorem dX1_wipe_1 : decode cX1_wipe 1 = .ok (.istore_n 1, 1) := by decide +kernel
theorem dX1_wipe_2 : decode cX1_wipe 2 = .ok (.iload_n 1, 1) := by decide +kernel
theorem dX1_wipe_3 : decode cX1_wipe 3 = .ok (.bipush 32, 2) := by decide +kernel
theorem dX1_wipe_5 : decode cX1_wipe 5 = .ok (.if_icmp .ge 18, 3) := by decide +kernel
theorem dX1_wipe_8 : decode cX1_wipe 8 = .ok (.aload_n 0, 1) := by decide +kernel
theorem dX1_wipe_9 : decode cX1_wipe 9 = .ok (.getfield 21, 3) := by decide +kernel
theorem dX1_wipe_12 : decode cX1_wipe 12 = .ok (.iload_n 1, 1) := by decide +kernel
theorem dX1_wipe_13 : decode cX1_wipe 13 = .ok (.aaload, 1) := by decide +kernel
theorem dX1_wipe_14 : decode cX1_wipe 14 = .ok (.invokevirtual 72, 3) := by decide +kernel
theorem dX1_wipe_17 : decode cX1_wipe 17 = .ok (.iinc 1 1, 3) := by decide +kernel
theorem dX1_wipe_20 : decode cX1_wipe 20 = .ok (.goto (-18), 3) := by decide +kernel
theorem dX1_wipe_23 : decode cX1_wipe 23 = .ok (.iconst 0, 1) := by decide +kernel
theorem dX1_wipe_24 : decode cX1_wipe 24 = .ok (.istore_n 1, 1) := by decide +kernel
theorem dX1_wipe_25 : decode cX1_wipe 25 = .ok (.iload_n 1, 1) := by decide +kernel
theorem dX1_wipe_26 : decode cX1_wipe 26 = .ok (.bipush 8, 2) := by decide +kernel
theorem dX1_wipe_28 : decode cX1_wipe 28 = .ok (.if_icmp .ge 16, 3) := by decide +kernel
theorem dX1_wipe_31 : decode cX1_wipe 31 = .ok (.aload_n 0, 1) := by decide +kernel
theorem dX1_wipe_32 : decode cX1_wipe 32 = .ok (.getfield 28, 3) := by decide +kernel
theorem dX1_wipe_35 : decode cX1_wipe 35 = .ok (.iload_n 1, 1) := by decide +kernel
theorem dX1_wipe_36 : decode cX1_wipe 36 = .ok (.iconst 0, 1) := by decide +kernel
theorem dX1_wipe_37 : decode cX1_wipe 37 = .ok (.iastore, 1) := by decide +kernel
theorem dX1_wipe_38 : decode cX1_wipe 38 = .ok (.iinc 1 1, 3) := by decide +kernel
theorem dX1_wipe_41 : decode cX1_wipe 41 = .ok (.goto (-16), 3) := by decide +kernel
theorem dX1_wipe_44 : decode cX1_wipe 44 = .ok (.aload_n 0, 1) := by decide +kernel
theorem dX1_wipe_45 : decode cX1_wipe 45 = .ok (.getfield 31, 3) := by decide +kernel
theorem dX1_wipe_48 : decode cX1_wipe 48 = .ok (.invokevirtual 72, 3) := by decide +kernel
theorem dX1_wipe_51 : decode cX1_wipe 51 = .ok (.aload_n 0, 1) := by decide +kernel
theorem dX1_wipe_52 : decode cX1_wipe 52 = .ok (.iconst 0, 1) := by decide +kernel
theorem dX1_wipe_53 : decode cX1_wipe 53 = .ok (.putfield 62, 3) := by decide +kernel
theorem dX1_wipe_56 : decode cX1_wipe 56 = .ok (.aload_n 0, 1) := by decide +kernel
theorem dX1_wipe_57 : decode cX1_wipe 57 = .ok (.iconst 0, 1) := by decide +kernel
theorem dX1_wipe_58 : decode cX1_wipe 58 = .ok (.putfield 51, 3) := by decide +kernel
theorem dX1_wipe_61 : decode cX1_wipe 61 = .ok (.return_, 1) := by decide +kernel
theorem dX1_countInSegment_0 : decode cX1_countInSegment 0 = .ok (.iload_n 1, 1) := by decide +kernel
theorem dX1_countInSegment_1 : decode cX1_countInSegment 1 = .ok (.ifCond .lt 9, 3) := by decide +kernel
theorem dX1_countInSegment_4 : decode cX1_countInSegment 4 = .ok (.iload_n 1, 1) := by decide +kernel
theorem dX1_countInSegment_5 : decode cX1_countInSegment 5 = .ok (.bipush 8, 2) := by decide +kernel
theorem dX1_countInSegment_7 : decode cX1_countInSegment 7 = .ok (.if_icmp .lt 5, 3) := by decide +kernel
theorem dX1_countInSegment_10 : decode cX1_countInSegment 10 = .ok (.iconst 0, 1) := by decide +kernel
theorem dX1_countInSegment_11 : decode cX1_countInSegment 11 = .ok (.ireturn, 1) := by decide +kernel
theorem dX1_countInSegment_12 : decode cX1_countInSegment 12 = .ok (.iconst 0, 1) := by decide +kernel
theorem dX1_countInSegment_13 : decode cX1_countInSegment 13 = .ok (.istore_n 2, 1) := by decide +kernel
theorem dX1_countInSegment_14 : decode cX1_countInSegment 14 = .ok (.iconst 0, 1) := by decide +kernel
theorem dX1_countInSegment_15 : decode cX1_countInSegment 15 = .ok (.istore_n 3, 1) := by decide +kernel
theorem dX1_countInSegment_16 : decode cX1_countInSegment 16 = .ok (.iload_n 3, 1) := by decide +kernel
theorem dX1_countInSegment_17 : decode cX1_countInSegment 17 = .ok (.iconst 4, 1) := by decide +kernel
theorem dX1_countInSegment_18 : decode cX1_countInSegment 18 = .ok (.if_icmp .ge 25, 3) := by decide +kernel
theorem dX1_countInSegment_21 : decode cX1_countInSegment 21 = .ok (.iload_n 2, 1) := by decide +kernel
theorem dX1_countInSegment_22 : decode cX1_countInSegment 22 = .ok (.aload_n 0, 1) := by decide +kernel
theorem dX1_countInSegment_23 : decode cX1_countInSegment 23 = .ok (.getfield 21, 3) := by decide +kernel
theorem dX1_countInSegment_26 : decode cX1_countInSegment 26 = .ok (.iload_n 1, 1) := by decide +kernel
theorem dX1_countInSegment_27 : decode cX1_countInSegment 27 = .ok (.iconst 4, 1) := by decide +kernel
theorem dX1_countInSegment_28 : decode cX1_countInSegment 28 = .ok (.imul, 1) := by decide +kernel
theorem dX1_countInSegment_29 : decode cX1_countInSegment 29 = .ok (.iload_n 3, 1) := by decide +kernel
theorem dX1_countInSegment_30 : decode cX1_countInSegment 30 = .ok (.iadd, 1) := by decide +kernel
theorem dX1_countInSegment_31 : decode cX1_countInSegment 31 = .ok (.aaload, 1) := by decide +kernel
theorem dX1_countInSegment_32 : decode cX1_countInSegment 32 = .ok (.invokevirtual 126, 3) := by decide +kernel
theorem dX1_countInSegment_35 : decode cX1_countInSegment 35 = .ok (.iadd, 1) := by decide +kernel
theorem dX1_countInSegment_36 : decode cX1_countInSegment 36 = .ok (.istore_n 2, 1) := by decide +kernel
theorem dX1_countInSegment_37 : decode cX1_countInSegment 37 = .ok (.iinc 3 1, 3) := by decide +kernel
theorem dX1_countInSegment_40 : decode cX1_countInSegment 40 = .ok (.goto (-24), 3) := by decide +kernel
theorem dX1_countInSegment_43 : decode cX1_countInSegment 43 = .ok (.iload_n 2, 1) := by decide +kernel
theorem dX1_countInSegment_44 : decode cX1_countInSegment 44 = .ok (.ireturn, 1) := by decide +kernel
theorem dX1_pagesFit_0 : decode cX1_pagesFit 0 = .ok (.iconst 0, 1) := by decide +kernel
theorem dX1_pagesFit_1 : decode cX1_pagesFit 1 = .ok (.istore_n 1, 1) := by decide +kernel
theorem dX1_pagesFit_2 : decode cX1_pagesFit 2 = .ok (.iload_n 1, 1) := by decide +kernel
theorem dX1_pagesFit_3 : decode cX1_pagesFit 3 = .ok (.bipush 32, 2) := by decide +kernel
theorem dX1_pagesFit_5 : decode cX1_pagesFit 5 = .ok (.if_icmp .ge 25, 3) := by decide +kernel
theorem dX1_pagesFit_8 : decode cX1_pagesFit 8 = .ok (.aload_n 0, 1) := by decide +kernel
theorem dX1_pagesFit_9 : decode cX1_pagesFit 9 = .ok (.getfield 21, 3) := by decide +kernel
theorem dX1_pagesFit_12 : decode cX1_pagesFit 12 = .ok (.iload_n 1, 1) := by decide +kernel
theorem dX1_pagesFit_13 : decode cX1_pagesFit 13 = .ok (.aaload, 1) := by decide +kernel
theorem dX1_pagesFit_14 : decode cX1_pagesFit 14 = .ok (.invokevirtual 130, 3) := by decide +kernel
theorem dX1_pagesFit_17 : decode cX1_pagesFit 17 = .ok (.bipush 32, 2) := by decide +kernel
theorem dX1_pagesFit_19 : decode cX1_pagesFit 19 = .ok (.if_icmp .le 5, 3) := by decide +kernel
theorem dX1_pagesFit_22 : decode cX1_pagesFit 22 = .ok (.iconst 0, 1) := by decide +kernel
theorem dX1_pagesFit_23 : decode cX1_pagesFit 23 = .ok (.ireturn, 1) := by decide +kernel
theorem dX1_pagesFit_24 : decode cX1_pagesFit 24 = .ok (.iinc 1 1, 3) := by decide +kernel
theorem dX1_pagesFit_27 : decode cX1_pagesFit 27 = .ok (.goto (-25), 3) := by decide +kernel
theorem dX1_pagesFit_30 : decode cX1_pagesFit 30 = .ok (.aload_n 0, 1) := by decide +kernel
theorem dX1_pagesFit_31 : decode cX1_pagesFit 31 = .ok (.getfield 31, 3) := by decide +kernel
theorem dX1_pagesFit_34 : decode cX1_pagesFit 34 = .ok (.invokevirtual 130, 3) := by decide +kernel
theorem dX1_pagesFit_37 : decode cX1_pagesFit 37 = .ok (.bipush 32, 2) := by decide +kernel
theorem dX1_pagesFit_39 : decode cX1_pagesFit 39 = .ok (.if_icmp .gt 7, 3) := by decide +kernel
theorem dX1_pagesFit_42 : decode cX1_pagesFit 42 = .ok (.iconst 1, 1) := by decide +kernel
theorem dX1_pagesFit_43 : decode cX1_pagesFit 43 = .ok (.goto 4, 3) := by decide +kernel
theorem dX1_pagesFit_46 : decode cX1_pagesFit 46 = .ok (.iconst 0, 1) := by decide +kernel
theorem dX1_pagesFit_47 : decode cX1_pagesFit 47 = .ok (.ireturn, 1) := by decide +kernel
theorem dX1_countIsRight_0 : decode cX1_countIsRight 0 = .ok (.aload_n 0, 1) := by decide +kernel
theorem dX1_countIsRight_1 : decode cX1_countIsRight 1 = .ok (.getfield 31, 3) := by decide +kernel
theorem dX1_countIsRight_4 : decode cX1_countIsRight 4 = .ok (.invokevirtual 126, 3) := by decide +kernel
theorem dX1_countIsRight_7 : decode cX1_countIsRight 7 = .ok (.istore_n 1, 1) := by decide +kernel
theorem dX1_countIsRight_8 : decode cX1_countIsRight 8 = .ok (.iconst 0, 1) := by decide +kernel
theorem dX1_countIsRight_9 : decode cX1_countIsRight 9 = .ok (.istore_n 2, 1) := by decide +kernel
theorem dX1_countIsRight_10 : decode cX1_countIsRight 10 = .ok (.iload_n 2, 1) := by decide +kernel
theorem dX1_countIsRight_11 : decode cX1_countIsRight 11 = .ok (.bipush 32, 2) := by decide +kernel
theorem dX1_countIsRight_13 : decode cX1_countIsRight 13 = .ok (.if_icmp .ge 21, 3) := by decide +kernel
theorem dX1_countIsRight_16 : decode cX1_countIsRight 16 = .ok (.iload_n 1, 1) := by decide +kernel
theorem dX1_countIsRight_17 : decode cX1_countIsRight 17 = .ok (.aload_n 0, 1) := by decide +kernel
theorem dX1_countIsRight_18 : decode cX1_countIsRight 18 = .ok (.getfield 21, 3) := by decide +kernel
theorem dX1_countIsRight_21 : decode cX1_countIsRight 21 = .ok (.iload_n 2, 1) := by decide +kernel
theorem dX1_countIsRight_22 : decode cX1_countIsRight 22 = .ok (.aaload, 1) := by decide +kernel
theorem dX1_countIsRight_23 : decode cX1_countIsRight 23 = .ok (.invokevirtual 126, 3) := by decide +kernel
theorem dX1_countIsRight_26 : decode cX1_countIsRight 26 = .ok (.iadd, 1) := by decide +kernel
theorem dX1_countIsRight_27 : decode cX1_countIsRight 27 = .ok (.istore_n 1, 1) := by decide +kernel
theorem dX1_countIsRight_28 : decode cX1_countIsRight 28 = .ok (.iinc 2 1, 3) := by decide +kernel
theorem dX1_countIsRight_31 : decode cX1_countIsRight 31 = .ok (.goto (-21), 3) := by decide +kernel
theorem dX1_countIsRight_34 : decode cX1_countIsRight 34 = .ok (.iload_n 1, 1) := by decide +kernel
theorem dX1_countIsRight_35 : decode cX1_countIsRight 35 = .ok (.aload_n 0, 1) := by decide +kernel
theorem dX1_countIsRight_36 : decode cX1_countIsRight 36 = .ok (.getfield 51, 3) := by decide +kernel
theorem dX1_countIsRight_39 : decode cX1_countIsRight 39 = .ok (.if_icmp .ne 7, 3) := by decide +kernel
theorem dX1_countIsRight_42 : decode cX1_countIsRight 42 = .ok (.iconst 1, 1) := by decide +kernel
theorem dX1_countIsRight_43 : decode cX1_countIsRight 43 = .ok (.goto 4, 3) := by decide +kernel
theorem dX1_countIsRight_46 : decode cX1_countIsRight 46 = .ok (.iconst 0, 1) := by decide +kernel
theorem dX1_countIsRight_47 : decode cX1_countIsRight 47 = .ok (.ireturn, 1) := by decide +kernel
theorem dX1_keysDiffer_0 : decode cX1_keysDiffer 0 = .ok (.iconst 0, 1) := by decide +kernel
theorem dX1_keysDiffer_1 : decode cX1_keysDiffer 1 = .ok (.istore_n 1, 1) := by decide +kernel
theorem dX1_keysDiffer_2 : decode cX1_keysDiffer 2 = .ok (.iload_n 1, 1) := by decide +kernel
theorem dX1_keysDiffer_3 : decode cX1_keysDiffer 3 = .ok (.bipush 64, 2) := by decide +kernel
theorem dX1_keysDiffer_5 : decode cX1_keysDiffer 5 = .ok (.if_icmp .ge 28, 3) := by decide +kernel
theorem dX1_keysDiffer_8 : decode cX1_keysDiffer 8 = .ok (.aload_n 0, 1) := by decide +kernel
theorem dX1_keysDiffer_9 : decode cX1_keysDiffer 9 = .ok (.iload_n 1, 1) := by decide +kernel
theorem dX1_keysDiffer_10 : decode cX1_keysDiffer 10 = .ok (.iconst 0, 1) := by decide +kernel
theorem dX1_keysDiffer_11 : decode cX1_keysDiffer 11 = .ok (.invokevirtual 92, 3) := by decide +kernel
theorem dX1_keysDiffer_14 : decode cX1_keysDiffer 14 = .ok (.aload_n 0, 1) := by decide +kernel
theorem dX1_keysDiffer_15 : decode cX1_keysDiffer 15 = .ok (.getfield 38, 3) := by decide +kernel
theorem dX1_keysDiffer_18 : decode cX1_keysDiffer 18 = .ok (.iload_n 1, 1) := by decide +kernel
theorem dX1_keysDiffer_19 : decode cX1_keysDiffer 19 = .ok (.invokevirtual 133, 3) := by decide +kernel
theorem dX1_keysDiffer_22 : decode cX1_keysDiffer 22 = .ok (.ifCond .ne 5, 3) := by decide +kernel
theorem dX1_keysDiffer_25 : decode cX1_keysDiffer 25 = .ok (.iconst 0, 1) := by decide +kernel
theorem dX1_keysDiffer_26 : decode cX1_keysDiffer 26 = .ok (.ireturn, 1) := by decide +kernel
theorem dX1_keysDiffer_27 : decode cX1_keysDiffer 27 = .ok (.iinc 1 1, 3) := by decide +kernel
theorem dX1_keysDiffer_30 : decode cX1_keysDiffer 30 = .ok (.goto (-28), 3) := by decide +kernel
theorem dX1_keysDiffer_33 : decode cX1_keysDiffer 33 = .ok (.iconst 1, 1) := by decide +kernel
theorem dX1_keysDiffer_34 : decode cX1_keysDiffer 34 = .ok (.ireturn, 1) := by decide +kernel
theorem dX4_init_0 : decode cX4_init 0 = .ok (.aload_n 0, 1) := by decide +kernel
theorem dX4_init_1 : decode cX4_init 1 = .ok (.invokespecial 3, 3) := by decide +kernel
theorem dX4_init_4 : decode cX4_init 4 = .ok (.aload_n 0, 1) := by decide +kernel
theorem dX4_init_5 : decode cX4_init 5 = .ok (.bipush 12, 2) := by decide +kernel
theorem dX4_init_7 : decode cX4_init 7 = .ok (.newarray .int, 2) := by decide +kernel
theorem dX4_init_9 : decode cX4_init 9 = .ok (.putfield 9, 3) := by decide +kernel
theorem dX4_init_12 : decode cX4_init 12 = .ok (.aload_n 0, 1) := by decide +kernel
theorem dX4_init_13 : decode cX4_init 13 = .ok (.new 13, 3) := by decide +kernel
theorem dX4_init_16 : decode cX4_init 16 = .ok (.dup, 1) := by decide +kernel
theorem dX4_init_17 : decode cX4_init 17 = .ok (.aload_n 0, 1) := by decide +kernel
theorem dX4_init_18 : decode cX4_init 18 = .ok (.getfield 9, 3) := by decide +kernel
theorem dX4_init_21 : decode cX4_init 21 = .ok (.invokespecial 15, 3) := by decide +kernel
theorem dX4_init_24 : decode cX4_init 24 = .ok (.putfield 18, 3) := by decide +kernel
theorem dX4_init_27 : decode cX4_init 27 = .ok (.aload_n 0, 1) := by decide +kernel
theorem dX4_init_28 : decode cX4_init 28 = .ok (.new 22, 3) := by decide +kernel
theorem dX4_init_31 : decode cX4_init 31 = .ok (.dup, 1) := by decide +kernel
theorem dX4_init_32 : decode cX4_init 32 = .ok (.aload_n 0, 1) := by decide +kernel
theorem dX4_init_33 : decode cX4_init 33 = .ok (.getfield 18, 3) := by decide +kernel
theorem dX4_init_36 : decode cX4_init 36 = .ok (.aload_n 0, 1) := by decide +kernel
theorem dX4_init_37 : decode cX4_init 37 = .ok (.getfield 9, 3) := by decide +kernel
theorem dX4_init_40 : decode cX4_init 40 = .ok (.invokespecial 24, 3) := by decide +kernel
theorem dX4_init_43 : decode cX4_init 43 = .ok (.putfield 27, 3) := by decide +kernel
theorem dX4_init_46 : decode cX4_init 46 = .ok (.return_, 1) := by decide +kernel
theorem dX4_put_0 : decode cX4_put 0 = .ok (.aload_n 0, 1) := by decide +kernel
theorem dX4_put_1 : decode cX4_put 1 = .ok (.getfield 31, 3) := by decide +kernel
theorem dX4_put_4 : decode cX4_put 4 = .ok (.ifCond .eq 6, 3) := by decide +kernel
theorem dX4_put_7 : decode cX4_put 7 = .ok (.bipush (-2), 2) := by decide +kernel
theorem dX4_put_9 : decode cX4_put 9 = .ok (.ireturn, 1) := by decide +kernel
theorem dX4_put_10 : decode cX4_put 10 = .ok (.iload_n 3, 1) := by decide +kernel
theorem dX4_put_11 : decode cX4_put 11 = .ok (.iconst 1, 1) := by decide +kernel
theorem dX4_put_12 : decode cX4_put 12 = .ok (.if_icmp .lt 9, 3) := by decide +kernel
theorem dX4_put_15 : decode cX4_put 15 = .ok (.iload_n 3, 1) := by decide +kernel
theorem dX4_put_16 : decode cX4_put 16 = .ok (.bipush 12, 2) := by decide +kernel
theorem dX4_put_18 : decode cX4_put 18 = .ok (.if_icmp .le 5, 3) := by decide +kernel
theorem dX4_put_21 : decode cX4_put 21 = .ok (.iconst (-1), 1) := by decide +kernel
theorem dX4_put_22 : decode cX4_put 22 = .ok (.ireturn, 1) := by decide +kernel
theorem dX4_put_23 : decode cX4_put 23 = .ok (.aload_n 0, 1) := by decide +kernel
theorem dX4_put_24 : decode cX4_put 24 = .ok (.getfield 27, 3) := by decide +kernel
theorem dX4_put_27 : decode cX4_put 27 = .ok (.aload_n 0, 1) := by decide +kernel
theorem dX4_put_28 : decode cX4_put 28 = .ok (.getfield 27, 3) := by decide +kernel
theorem dX4_put_31 : decode cX4_put 31 = .ok (.lload_n 1, 1) := by decide +kernel
theorem dX4_put_32 : decode cX4_put 32 = .ok (.invokevirtual 35, 3) := by decide +kernel
theorem dX4_put_35 : decode cX4_put 35 = .ok (.invokevirtual 39, 3) := by decide +kernel
theorem dX4_put_38 : decode cX4_put 38 = .ok (.pop, 1) := by decide +kernel
theorem dX4_put_39 : decode cX4_put 39 = .ok (.aload_n 0, 1) := by decide +kernel
theorem dX4_put_40 : decode cX4_put 40 = .ok (.getfield 27, 3) := by decide +kernel
theorem dX4_put_43 : decode cX4_put 43 = .ok (.new 43, 3) := by decide +kernel
theorem dX4_put_46 : decode cX4_put 46 = .ok (.dup, 1) := by decide +kernel
theorem dX4_put_47 : decode cX4_put 47 = .ok (.lload_n 1, 1) := by decide +kernel
theorem dX4_put_48 : decode cX4_put 48 = .ok (.iload_n 3, 1) := by decide +kernel
theorem dX4_put_49 : decode cX4_put 49 = .ok (.iload 4, 2) := by decide +kernel
theorem dX4_put_51 : decode cX4_put 51 = .ok (.iload 5, 2) := by decide +kernel
theorem dX4_put_53 : decode cX4_put 53 = .ok (.invokespecial 45, 3) := by decide +kernel
theorem dX4_put_56 : decode cX4_put 56 = .ok (.invokevirtual 48, 3) := by decide +kernel
theorem dX4_put_59 : decode cX4_put 59 = .ok (.iconst 1, 1) := by decide +kernel
theorem dX4_put_60 : decode cX4_put 60 = .ok (.ireturn, 1) := by decide +kernel
theorem dX4_get_0 : decode cX4_get 0 = .ok (.aload_n 0, 1) := by decide +kernel
theorem dX4_get_1 : decode cX4_get 1 = .ok (.getfield 31, 3) := by decide +kernel
theorem dX4_get_4 : decode cX4_get 4 = .ok (.ifCond .eq 6, 3) := by decide +kernel
theorem dX4_get_7 : decode cX4_get 7 = .ok (.bipush (-2), 2) := by decide +kernel
theorem dX4_get_9 : decode cX4_get 9 = .ok (.ireturn, 1) := by decide +kernel
theorem dX4_get_10 : decode cX4_get 10 = .ok (.aload_n 0, 1) := by decide +kernel
theorem dX4_get_11 : decode cX4_get 11 = .ok (.getfield 27, 3) := by decide +kernel
theorem dX4_get_14 : decode cX4_get 14 = .ok (.lload_n 1, 1) := by decide +kernel
theorem dX4_get_15 : decode cX4_get 15 = .ok (.invokevirtual 35, 3) := by decide +kernel
theorem dX4_get_18 : decode cX4_get 18 = .ok (.astore_n 3, 1) := by decide +kernel
theorem dX4_get_19 : decode cX4_get 19 = .ok (.aload_n 3, 1) := by decide +kernel
theorem dX4_get_20 : decode cX4_get 20 = .ok (.ifnonnull 12, 3) := by decide +kernel
theorem dX4_get_23 : decode cX4_get 23 = .ok (.aload_n 0, 1) := by decide +kernel
theorem dX4_get_24 : decode cX4_get 24 = .ok (.getfield 18, 3) := by decide +kernel
theorem dX4_get_27 : decode cX4_get 27 = .ok (.lload_n 1, 1) := by decide +kernel
theorem dX4_get_28 : decode cX4_get 28 = .ok (.invokevirtual 52, 3) := by decide +kernel
theorem dX4_get_31 : decode cX4_get 31 = .ok (.astore_n 3, 1) := by decide +kernel
theorem dX4_get_32 : decode cX4_get 32 = .ok (.aload_n 3, 1) := by decide +kernel
theorem dX4_get_33 : decode cX4_get 33 = .ok (.ifnonnull 5, 3) := by decide +kernel
theorem dX4_get_36 : decode cX4_get 36 = .ok (.iconst 0, 1) := by decide +kernel
theorem dX4_get_37 : decode cX4_get 37 = .ok (.ireturn, 1) := by decide +kernel
theorem dX4_get_38 : decode cX4_get 38 = .ok (.aload_n 3, 1) := by decide +kernel
theorem dX4_get_39 : decode cX4_get 39 = .ok (.iconst 1, 1) := by decide +kernel
theorem dX4_get_40 : decode cX4_get 40 = .ok (.putfield 55, 3) := by decide +kernel
theorem dX4_get_43 : decode cX4_get 43 = .ok (.aload_n 0, 1) := by decide +kernel
theorem dX4_get_44 : decode cX4_get 44 = .ok (.aload_n 3, 1) := by decide +kernel
theorem dX4_get_45 : decode cX4_get 45 = .ok (.getfield 58, 3) := by decide +kernel
theorem dX4_get_48 : decode cX4_get 48 = .ok (.putfield 62, 3) := by decide +kernel
theorem dX4_get_51 : decode cX4_get 51 = .ok (.aload_n 0, 1) := by decide +kernel
theorem dX4_get_52 : decode cX4_get 52 = .ok (.aload_n 3, 1) := by decide +kernel
theorem dX4_get_53 : decode cX4_get 53 = .ok (.getfield 65, 3) := by decide +kernel
theorem dX4_get_56 : decode cX4_get 56 = .ok (.putfield 68, 3) := by decide +kernel
theorem dX4_get_59 : decode cX4_get 59 = .ok (.aload_n 0, 1) := by decide +kernel
theorem dX4_get_60 : decode cX4_get 60 = .ok (.aload_n 3, 1) := by decide +kernel
theorem dX4_get_61 : decode cX4_get 61 = .ok (.getfield 71, 3) := by decide +kernel
theorem dX4_get_64 : decode cX4_get 64 = .ok (.putfield 74, 3) := by decide +kernel
theorem dX4_get_67 : decode cX4_get 67 = .ok (.aload_n 0, 1) := by decide +kernel
theorem dX4_get_68 : decode cX4_get 68 = .ok (.getfield 62, 3) := by decide +kernel
theorem dX4_get_71 : decode cX4_get 71 = .ok (.ireturn, 1) := by decide +kernel
theorem dX4_got_0 : decode cX4_got 0 = .ok (.iload_n 1, 1) := by decide +kernel
theorem dX4_got_1 : decode cX4_got 1 = .ok (.ifCond .lt 25, 3) := by decide +kernel
theorem dX4_got_4 : decode cX4_got 4 = .ok (.iload_n 1, 1) := by decide +kernel
theorem dX4_got_5 : decode cX4_got 5 = .ok (.aload_n 0, 1) := by decide +kernel
theorem dX4_got_6 : decode cX4_got 6 = .ok (.getfield 62, 3) := by decide +kernel
theorem dX4_got_9 : decode cX4_got 9 = .ok (.if_icmp .ge 17, 3) := by decide +kernel
theorem dX4_got_12 : decode cX4_got 12 = .ok (.aload_n 0, 1) := by decide +kernel
theorem dX4_got_13 : decode cX4_got 13 = .ok (.getfield 68, 3) := by decide +kernel
theorem dX4_got_16 : decode cX4_got 16 = .ok (.iload_n 1, 1) := by decide +kernel
theorem dX4_got_17 : decode cX4_got 17 = .ok (.aload_n 0, 1) := by decide +kernel
theorem dX4_got_18 : decode cX4_got 18 = .ok (.getfield 74, 3) := by decide +kernel
theorem dX4_got_21 : decode cX4_got 21 = .ok (.imul, 1) := by decide +kernel
theorem dX4_got_22 : decode cX4_got 22 = .ok (.iadd, 1) := by decide +kernel
theorem dX4_got_23 : decode cX4_got 23 = .ok (.goto 4, 3) := by decide +kernel
theorem dX4_got_26 : decode cX4_got 26 = .ok (.iconst 0, 1) := by decide +kernel
theorem dX4_got_27 : decode cX4_got 27 = .ok (.ireturn, 1) := by decide +kernel
theorem dX4_remove_0 : decode cX4_remove 0 = .ok (.aload_n 0, 1) := by decide +kernel
theorem dX4_remove_1 : decode cX4_remove 1 = .ok (.getfield 31, 3) := by decide +kernel
theorem dX4_remove_4 : decode cX4_remove 4 = .ok (.ifCond .eq 6, 3) := by decide +kernel
theorem dX4_remove_7 : decode cX4_remove 7 = .ok (.bipush (-2), 2) := by decide +kernel
theorem dX4_remove_9 : decode cX4_remove 9 = .ok (.ireturn, 1) := by decide +kernel
theorem dX4_remove_10 : decode cX4_remove 10 = .ok (.aload_n 0, 1) := by decide +kernel
theorem dX4_remove_11 : decode cX4_remove 11 = .ok (.getfield 27, 3) := by decide +kernel
theorem dX4_remove_14 : decode cX4_remove 14 = .ok (.aload_n 0, 1) := by decide +kernel
theorem dX4_remove_15 : decode cX4_remove 15 = .ok (.getfield 27, 3) := by decide +kernel
theorem dX4_remove_18 : decode cX4_remove 18 = .ok (.lload_n 1, 1) := by decide +kernel
theorem dX4_remove_19 : decode cX4_remove 19 = .ok (.invokevirtual 35, 3) := by decide +kernel
theorem dX4_remove_22 : decode cX4_remove 22 = .ok (.invokevirtual 39, 3) := by decide +kernel
theorem dX4_remove_25 : decode cX4_remove 25 = .ok (.istore_n 3, 1) := by decide +kernel
theorem dX4_remove_26 : decode cX4_remove 26 = .ok (.aload_n 0, 1) := by decide +kernel
theorem dX4_remove_27 : decode cX4_remove 27 = .ok (.getfield 18, 3) := by decide +kernel
theorem dX4_remove_30 : decode cX4_remove 30 = .ok (.lload_n 1, 1) := by decide +kernel
theorem dX4_remove_31 : decode cX4_remove 31 = .ok (.iconst 4, 1) := by decide +kernel
theorem dX4_remove_32 : decode cX4_remove 32 = .ok (.invokevirtual 77, 3) := by decide +kernel
theorem dX4_remove_35 : decode cX4_remove 35 = .ok (.istore 4, 2) := by decide +kernel
theorem dX4_remove_37 : decode cX4_remove 37 = .ok (.iload_n 3, 1) := by decide +kernel
theorem dX4_remove_38 : decode cX4_remove 38 = .ok (.ifCond .ne 8, 3) := by decide +kernel
theorem dX4_remove_41 : decode cX4_remove 41 = .ok (.iload 4, 2) := by decide +kernel
theorem dX4_remove_43 : decode cX4_remove 43 = .ok (.ifCond .eq 7, 3) := by decide +kernel
theorem dX4_remove_46 : decode cX4_remove 46 = .ok (.iconst 1, 1) := by decide +kernel
theorem dX4_remove_47 : decode cX4_remove 47 = .ok (.goto 4, 3) := by decide +kernel
theorem dX4_remove_50 : decode cX4_remove 50 = .ok (.iconst 0, 1) := by decide +kernel
theorem dX4_remove_51 : decode cX4_remove 51 = .ok (.ireturn, 1) := by decide +kernel
theorem dX4_mix_0 : decode cX4_mix 0 = .ok (.lload_n 1, 1) := by decide +kernel
theorem dX4_mix_1 : decode cX4_mix 1 = .ok (.invokestatic 81, 3) := by decide +kernel
theorem dX4_mix_4 : decode cX4_mix 4 = .ok (.lreturn, 1) := by decide +kernel
theorem dX4_unmix_0 : decode cX4_unmix 0 = .ok (.lload_n 1, 1) := by decide +kernel
theorem dX4_unmix_1 : decode cX4_unmix 1 = .ok (.lload_n 1, 1) := by decide +kernel
theorem dX4_unmix_2 : decode cX4_unmix 2 = .ok (.bipush 32, 2) := by decide +kernel
theorem dX4_unmix_4 : decode cX4_unmix 4 = .ok (.lushr, 1) := by decide +kernel
theorem dX4_unmix_5 : decode cX4_unmix 5 = .ok (.lxor, 1) := by decide +kernel
theorem dX4_unmix_6 : decode cX4_unmix 6 = .ok (.ldc2_w 85, 3) := by decide +kernel
theorem dX4_unmix_9 : decode cX4_unmix 9 = .ok (.lmul, 1) := by decide +kernel
theorem dX4_unmix_10 : decode cX4_unmix 10 = .ok (.lstore_n 3, 1) := by decide +kernel
theorem dX4_unmix_11 : decode cX4_unmix 11 = .ok (.lload_n 3, 1) := by decide +kernel
theorem dX4_unmix_12 : decode cX4_unmix 12 = .ok (.lload_n 3, 1) := by decide +kernel
theorem dX4_unmix_13 : decode cX4_unmix 13 = .ok (.bipush 32, 2) := by decide +kernel
theorem dX4_unmix_15 : decode cX4_unmix 15 = .ok (.lushr, 1) := by decide +kernel
theorem dX4_unmix_16 : decode cX4_unmix 16 = .ok (.lxor, 1) := by decide +kernel
theorem dX4_unmix_17 : decode cX4_unmix 17 = .ok (.ldc2_w 85, 3) := by decide +kernel
theorem dX4_unmix_20 : decode cX4_unmix 20 = .ok (.lmul, 1) := by decide +kernel
theorem dX4_unmix_21 : decode cX4_unmix 21 = .ok (.lstore_n 3, 1) := by decide +kernel
theorem dX4_unmix_22 : decode cX4_unmix 22 = .ok (.lload_n 3, 1) := by decide +kernel
theorem dX4_unmix_23 : decode cX4_unmix 23 = .ok (.lload_n 3, 1) := by decide +kernel
theorem dX4_unmix_24 : decode cX4_unmix 24 = .ok (.bipush 32, 2) := by decide +kernel
theorem dX4_unmix_26 : decode cX4_unmix 26 = .ok (.lushr, 1) := by decide +kernel
theorem dX4_unmix_27 : decode cX4_unmix 27 = .ok (.lxor, 1) := by decide +kernel
theorem dX4_unmix_28 : decode cX4_unmix 28 = .ok (.lreturn, 1) := by decide +kernel
theorem dX4_setOf_0 : decode cX4_setOf 0 = .ok (.lload_n 1, 1) := by decide +kernel
theorem dX4_setOf_1 : decode cX4_setOf 1 = .ok (.invokestatic 81, 3) := by decide +kernel
theorem dX4_setOf_4 : decode cX4_setOf 4 = .ok (.invokestatic 87, 3) := by decide +kernel
theorem dX4_setOf_7 : decode cX4_setOf 7 = .ok (.ireturn, 1) := by decide +kernel
theorem dX4_where_0 : decode cX4_where 0 = .ok (.aload_n 0, 1) := by decide +kernel
theorem dX4_where_1 : decode cX4_where 1 = .ok (.getfield 31, 3) := by decide +kernel
theorem dX4_where_4 : decode cX4_where 4 = .ok (.ifCond .eq 6, 3) := by decide +kernel
theorem dX4_where_7 : decode cX4_where 7 = .ok (.bipush (-2), 2) := by decide +kernel
theorem dX4_where_9 : decode cX4_where 9 = .ok (.ireturn, 1) := by decide +kernel
theorem dX4_where_10 : decode cX4_where 10 = .ok (.aload_n 0, 1) := by decide +kernel
theorem dX4_where_11 : decode cX4_where 11 = .ok (.getfield 27, 3) := by decide +kernel
theorem dX4_where_14 : decode cX4_where 14 = .ok (.lload_n 1, 1) := by decide +kernel
theorem dX4_where_15 : decode cX4_where 15 = .ok (.invokevirtual 35, 3) := by decide +kernel
theorem dX4_where_18 : decode cX4_where 18 = .ok (.ifnull 5, 3) := by decide +kernel
theorem dX4_where_21 : decode cX4_where 21 = .ok (.iconst 1, 1) := by decide +kernel
theorem dX4_where_22 : decode cX4_where 22 = .ok (.ireturn, 1) := by decide +kernel
theorem dX4_where_23 : decode cX4_where 23 = .ok (.aload_n 0, 1) := by decide +kernel
theorem dX4_where_24 : decode cX4_where 24 = .ok (.getfield 18, 3) := by decide +kernel
theorem dX4_where_27 : decode cX4_where 27 = .ok (.lload_n 1, 1) := by decide +kernel
theorem dX4_where_28 : decode cX4_where 28 = .ok (.invokevirtual 91, 3) := by decide +kernel
theorem dX4_where_31 : decode cX4_where 31 = .ok (.ifnull 7, 3) := by decide +kernel
theorem dX4_where_34 : decode cX4_where 34 = .ok (.iconst 2, 1) := by decide +kernel
theorem dX4_where_35 : decode cX4_where 35 = .ok (.goto 4, 3) := by decide +kernel
theorem dX4_where_38 : decode cX4_where 38 = .ok (.iconst 0, 1) := by decide +kernel
theorem dX4_where_39 : decode cX4_where 39 = .ok (.ireturn, 1) := by decide +kernel
theorem dX4_mark_0 : decode cX4_mark 0 = .ok (.aload_n 0, 1) := by decide +kernel
theorem dX4_mark_1 : decode cX4_mark 1 = .ok (.getfield 31, 3) := by decide +kernel
theorem dX4_mark_4 : decode cX4_mark 4 = .ok (.ifCond .eq 6, 3) := by decide +kernel
theorem dX4_mark_7 : decode cX4_mark 7 = .ok (.bipush (-2), 2) := by decide +kernel
theorem dX4_mark_9 : decode cX4_mark 9 = .ok (.ireturn, 1) := by decide +kernel
theorem dX4_mark_10 : decode cX4_mark 10 = .ok (.aload_n 0, 1) := by decide +kernel
theorem dX4_mark_11 : decode cX4_mark 11 = .ok (.getfield 27, 3) := by decide +kernel
theorem dX4_mark_14 : decode cX4_mark 14 = .ok (.lload_n 1, 1) := by decide +kernel
theorem dX4_mark_15 : decode cX4_mark 15 = .ok (.invokevirtual 35, 3) := by decide +kernel
theorem dX4_mark_18 : decode cX4_mark 18 = .ok (.astore_n 3, 1) := by decide +kernel
theorem dX4_mark_19 : decode cX4_mark 19 = .ok (.aload_n 3, 1) := by decide +kernel
theorem dX4_mark_20 : decode cX4_mark 20 = .ok (.ifnonnull 12, 3) := by decide +kernel
theorem dX4_mark_23 : decode cX4_mark 23 = .ok (.aload_n 0, 1) := by decide +kernel
theorem dX4_mark_24 : decode cX4_mark 24 = .ok (.getfield 18, 3) := by decide +kernel
theorem dX4_mark_27 : decode cX4_mark 27 = .ok (.lload_n 1, 1) := by decide +kernel
theorem dX4_mark_28 : decode cX4_mark 28 = .ok (.invokevirtual 91, 3) := by decide +kernel
theorem dX4_mark_31 : decode cX4_mark 31 = .ok (.astore_n 3, 1) := by decide +kernel
theorem dX4_mark_32 : decode cX4_mark 32 = .ok (.aload_n 3, 1) := by decide +kernel
theorem dX4_mark_33 : decode cX4_mark 33 = .ok (.ifnull 14, 3) := by decide +kernel
theorem dX4_mark_36 : decode cX4_mark 36 = .ok (.aload_n 3, 1) := by decide +kernel
theorem dX4_mark_37 : decode cX4_mark 37 = .ok (.getfield 55, 3) := by decide +kernel
theorem dX4_mark_40 : decode cX4_mark 40 = .ok (.ifCond .eq 7, 3) := by decide +kernel
theorem dX4_mark_43 : decode cX4_mark 43 = .ok (.iconst 1, 1) := by decide +kernel
theorem dX4_mark_44 : decode cX4_mark 44 = .ok (.goto 4, 3) := by decide +kernel
theorem dX4_mark_47 : decode cX4_mark 47 = .ok (.iconst 0, 1) := by decide +kernel
theorem dX4_mark_48 : decode cX4_mark 48 = .ok (.ireturn, 1) := by decide +kernel
theorem dX4_stands_0 : decode cX4_stands 0 = .ok (.aload_n 0, 1) := by decide +kernel
theorem dX4_stands_1 : decode cX4_stands 1 = .ok (.getfield 31, 3) := by decide +kernel
theorem dX4_stands_4 : decode cX4_stands 4 = .ok (.ifCond .eq 6, 3) := by decide +kernel
theorem dX4_stands_7 : decode cX4_stands 7 = .ok (.bipush (-2), 2) := by decide +kernel
theorem dX4_stands_9 : decode cX4_stands 9 = .ok (.ireturn, 1) := by decide +kernel
theorem dX4_stands_10 : decode cX4_stands 10 = .ok (.iload_n 1, 1) := by decide +kernel
theorem dX4_stands_11 : decode cX4_stands 11 = .ok (.invokestatic 92, 3) := by decide +kernel
theorem dX4_stands_14 : decode cX4_stands 14 = .ok (.ifCond .eq 18, 3) := by decide +kernel
theorem dX4_stands_17 : decode cX4_stands 17 = .ok (.aload_n 0, 1) := by decide +kernel
theorem dX4_stands_18 : decode cX4_stands 18 = .ok (.getfield 18, 3) := by decide +kernel
theorem dX4_stands_21 : decode cX4_stands 21 = .ok (.getfield 96, 3) := by decide +kernel
theorem dX4_stands_24 : decode cX4_stands 24 = .ok (.iload_n 1, 1) := by decide +kernel
theorem dX4_stands_25 : decode cX4_stands 25 = .ok (.aaload, 1) := by decide +kernel
theorem dX4_stands_26 : decode cX4_stands 26 = .ok (.getfield 100, 3) := by decide +kernel
theorem dX4_stands_29 : decode cX4_stands 29 = .ok (.goto 4, 3) := by decide +kernel
theorem dX4_stands_32 : decode cX4_stands 32 = .ok (.iconst (-1), 1) := by decide +kernel
theorem dX4_stands_33 : decode cX4_stands 33 = .ok (.ireturn, 1) := by decide +kernel
theorem dX4_key_0 : decode cX4_key 0 = .ok (.aload_n 0, 1) := by decide +kernel
theorem dX4_key_1 : decode cX4_key 1 = .ok (.getfield 31, 3) := by decide +kernel
theorem dX4_key_4 : decode cX4_key 4 = .ok (.ifCond .ne 10, 3) := by decide +kernel
theorem dX4_key_7 : decode cX4_key 7 = .ok (.iload_n 1, 1) := by decide +kernel
theorem dX4_key_8 : decode cX4_key 8 = .ok (.invokestatic 92, 3) := by decide +kernel
theorem dX4_key_11 : decode cX4_key 11 = .ok (.ifCond .ne 5, 3) := by decide +kernel
theorem dX4_key_14 : decode cX4_key 14 = .ok (.lconst 0, 1) := by decide +kernel
theorem dX4_key_15 : decode cX4_key 15 = .ok (.lreturn, 1) := by decide +kernel
theorem dX4_key_16 : decode cX4_key 16 = .ok (.aload_n 0, 1) := by decide +kernel
theorem dX4_key_17 : decode cX4_key 17 = .ok (.getfield 18, 3) := by decide +kernel
theorem dX4_key_20 : decode cX4_key 20 = .ok (.getfield 96, 3) := by decide +kernel
theorem dX4_key_23 : decode cX4_key 23 = .ok (.iload_n 1, 1) := by decide +kernel
theorem dX4_key_24 : decode cX4_key 24 = .ok (.aaload, 1) := by decide +kernel
theorem dX4_key_25 : decode cX4_key 25 = .ok (.iload_n 2, 1) := by decide +kernel
theorem dX4_key_26 : decode cX4_key 26 = .ok (.invokevirtual 105, 3) := by decide +kernel
theorem dX4_key_29 : decode cX4_key 29 = .ok (.astore_n 3, 1) := by decide +kernel
theorem dX4_key_30 : decode cX4_key 30 = .ok (.aload_n 3, 1) := by decide +kernel
theorem dX4_key_31 : decode cX4_key 31 = .ok (.ifnull 10, 3) := by decide +kernel
theorem dX4_key_34 : decode cX4_key 34 = .ok (.aload_n 3, 1) := by decide +kernel
theorem dX4_key_35 : decode cX4_key 35 = .ok (.getfield 109, 3) := by decide +kernel
theorem dX4_key_38 : decode cX4_key 38 = .ok (.goto 4, 3) := by decide +kernel
theorem dX4_key_41 : decode cX4_key 41 = .ok (.lconst 0, 1) := by decide +kernel
theorem dX4_key_42 : decode cX4_key 42 = .ok (.lreturn, 1) := by decide +kernel
theorem dX4_filter_0 : decode cX4_filter 0 = .ok (.aload_n 0, 1) := by decide +kernel
theorem dX4_filter_1 : decode cX4_filter 1 = .ok (.getfield 31, 3) := by decide +kernel
theorem dX4_filter_4 : decode cX4_filter 4 = .ok (.ifCond .ne 10, 3) := by decide +kernel
theorem dX4_filter_7 : decode cX4_filter 7 = .ok (.iload_n 1, 1) := by decide +kernel
theorem dX4_filter_8 : decode cX4_filter 8 = .ok (.invokestatic 92, 3) := by decide +kernel
theorem dX4_filter_11 : decode cX4_filter 11 = .ok (.ifCond .ne 7, 3) := by decide +kernel
theorem dX4_filter_14 : decode cX4_filter 14 = .ok (.lconst 0, 1) := by decide +kernel
theorem dX4_filter_15 : decode cX4_filter 15 = .ok (.goto 12, 3) := by decide +kernel
theorem dX4_filter_18 : decode cX4_filter 18 = .ok (.aload_n 0, 1) := by decide +kernel
theorem dX4_filter_19 : decode cX4_filter 19 = .ok (.getfield 18, 3) := by decide +kernel
theorem dX4_filter_22 : decode cX4_filter 22 = .ok (.getfield 113, 3) := by decide +kernel
theorem dX4_filter_25 : decode cX4_filter 25 = .ok (.iload_n 1, 1) := by decide +kernel
theorem dX4_filter_26 : decode cX4_filter 26 = .ok (.laload, 1) := by decide +kernel
theorem dX4_filter_27 : decode cX4_filter 27 = .ok (.lreturn, 1) := by decide +kernel
theorem dX4_alive_0 : decode cX4_alive 0 = .ok (.aload_n 0, 1) := by decide +kernel
theorem dX4_alive_1 : decode cX4_alive 1 = .ok (.getfield 31, 3) := by decide +kernel
theorem dX4_alive_4 : decode cX4_alive 4 = .ok (.ifCond .eq 6, 3) := by decide +kernel
theorem dX4_alive_7 : decode cX4_alive 7 = .ok (.bipush (-2), 2) := by decide +kernel
theorem dX4_alive_9 : decode cX4_alive 9 = .ok (.ireturn, 1) := by decide +kernel
theorem dX4_alive_10 : decode cX4_alive 10 = .ok (.iload_n 1, 1) := by decide +kernel
theorem dX4_alive_11 : decode cX4_alive 11 = .ok (.ifCond .lt 9, 3) := by decide +kernel
theorem dX4_alive_14 : decode cX4_alive 14 = .ok (.iload_n 1, 1) := by decide +kernel
theorem dX4_alive_15 : decode cX4_alive 15 = .ok (.bipush 8, 2) := by decide +kernel
theorem dX4_alive_17 : decode cX4_alive 17 = .ok (.if_icmp .le 5, 3) := by decide +kernel
theorem dX4_alive_20 : decode cX4_alive 20 = .ok (.iconst (-1), 1) := by decide +kernel
theorem dX4_alive_21 : decode cX4_alive 21 = .ok (.ireturn, 1) := by decide +kernel
theorem dX4_alive_22 : decode cX4_alive 22 = .ok (.iload_n 1, 1) := by decide +kernel
theorem dX4_alive_23 : decode cX4_alive 23 = .ok (.bipush 8, 2) := by decide +kernel
theorem dX4_alive_25 : decode cX4_alive 25 = .ok (.if_icmp .ne 16, 3) := by decide +kernel
theorem dX4_alive_28 : decode cX4_alive 28 = .ok (.aload_n 0, 1) := by decide +kernel
theorem dX4_alive_29 : decode cX4_alive 29 = .ok (.getfield 27, 3) := by decide +kernel
theorem dX4_alive_32 : decode cX4_alive 32 = .ok (.getfield 117, 3) := by decide +kernel
theorem dX4_alive_35 : decode cX4_alive 35 = .ok (.invokevirtual 121, 3) := by decide +kernel
theorem dX4_alive_38 : decode cX4_alive 38 = .ok (.goto 11, 3) := by decide +kernel
theorem dX4_alive_41 : decode cX4_alive 41 = .ok (.aload_n 0, 1) := by decide +kernel
theorem dX4_alive_42 : decode cX4_alive 42 = .ok (.getfield 27, 3) := by decide +kernel
theorem dX4_alive_45 : decode cX4_alive 45 = .ok (.iload_n 1, 1) := by decide +kernel
theorem dX4_alive_46 : decode cX4_alive 46 = .ok (.invokevirtual 125, 3) := by decide +kernel
theorem dX4_alive_49 : decode cX4_alive 49 = .ok (.ireturn, 1) := by decide +kernel
theorem dX4_count_0 : decode cX4_count 0 = .ok (.iload_n 1, 1) := by decide +kernel
theorem dX4_count_1 : decode cX4_count 1 = .ok (.ifCond .lt 16, 3) := by decide +kernel
theorem dX4_count_4 : decode cX4_count 4 = .ok (.iload_n 1, 1) := by decide +kernel
theorem dX4_count_5 : decode cX4_count 5 = .ok (.bipush 12, 2) := by decide +kernel
theorem dX4_count_7 : decode cX4_count 7 = .ok (.if_icmp .ge 10, 3) := by decide +kernel
theorem dX4_count_10 : decode cX4_count 10 = .ok (.aload_n 0, 1) := by decide +kernel
theorem dX4_count_11 : decode cX4_count 11 = .ok (.getfield 9, 3) := by decide +kernel
theorem dX4_count_14 : decode cX4_count 14 = .ok (.iload_n 1, 1) := by decide +kernel
theorem dX4_count_15 : decode cX4_count 15 = .ok (.iaload, 1) := by decide +kernel
theorem dX4_count_16 : decode cX4_count 16 = .ok (.ireturn, 1) := by decide +kernel
theorem dX4_count_17 : decode cX4_count 17 = .ok (.iload_n 1, 1) := by decide +kernel
theorem dX4_count_18 : decode cX4_count 18 = .ok (.tableswitch 102 12 17 #[38, 46, 54, 65, 73, 89], 38) := by decide +kernel
theorem dX4_count_56 : decode cX4_count 56 = .ok (.aload_n 0, 1) := by decide +kernel
theorem dX4_count_57 : decode cX4_count 57 = .ok (.getfield 27, 3) := by decide +kernel
theorem dX4_count_60 : decode cX4_count 60 = .ok (.getfield 129, 3) := by decide +kernel
theorem dX4_count_63 : decode cX4_count 63 = .ok (.ireturn, 1) := by decide +kernel
theorem dX4_count_64 : decode cX4_count 64 = .ok (.aload_n 0, 1) := by decide +kernel
theorem dX4_count_65 : decode cX4_count 65 = .ok (.getfield 18, 3) := by decide +kernel
theorem dX4_count_68 : decode cX4_count 68 = .ok (.getfield 132, 3) := by decide +kernel
theorem dX4_count_71 : decode cX4_count 71 = .ok (.ireturn, 1) := by decide +kernel
theorem dX4_count_72 : decode cX4_count 72 = .ok (.aload_n 0, 1) := by decide +kernel
theorem dX4_count_73 : decode cX4_count 73 = .ok (.getfield 27, 3) := by decide +kernel
theorem dX4_count_76 : decode cX4_count 76 = .ok (.getfield 117, 3) := by decide +kernel
theorem dX4_count_79 : decode cX4_count 79 = .ok (.invokevirtual 135, 3) := by decide +kernel
theorem dX4_count_82 : decode cX4_count 82 = .ok (.ireturn, 1) := by decide +kernel
theorem dX4_count_83 : decode cX4_count 83 = .ok (.aload_n 0, 1) := by decide +kernel
theorem dX4_count_84 : decode cX4_count 84 = .ok (.getfield 27, 3) := by decide +kernel
theorem dX4_count_87 : decode cX4_count 87 = .ok (.getfield 138, 3) := by decide +kernel
theorem dX4_count_90 : decode cX4_count 90 = .ok (.ireturn, 1) := by decide +kernel
theorem dX4_count_91 : decode cX4_count 91 = .ok (.aload_n 0, 1) := by decide +kernel
theorem dX4_count_92 : decode cX4_count 92 = .ok (.getfield 27, 3) := by decide +kernel
theorem dX4_count_95 : decode cX4_count 95 = .ok (.getfield 141, 3) := by decide +kernel
theorem dX4_count_98 : decode cX4_count 98 = .ok (.aload_n 0, 1) := by decide +kernel
theorem dX4_count_99 : decode cX4_count 99 = .ok (.getfield 27, 3) := by decide +kernel
theorem dX4_count_102 : decode cX4_count 102 = .ok (.getfield 138, 3) := by decide +kernel
theorem dX4_count_105 : decode cX4_count 105 = .ok (.iaload, 1) := by decide +kernel
theorem dX4_count_106 : decode cX4_count 106 = .ok (.ireturn, 1) := by decide +kernel
theorem dX4_count_107 : decode cX4_count 107 = .ok (.aload_n 0, 1) := by decide +kernel
theorem dX4_count_108 : decode cX4_count 108 = .ok (.getfield 31, 3) := by decide +kernel
theorem dX4_count_111 : decode cX4_count 111 = .ok (.ifCond .eq 7, 3) := by decide +kernel
theorem dX4_count_114 : decode cX4_count 114 = .ok (.iconst 1, 1) := by decide +kernel
theorem dX4_count_115 : decode cX4_count 115 = .ok (.goto 4, 3) := by decide +kernel
theorem dX4_count_118 : decode cX4_count 118 = .ok (.iconst 0, 1) := by decide +kernel
theorem dX4_count_119 : decode cX4_count 119 = .ok (.ireturn, 1) := by decide +kernel
theorem dX4_count_120 : decode cX4_count 120 = .ok (.iconst (-1), 1) := by decide +kernel
theorem dX4_count_121 : decode cX4_count 121 = .ok (.ireturn, 1) := by decide +kernel
theorem dX4_close_0 : decode cX4_close 0 = .ok (.aload_n 0, 1) := by decide +kernel
theorem dX4_close_1 : decode cX4_close 1 = .ok (.getfield 31, 3) := by decide +kernel
theorem dX4_close_4 : decode cX4_close 4 = .ok (.ifCond .eq 6, 3) := by decide +kernel
theorem dX4_close_7 : decode cX4_close 7 = .ok (.bipush (-2), 2) := by decide +kernel
theorem dX4_close_9 : decode cX4_close 9 = .ok (.ireturn, 1) := by decide +kernel
theorem dX4_close_10 : decode cX4_close 10 = .ok (.aload_n 0, 1) := by decide +kernel
theorem dX4_close_11 : decode cX4_close 11 = .ok (.iconst 1, 1) := by decide +kernel
theorem dX4_close_12 : decode cX4_close 12 = .ok (.putfield 31, 3) := by decide +kernel
theorem dX4_close_15 : decode cX4_close 15 = .ok (.iconst 1, 1) := by decide +kernel
theorem dX4_close_16 : decode cX4_close 16 = .ok (.ireturn, 1) := by decide +kernel
theorem dX4_crash_0 : decode cX4_crash 0 = .ok (.aload_n 0, 1) := by decide +kernel
theorem dX4_crash_1 : decode cX4_crash 1 = .ok (.getfield 27, 3) := by decide +kernel
theorem dX4_crash_4 : decode cX4_crash 4 = .ok (.getfield 129, 3) := by decide +kernel
theorem dX4_crash_7 : decode cX4_crash 7 = .ok (.istore_n 1, 1) := by decide +kernel
theorem dX4_crash_8 : decode cX4_crash 8 = .ok (.aload_n 0, 1) := by decide +kernel
theorem dX4_crash_9 : decode cX4_crash 9 = .ok (.getfield 27, 3) := by decide +kernel
theorem dX4_crash_12 : decode cX4_crash 12 = .ok (.invokevirtual 144, 3) := by decide +kernel
theorem dX4_crash_15 : decode cX4_crash 15 = .ok (.aload_n 0, 1) := by decide +kernel
theorem dX4_crash_16 : decode cX4_crash 16 = .ok (.getfield 18, 3) := by decide +kernel
theorem dX4_crash_19 : decode cX4_crash 19 = .ok (.invokevirtual 147, 3) := by decide +kernel
theorem dX4_crash_22 : decode cX4_crash 22 = .ok (.aload_n 0, 1) := by decide +kernel
theorem dX4_crash_23 : decode cX4_crash 23 = .ok (.iconst 1, 1) := by decide +kernel
theorem dX4_crash_24 : decode cX4_crash 24 = .ok (.putfield 31, 3) := by decide +kernel
theorem dX4_crash_27 : decode cX4_crash 27 = .ok (.iload_n 1, 1) := by decide +kernel
theorem dX4_crash_28 : decode cX4_crash 28 = .ok (.ireturn, 1) := by decide +kernel
theorem dX4_open_0 : decode cX4_open 0 = .ok (.aload_n 0, 1) := by decide +kernel
theorem dX4_open_1 : decode cX4_open 1 = .ok (.getfield 31, 3) := by decide +kernel
theorem dX4_open_4 : decode cX4_open 4 = .ok (.ifCond .ne 5, 3) := by decide +kernel
theorem dX4_open_7 : decode cX4_open 7 = .ok (.iconst (-1), 1) := by decide +kernel
theorem dX4_open_8 : decode cX4_open 8 = .ok (.ireturn, 1) := by decide +kernel
theorem dX4_open_9 : decode cX4_open 9 = .ok (.aload_n 0, 1) := by decide +kernel
theorem dX4_open_10 : decode cX4_open 10 = .ok (.iconst 0, 1) := by decide +kernel
theorem dX4_open_11 : decode cX4_open 11 = .ok (.putfield 31, 3) := by decide +kernel
theorem dX4_open_14 : decode cX4_open 14 = .ok (.aload_n 0, 1) := by decide +kernel
theorem dX4_open_15 : decode cX4_open 15 = .ok (.getfield 27, 3) := by decide +kernel
theorem dX4_open_18 : decode cX4_open 18 = .ok (.getfield 129, 3) := by decide +kernel
theorem dX4_open_21 : decode cX4_open 21 = .ok (.ireturn, 1) := by decide +kernel
theorem dX4_check_0 : decode cX4_check 0 = .ok (.aload_n 0, 1) := by decide +kernel
theorem dX4_check_1 : decode cX4_check 1 = .ok (.getfield 31, 3) := by decide +kernel
theorem dX4_check_4 : decode cX4_check 4 = .ok (.ifCond .eq 6, 3) := by decide +kernel
theorem dX4_check_7 : decode cX4_check 7 = .ok (.bipush (-2), 2) := by decide +kernel
theorem dX4_check_9 : decode cX4_check 9 = .ok (.ireturn, 1) := by decide +kernel
theorem dX4_check_10 : decode cX4_check 10 = .ok (.aload_n 0, 1) := by decide +kernel
theorem dX4_check_11 : decode cX4_check 11 = .ok (.getfield 27, 3) := by decide +kernel
theorem dX4_check_14 : decode cX4_check 14 = .ok (.invokevirtual 148, 3) := by decide +kernel
theorem dX4_check_17 : decode cX4_check 17 = .ok (.ifCond .eq 7, 3) := by decide +kernel
theorem dX4_check_20 : decode cX4_check 20 = .ok (.iconst 0, 1) := by decide +kernel
theorem dX4_check_21 : decode cX4_check 21 = .ok (.goto 4, 3) := by decide +kernel
theorem dX4_check_24 : decode cX4_check 24 = .ok (.iconst 1, 1) := by decide +kernel
theorem dX4_check_25 : decode cX4_check 25 = .ok (.istore_n 1, 1) := by decide +kernel
theorem dX4_check_26 : decode cX4_check 26 = .ok (.iload_n 1, 1) := by decide +kernel
theorem dX4_check_27 : decode cX4_check 27 = .ok (.aload_n 0, 1) := by decide +kernel
theorem dX4_check_28 : decode cX4_check 28 = .ok (.getfield 27, 3) := by decide +kernel
theorem dX4_check_31 : decode cX4_check 31 = .ok (.invokevirtual 152, 3) := by decide +kernel
theorem dX4_check_34 : decode cX4_check 34 = .ok (.ifCond .eq 17, 3) := by decide +kernel
theorem dX4_check_37 : decode cX4_check 37 = .ok (.aload_n 0, 1) := by decide +kernel
theorem dX4_check_38 : decode cX4_check 38 = .ok (.getfield 18, 3) := by decide +kernel
theorem dX4_check_41 : decode cX4_check 41 = .ok (.invokevirtual 155, 3) := by decide +kernel
theorem dX4_check_44 : decode cX4_check 44 = .ok (.ifCond .eq 7, 3) := by decide +kernel
theorem dX4_check_47 : decode cX4_check 47 = .ok (.iconst 0, 1) := by decide +kernel
theorem dX4_check_48 : decode cX4_check 48 = .ok (.goto 4, 3) := by decide +kernel
theorem dX4_check_51 : decode cX4_check 51 = .ok (.iconst 1, 1) := by decide +kernel
theorem dX4_check_52 : decode cX4_check 52 = .ok (.iadd, 1) := by decide +kernel
theorem dX4_check_53 : decode cX4_check 53 = .ok (.istore_n 1, 1) := by decide +kernel
theorem dX4_check_54 : decode cX4_check 54 = .ok (.iload_n 1, 1) := by decide +kernel
theorem dX4_check_55 : decode cX4_check 55 = .ok (.aload_n 0, 1) := by decide +kernel
theorem dX4_check_56 : decode cX4_check 56 = .ok (.getfield 18, 3) := by decide +kernel
theorem dX4_check_59 : decode cX4_check 59 = .ok (.invokevirtual 156, 3) := by decide +kernel
theorem dX4_check_62 : decode cX4_check 62 = .ok (.ifCond .eq 7, 3) := by decide +kernel
theorem dX4_check_65 : decode cX4_check 65 = .ok (.iconst 0, 1) := by decide +kernel
theorem dX4_check_66 : decode cX4_check 66 = .ok (.goto 4, 3) := by decide +kernel
theorem dX4_check_69 : decode cX4_check 69 = .ok (.iconst 1, 1) := by decide +kernel
theorem dX4_check_70 : decode cX4_check 70 = .ok (.iadd, 1) := by decide +kernel
theorem dX4_check_71 : decode cX4_check 71 = .ok (.istore_n 1, 1) := by decide +kernel
theorem dX4_check_72 : decode cX4_check 72 = .ok (.iload_n 1, 1) := by decide +kernel
theorem dX4_check_73 : decode cX4_check 73 = .ok (.aload_n 0, 1) := by decide +kernel
theorem dX4_check_74 : decode cX4_check 74 = .ok (.getfield 18, 3) := by decide +kernel
theorem dX4_check_77 : decode cX4_check 77 = .ok (.invokevirtual 159, 3) := by decide +kernel
theorem dX4_check_80 : decode cX4_check 80 = .ok (.ifCond .eq 7, 3) := by decide +kernel
theorem dX4_check_83 : decode cX4_check 83 = .ok (.iconst 0, 1) := by decide +kernel
theorem dX4_check_84 : decode cX4_check 84 = .ok (.goto 4, 3) := by decide +kernel
theorem dX4_check_87 : decode cX4_check 87 = .ok (.iconst 1, 1) := by decide +kernel
theorem dX4_check_88 : decode cX4_check 88 = .ok (.iadd, 1) := by decide +kernel
theorem dX4_check_89 : decode cX4_check 89 = .ok (.istore_n 1, 1) := by decide +kernel
theorem dX4_check_90 : decode cX4_check 90 = .ok (.iload_n 1, 1) := by decide +kernel
theorem dX4_check_91 : decode cX4_check 91 = .ok (.aload_n 0, 1) := by decide +kernel
theorem dX4_check_92 : decode cX4_check 92 = .ok (.getfield 27, 3) := by decide +kernel
theorem dX4_check_95 : decode cX4_check 95 = .ok (.invokevirtual 162, 3) := by decide +kernel
theorem dX4_check_98 : decode cX4_check 98 = .ok (.ifCond .eq 17, 3) := by decide +kernel
theorem dX4_check_101 : decode cX4_check 101 = .ok (.aload_n 0, 1) := by decide +kernel
theorem dX4_check_102 : decode cX4_check 102 = .ok (.getfield 18, 3) := by decide +kernel
theorem dX4_check_105 : decode cX4_check 105 = .ok (.invokevirtual 165, 3) := by decide +kernel
theorem dX4_check_108 : decode cX4_check 108 = .ok (.ifCond .eq 7, 3) := by decide +kernel
theorem dX4_check_111 : decode cX4_check 111 = .ok (.iconst 0, 1) := by decide +kernel
theorem dX4_check_112 : decode cX4_check 112 = .ok (.goto 4, 3) := by decide +kernel
theorem dX4_check_115 : decode cX4_check 115 = .ok (.iconst 1, 1) := by decide +kernel
theorem dX4_check_116 : decode cX4_check 116 = .ok (.iadd, 1) := by decide +kernel
theorem dX4_check_117 : decode cX4_check 117 = .ok (.istore_n 1, 1) := by decide +kernel
theorem dX4_check_118 : decode cX4_check 118 = .ok (.iload_n 1, 1) := by decide +kernel
theorem dX4_check_119 : decode cX4_check 119 = .ok (.ireturn, 1) := by decide +kernel
theorem dX4_isSet_0 : decode cX4_isSet 0 = .ok (.iload_n 0, 1) := by decide +kernel
theorem dX4_isSet_1 : decode cX4_isSet 1 = .ok (.ifCond .lt 13, 3) := by decide +kernel
theorem dX4_isSet_4 : decode cX4_isSet 4 = .ok (.iload_n 0, 1) := by decide +kernel
theorem dX4_isSet_5 : decode cX4_isSet 5 = .ok (.bipush 64, 2) := by decide +kernel
theorem dX4_isSet_7 : decode cX4_isSet 7 = .ok (.if_icmp .ge 7, 3) := by decide +kernel
theorem dX4_isSet_10 : decode cX4_isSet 10 = .ok (.iconst 1, 1) := by decide +kernel
theorem dX4_isSet_11 : decode cX4_isSet 11 = .ok (.goto 4, 3) := by decide +kernel
theorem dX4_isSet_14 : decode cX4_isSet 14 = .ok (.iconst 0, 1) := by decide +kernel
theorem dX4_isSet_15 : decode cX4_isSet 15 = .ok (.ireturn, 1) := by decide +kernel
theorem dX4_mixOf_0 : decode cX4_mixOf 0 = .ok (.lload_n 0, 1) := by decide +kernel
theorem dX4_mixOf_1 : decode cX4_mixOf 1 = .ok (.lload_n 0, 1) := by decide +kernel
theorem dX4_mixOf_2 : decode cX4_mixOf 2 = .ok (.bipush 32, 2) := by decide +kernel
theorem dX4_mixOf_4 : decode cX4_mixOf 4 = .ok (.lushr, 1) := by decide +kernel
theorem dX4_mixOf_5 : decode cX4_mixOf 5 = .ok (.lxor, 1) := by decide +kernel
theorem dX4_mixOf_6 : decode cX4_mixOf 6 = .ok (.ldc2_w 166, 3) := by decide +kernel
theorem dX4_mixOf_9 : decode cX4_mixOf 9 = .ok (.lmul, 1) := by decide +kernel
theorem dX4_mixOf_10 : decode cX4_mixOf 10 = .ok (.lstore_n 2, 1) := by decide +kernel
theorem dX4_mixOf_11 : decode cX4_mixOf 11 = .ok (.lload_n 2, 1) := by decide +kernel
theorem dX4_mixOf_12 : decode cX4_mixOf 12 = .ok (.lload_n 2, 1) := by decide +kernel
theorem dX4_mixOf_13 : decode cX4_mixOf 13 = .ok (.bipush 32, 2) := by decide +kernel
theorem dX4_mixOf_15 : decode cX4_mixOf 15 = .ok (.lushr, 1) := by decide +kernel
theorem dX4_mixOf_16 : decode cX4_mixOf 16 = .ok (.lxor, 1) := by decide +kernel
theorem dX4_mixOf_17 : decode cX4_mixOf 17 = .ok (.ldc2_w 166, 3) := by decide +kernel
theorem dX4_mixOf_20 : decode cX4_mixOf 20 = .ok (.lmul, 1) := by decide +kernel
theorem dX4_mixOf_21 : decode cX4_mixOf 21 = .ok (.lstore_n 2, 1) := by decide +kernel
theorem dX4_mixOf_22 : decode cX4_mixOf 22 = .ok (.lload_n 2, 1) := by decide +kernel
theorem dX4_mixOf_23 : decode cX4_mixOf 23 = .ok (.lload_n 2, 1) := by decide +kernel
theorem dX4_mixOf_24 : decode cX4_mixOf 24 = .ok (.bipush 32, 2) := by decide +kernel
theorem dX4_mixOf_26 : decode cX4_mixOf 26 = .ok (.lushr, 1) := by decide +kernel
theorem dX4_mixOf_27 : decode cX4_mixOf 27 = .ok (.lxor, 1) := by decide +kernel
theorem dX4_mixOf_28 : decode cX4_mixOf 28 = .ok (.lreturn, 1) := by decide +kernel
theorem dX4_setOfMix_0 : decode cX4_setOfMix 0 = .ok (.lload_n 0, 1) := by decide +kernel
theorem dX4_setOfMix_1 : decode cX4_setOfMix 1 = .ok (.ldc2_w 168, 3) := by decide +kernel
theorem dX4_setOfMix_4 : decode cX4_setOfMix 4 = .ok (.land, 1) := by decide +kernel
theorem dX4_setOfMix_5 : decode cX4_setOfMix 5 = .ok (.l2i, 1) := by decide +kernel
theorem dX4_setOfMix_6 : decode cX4_setOfMix 6 = .ok (.ireturn, 1) := by decide +kernel
theorem dX4_filterBits_0 : decode cX4_filterBits 0 = .ok (.lload_n 0, 1) := by decide +kernel
theorem dX4_filterBits_1 : decode cX4_filterBits 1 = .ok (.bipush 6, 2) := by decide +kernel
theorem dX4_filterBits_3 : decode cX4_filterBits 3 = .ok (.lushr, 1) := by decide +kernel
theorem dX4_filterBits_4 : decode cX4_filterBits 4 = .ok (.ldc2_w 168, 3) := by decide +kernel
theorem dX4_filterBits_7 : decode cX4_filterBits 7 = .ok (.land, 1) := by decide +kernel
theorem dX4_filterBits_8 : decode cX4_filterBits 8 = .ok (.l2i, 1) := by decide +kernel
theorem dX4_filterBits_9 : decode cX4_filterBits 9 = .ok (.istore_n 2, 1) := by decide +kernel
theorem dX4_filterBits_10 : decode cX4_filterBits 10 = .ok (.lload_n 0, 1) := by decide +kernel
theorem dX4_filterBits_11 : decode cX4_filterBits 11 = .ok (.bipush 12, 2) := by decide +kernel
theorem dX4_filterBits_13 : decode cX4_filterBits 13 = .ok (.lushr, 1) := by decide +kernel
theorem dX4_filterBits_14 : decode cX4_filterBits 14 = .ok (.ldc2_w 168, 3) := by decide +kernel
theorem dX4_filterBits_17 : decode cX4_filterBits 17 = .ok (.land, 1) := by decide +kernel
theorem dX4_filterBits_18 : decode cX4_filterBits 18 = .ok (.l2i, 1) := by decide +kernel
theorem dX4_filterBits_19 : decode cX4_filterBits 19 = .ok (.istore_n 3, 1) := by decide +kernel
theorem dX4_filterBits_20 : decode cX4_filterBits 20 = .ok (.lconst 1, 1) := by decide +kernel
theorem dX4_filterBits_21 : decode cX4_filterBits 21 = .ok (.iload_n 2, 1) := by decide +kernel
theorem dX4_filterBits_22 : decode cX4_filterBits 22 = .ok (.lshl, 1) := by decide +kernel
theorem dX4_filterBits_23 : decode cX4_filterBits 23 = .ok (.lconst 1, 1) := by decide +kernel
theorem dX4_filterBits_24 : decode cX4_filterBits 24 = .ok (.iload_n 3, 1) := by decide +kernel
theorem dX4_filterBits_25 : decode cX4_filterBits 25 = .ok (.lshl, 1) := by decide +kernel
theorem dX4_filterBits_26 : decode cX4_filterBits 26 = .ok (.lor, 1) := by decide +kernel
theorem dX4_filterBits_27 : decode cX4_filterBits 27 = .ok (.lreturn, 1) := by decide +kernel
