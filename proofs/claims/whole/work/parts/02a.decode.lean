theorem dX0_init_0 : decode cX0_init 0 = .ok (.aload_n 0, 1) := by decide +kernel
theorem dX0_init_1 : decode cX0_init 1 = .ok (.invokespecial 3, 3) := by decide +kernel
theorem dX0_init_4 : decode cX0_init 4 = .ok (.lload_n 1, 1) := by decide +kernel
theorem dX0_init_5 : decode cX0_init 5 = .ok (.invokestatic 9, 3) := by decide +kernel
theorem dX0_init_8 : decode cX0_init 8 = .ok (.lstore 6, 2) := by decide +kernel
theorem dX0_init_10 : decode cX0_init 10 = .ok (.aload_n 0, 1) := by decide +kernel
theorem dX0_init_11 : decode cX0_init 11 = .ok (.lload_n 1, 1) := by decide +kernel
theorem dX0_init_12 : decode cX0_init 12 = .ok (.putfield 13, 3) := by decide +kernel
theorem dX0_init_15 : decode cX0_init 15 = .ok (.aload_n 0, 1) := by decide +kernel
theorem dX0_init_16 : decode cX0_init 16 = .ok (.lload 6, 2) := by decide +kernel
theorem dX0_init_18 : decode cX0_init 18 = .ok (.invokestatic 19, 3) := by decide +kernel
theorem dX0_init_21 : decode cX0_init 21 = .ok (.putfield 23, 3) := by decide +kernel
theorem dX0_init_24 : decode cX0_init 24 = .ok (.aload_n 0, 1) := by decide +kernel
theorem dX0_init_25 : decode cX0_init 25 = .ok (.lload 6, 2) := by decide +kernel
theorem dX0_init_27 : decode cX0_init 27 = .ok (.invokestatic 27, 3) := by decide +kernel
theorem dX0_init_30 : decode cX0_init 30 = .ok (.putfield 30, 3) := by decide +kernel
theorem dX0_init_33 : decode cX0_init 33 = .ok (.aload_n 0, 1) := by decide +kernel
theorem dX0_init_34 : decode cX0_init 34 = .ok (.iconst 3, 1) := by decide +kernel
theorem dX0_init_35 : decode cX0_init 35 = .ok (.iload_n 3, 1) := by decide +kernel
theorem dX0_init_36 : decode cX0_init 36 = .ok (.iadd, 1) := by decide +kernel
theorem dX0_init_37 : decode cX0_init 37 = .ok (.putfield 33, 3) := by decide +kernel
theorem dX0_init_40 : decode cX0_init 40 = .ok (.aload_n 0, 1) := by decide +kernel
theorem dX0_init_41 : decode cX0_init 41 = .ok (.iload_n 3, 1) := by decide +kernel
theorem dX0_init_42 : decode cX0_init 42 = .ok (.putfield 36, 3) := by decide +kernel
theorem dX0_init_45 : decode cX0_init 45 = .ok (.aload_n 0, 1) := by decide +kernel
theorem dX0_init_46 : decode cX0_init 46 = .ok (.iload 4, 2) := by decide +kernel
theorem dX0_init_48 : decode cX0_init 48 = .ok (.putfield 39, 3) := by decide +kernel
theorem dX0_init_51 : decode cX0_init 51 = .ok (.aload_n 0, 1) := by decide +kernel
theorem dX0_init_52 : decode cX0_init 52 = .ok (.iload 5, 2) := by decide +kernel
theorem dX0_init_54 : decode cX0_init 54 = .ok (.putfield 42, 3) := by decide +kernel
theorem dX0_init_57 : decode cX0_init 57 = .ok (.return_, 1) := by decide +kernel
theorem dX2_init_0 : decode cX2_init 0 = .ok (.aload_n 0, 1) := by decide +kernel
theorem dX2_init_1 : decode cX2_init 1 = .ok (.invokespecial 3, 3) := by decide +kernel
theorem dX2_init_4 : decode cX2_init 4 = .ok (.aload_n 0, 1) := by decide +kernel
theorem dX2_init_5 : decode cX2_init 5 = .ok (.iload_n 1, 1) := by decide +kernel
theorem dX2_init_6 : decode cX2_init 6 = .ok (.iconst 0, 1) := by decide +kernel
theorem dX2_init_7 : decode cX2_init 7 = .ok (.invokestatic 9, 3) := by decide +kernel
theorem dX2_init_10 : decode cX2_init 10 = .ok (.anewarray 15, 3) := by decide +kernel
theorem dX2_init_13 : decode cX2_init 13 = .ok (.putfield 17, 3) := by decide +kernel
theorem dX2_init_16 : decode cX2_init 16 = .ok (.return_, 1) := by decide +kernel
theorem dX2_at_0 : decode cX2_at 0 = .ok (.iload_n 1, 1) := by decide +kernel
theorem dX2_at_1 : decode cX2_at 1 = .ok (.ifCond .lt 20, 3) := by decide +kernel
theorem dX2_at_4 : decode cX2_at 4 = .ok (.iload_n 1, 1) := by decide +kernel
theorem dX2_at_5 : decode cX2_at 5 = .ok (.aload_n 0, 1) := by decide +kernel
theorem dX2_at_6 : decode cX2_at 6 = .ok (.getfield 23, 3) := by decide +kernel
theorem dX2_at_9 : decode cX2_at 9 = .ok (.if_icmp .ge 12, 3) := by decide +kernel
theorem dX2_at_12 : decode cX2_at 12 = .ok (.aload_n 0, 1) := by decide +kernel
theorem dX2_at_13 : decode cX2_at 13 = .ok (.getfield 17, 3) := by decide +kernel
theorem dX2_at_16 : decode cX2_at 16 = .ok (.iload_n 1, 1) := by decide +kernel
theorem dX2_at_17 : decode cX2_at 17 = .ok (.aaload, 1) := by decide +kernel
theorem dX2_at_18 : decode cX2_at 18 = .ok (.goto 4, 3) := by decide +kernel
theorem dX2_at_21 : decode cX2_at 21 = .ok (.aconst_null, 1) := by decide +kernel
theorem dX2_at_22 : decode cX2_at 22 = .ok (.areturn, 1) := by decide +kernel
theorem dX2_add_0 : decode cX2_add 0 = .ok (.aload_n 0, 1) := by decide +kernel
theorem dX2_add_1 : decode cX2_add 1 = .ok (.getfield 23, 3) := by decide +kernel
theorem dX2_add_4 : decode cX2_add 4 = .ok (.aload_n 0, 1) := by decide +kernel
theorem dX2_add_5 : decode cX2_add 5 = .ok (.getfield 17, 3) := by decide +kernel
theorem dX2_add_8 : decode cX2_add 8 = .ok (.arraylength, 1) := by decide +kernel
theorem dX2_add_9 : decode cX2_add 9 = .ok (.if_icmp .ge 23, 3) := by decide +kernel
theorem dX2_add_12 : decode cX2_add 12 = .ok (.aload_n 0, 1) := by decide +kernel
theorem dX2_add_13 : decode cX2_add 13 = .ok (.getfield 17, 3) := by decide +kernel
theorem dX2_add_16 : decode cX2_add 16 = .ok (.aload_n 0, 1) := by decide +kernel
theorem dX2_add_17 : decode cX2_add 17 = .ok (.getfield 23, 3) := by decide +kernel
theorem dX2_add_20 : decode cX2_add 20 = .ok (.aload_n 1, 1) := by decide +kernel
theorem dX2_add_21 : decode cX2_add 21 = .ok (.aastore, 1) := by decide +kernel
theorem dX2_add_22 : decode cX2_add 22 = .ok (.aload_n 0, 1) := by decide +kernel
theorem dX2_add_23 : decode cX2_add 23 = .ok (.dup, 1) := by decide +kernel
theorem dX2_add_24 : decode cX2_add 24 = .ok (.getfield 23, 3) := by decide +kernel
theorem dX2_add_27 : decode cX2_add 27 = .ok (.iconst 1, 1) := by decide +kernel
theorem dX2_add_28 : decode cX2_add 28 = .ok (.iadd, 1) := by decide +kernel
theorem dX2_add_29 : decode cX2_add 29 = .ok (.putfield 23, 3) := by decide +kernel
theorem dX2_add_32 : decode cX2_add 32 = .ok (.return_, 1) := by decide +kernel
theorem dX2_addAll_0 : decode cX2_addAll 0 = .ok (.iconst 0, 1) := by decide +kernel
theorem dX2_addAll_1 : decode cX2_addAll 1 = .ok (.istore_n 2, 1) := by decide +kernel
theorem dX2_addAll_2 : decode cX2_addAll 2 = .ok (.iload_n 2, 1) := by decide +kernel
theorem dX2_addAll_3 : decode cX2_addAll 3 = .ok (.aload_n 1, 1) := by decide +kernel
theorem dX2_addAll_4 : decode cX2_addAll 4 = .ok (.getfield 23, 3) := by decide +kernel
theorem dX2_addAll_7 : decode cX2_addAll 7 = .ok (.if_icmp .ge 18, 3) := by decide +kernel
theorem dX2_addAll_10 : decode cX2_addAll 10 = .ok (.aload_n 0, 1) := by decide +kernel
theorem dX2_addAll_11 : decode cX2_addAll 11 = .ok (.aload_n 1, 1) := by decide +kernel
theorem dX2_addAll_12 : decode cX2_addAll 12 = .ok (.iload_n 2, 1) := by decide +kernel
theorem dX2_addAll_13 : decode cX2_addAll 13 = .ok (.invokevirtual 27, 3) := by decide +kernel
theorem dX2_addAll_16 : decode cX2_addAll 16 = .ok (.invokevirtual 31, 3) := by decide +kernel
theorem dX2_addAll_19 : decode cX2_addAll 19 = .ok (.iinc 2 1, 3) := by decide +kernel
theorem dX2_addAll_22 : decode cX2_addAll 22 = .ok (.goto (-20), 3) := by decide +kernel
theorem dX2_addAll_25 : decode cX2_addAll 25 = .ok (.return_, 1) := by decide +kernel
theorem dX2_addInLog_0 : decode cX2_addInLog 0 = .ok (.iload_n 2, 1) := by decide +kernel
theorem dX2_addInLog_1 : decode cX2_addInLog 1 = .ok (.istore 4, 2) := by decide +kernel
theorem dX2_addInLog_3 : decode cX2_addInLog 3 = .ok (.iload 4, 2) := by decide +kernel
theorem dX2_addInLog_5 : decode cX2_addInLog 5 = .ok (.aload_n 1, 1) := by decide +kernel
theorem dX2_addInLog_6 : decode cX2_addInLog 6 = .ok (.getfield 23, 3) := by decide +kernel
theorem dX2_addInLog_9 : decode cX2_addInLog 9 = .ok (.if_icmp .ge 45, 3) := by decide +kernel
theorem dX2_addInLog_12 : decode cX2_addInLog 12 = .ok (.aload_n 1, 1) := by decide +kernel
theorem dX2_addInLog_13 : decode cX2_addInLog 13 = .ok (.iload 4, 2) := by decide +kernel
theorem dX2_addInLog_15 : decode cX2_addInLog 15 = .ok (.invokevirtual 27, 3) := by decide +kernel
theorem dX2_addInLog_18 : decode cX2_addInLog 18 = .ok (.astore 5, 2) := by decide +kernel
theorem dX2_addInLog_20 : decode cX2_addInLog 20 = .ok (.aload 5, 2) := by decide +kernel
theorem dX2_addInLog_22 : decode cX2_addInLog 22 = .ok (.ifnull 26, 3) := by decide +kernel
theorem dX2_addInLog_25 : decode cX2_addInLog 25 = .ok (.aload 5, 2) := by decide +kernel
theorem dX2_addInLog_27 : decode cX2_addInLog 27 = .ok (.getfield 35, 3) := by decide +kernel
theorem dX2_addInLog_30 : decode cX2_addInLog 30 = .ok (.ifCond .eq 18, 3) := by decide +kernel
theorem dX2_addInLog_33 : decode cX2_addInLog 33 = .ok (.aload 5, 2) := by decide +kernel
theorem dX2_addInLog_35 : decode cX2_addInLog 35 = .ok (.getfield 39, 3) := by decide +kernel
theorem dX2_addInLog_38 : decode cX2_addInLog 38 = .ok (.iload_n 3, 1) := by decide +kernel
theorem dX2_addInLog_39 : decode cX2_addInLog 39 = .ok (.if_icmp .ne 9, 3) := by decide +kernel
theorem dX2_addInLog_42 : decode cX2_addInLog 42 = .ok (.aload_n 0, 1) := by decide +kernel
theorem dX2_addInLog_43 : decode cX2_addInLog 43 = .ok (.aload 5, 2) := by decide +kernel
theorem dX2_addInLog_45 : decode cX2_addInLog 45 = .ok (.invokevirtual 31, 3) := by decide +kernel
theorem dX2_addInLog_48 : decode cX2_addInLog 48 = .ok (.iinc 4 1, 3) := by decide +kernel
theorem dX2_addInLog_51 : decode cX2_addInLog 51 = .ok (.goto (-48), 3) := by decide +kernel
theorem dX2_addInLog_54 : decode cX2_addInLog 54 = .ok (.return_, 1) := by decide +kernel
theorem dX2_clear_0 : decode cX2_clear 0 = .ok (.aload_n 0, 1) := by decide +kernel
theorem dX2_clear_1 : decode cX2_clear 1 = .ok (.iconst 0, 1) := by decide +kernel
theorem dX2_clear_2 : decode cX2_clear 2 = .ok (.putfield 23, 3) := by decide +kernel
theorem dX2_clear_5 : decode cX2_clear 5 = .ok (.return_, 1) := by decide +kernel
theorem dX2_blank_0 : decode cX2_blank 0 = .ok (.iload_n 1, 1) := by decide +kernel
theorem dX2_blank_1 : decode cX2_blank 1 = .ok (.ifCond .lt 18, 3) := by decide +kernel
theorem dX2_blank_4 : decode cX2_blank 4 = .ok (.iload_n 1, 1) := by decide +kernel
theorem dX2_blank_5 : decode cX2_blank 5 = .ok (.aload_n 0, 1) := by decide +kernel
theorem dX2_blank_6 : decode cX2_blank 6 = .ok (.getfield 23, 3) := by decide +kernel
theorem dX2_blank_9 : decode cX2_blank 9 = .ok (.if_icmp .ge 10, 3) := by decide +kernel
theorem dX2_blank_12 : decode cX2_blank 12 = .ok (.aload_n 0, 1) := by decide +kernel
theorem dX2_blank_13 : decode cX2_blank 13 = .ok (.getfield 17, 3) := by decide +kernel
theorem dX2_blank_16 : decode cX2_blank 16 = .ok (.iload_n 1, 1) := by decide +kernel
theorem dX2_blank_17 : decode cX2_blank 17 = .ok (.aconst_null, 1) := by decide +kernel
theorem dX2_blank_18 : decode cX2_blank 18 = .ok (.aastore, 1) := by decide +kernel
theorem dX2_blank_19 : decode cX2_blank 19 = .ok (.return_, 1) := by decide +kernel
theorem dX2_closeUpOver_0 : decode cX2_closeUpOver 0 = .ok (.iload_n 1, 1) := by decide +kernel
theorem dX2_closeUpOver_1 : decode cX2_closeUpOver 1 = .ok (.ifCond .lt 11, 3) := by decide +kernel
theorem dX2_closeUpOver_4 : decode cX2_closeUpOver 4 = .ok (.iload_n 1, 1) := by decide +kernel
theorem dX2_closeUpOver_5 : decode cX2_closeUpOver 5 = .ok (.aload_n 0, 1) := by decide +kernel
theorem dX2_closeUpOver_6 : decode cX2_closeUpOver 6 = .ok (.getfield 23, 3) := by decide +kernel
theorem dX2_closeUpOver_9 : decode cX2_closeUpOver 9 = .ok (.if_icmp .lt 4, 3) := by decide +kernel
theorem dX2_closeUpOver_12 : decode cX2_closeUpOver 12 = .ok (.return_, 1) := by decide +kernel
theorem dX2_closeUpOver_13 : decode cX2_closeUpOver 13 = .ok (.iload_n 1, 1) := by decide +kernel
theorem dX2_closeUpOver_14 : decode cX2_closeUpOver 14 = .ok (.iconst 1, 1) := by decide +kernel
theorem dX2_closeUpOver_15 : decode cX2_closeUpOver 15 = .ok (.iadd, 1) := by decide +kernel
theorem dX2_closeUpOver_16 : decode cX2_closeUpOver 16 = .ok (.istore_n 2, 1) := by decide +kernel
theorem dX2_closeUpOver_17 : decode cX2_closeUpOver 17 = .ok (.iload_n 2, 1) := by decide +kernel
theorem dX2_closeUpOver_18 : decode cX2_closeUpOver 18 = .ok (.aload_n 0, 1) := by decide +kernel
theorem dX2_closeUpOver_19 : decode cX2_closeUpOver 19 = .ok (.getfield 23, 3) := by decide +kernel
theorem dX2_closeUpOver_22 : decode cX2_closeUpOver 22 = .ok (.if_icmp .ge 23, 3) := by decide +kernel
theorem dX2_closeUpOver_25 : decode cX2_closeUpOver 25 = .ok (.aload_n 0, 1) := by decide +kernel
theorem dX2_closeUpOver_26 : decode cX2_closeUpOver 26 = .ok (.getfield 17, 3) := by decide +kernel
theorem dX2_closeUpOver_29 : decode cX2_closeUpOver 29 = .ok (.iload_n 2, 1) := by decide +kernel
theorem dX2_closeUpOver_30 : decode cX2_closeUpOver 30 = .ok (.iconst 1, 1) := by decide +kernel
theorem dX2_closeUpOver_31 : decode cX2_closeUpOver 31 = .ok (.isub, 1) := by decide +kernel
theorem dX2_closeUpOver_32 : decode cX2_closeUpOver 32 = .ok (.aload_n 0, 1) := by decide +kernel
theorem dX2_closeUpOver_33 : decode cX2_closeUpOver 33 = .ok (.getfield 17, 3) := by decide +kernel
theorem dX2_closeUpOver_36 : decode cX2_closeUpOver 36 = .ok (.iload_n 2, 1) := by decide +kernel
theorem dX2_closeUpOver_37 : decode cX2_closeUpOver 37 = .ok (.aaload, 1) := by decide +kernel
theorem dX2_closeUpOver_38 : decode cX2_closeUpOver 38 = .ok (.aastore, 1) := by decide +kernel
theorem dX2_closeUpOver_39 : decode cX2_closeUpOver 39 = .ok (.iinc 2 1, 3) := by decide +kernel
theorem dX2_closeUpOver_42 : decode cX2_closeUpOver 42 = .ok (.goto (-25), 3) := by decide +kernel
theorem dX2_closeUpOver_45 : decode cX2_closeUpOver 45 = .ok (.aload_n 0, 1) := by decide +kernel
theorem dX2_closeUpOver_46 : decode cX2_closeUpOver 46 = .ok (.dup, 1) := by decide +kernel
theorem dX2_closeUpOver_47 : decode cX2_closeUpOver 47 = .ok (.getfield 23, 3) := by decide +kernel
theorem dX2_closeUpOver_50 : decode cX2_closeUpOver 50 = .ok (.iconst 1, 1) := by decide +kernel
theorem dX2_closeUpOver_51 : decode cX2_closeUpOver 51 = .ok (.isub, 1) := by decide +kernel
theorem dX2_closeUpOver_52 : decode cX2_closeUpOver 52 = .ok (.putfield 23, 3) := by decide +kernel
theorem dX2_closeUpOver_55 : decode cX2_closeUpOver 55 = .ok (.return_, 1) := by decide +kernel
theorem dX2_indexOf_0 : decode cX2_indexOf 0 = .ok (.iconst 0, 1) := by decide +kernel
theorem dX2_indexOf_1 : decode cX2_indexOf 1 = .ok (.istore_n 3, 1) := by decide +kernel
theorem dX2_indexOf_2 : decode cX2_indexOf 2 = .ok (.iload_n 3, 1) := by decide +kernel
theorem dX2_indexOf_3 : decode cX2_indexOf 3 = .ok (.aload_n 0, 1) := by decide +kernel
theorem dX2_indexOf_4 : decode cX2_indexOf 4 = .ok (.getfield 23, 3) := by decide +kernel
theorem dX2_indexOf_7 : decode cX2_indexOf 7 = .ok (.if_icmp .ge 34, 3) := by decide +kernel
theorem dX2_indexOf_10 : decode cX2_indexOf 10 = .ok (.aload_n 0, 1) := by decide +kernel
theorem dX2_indexOf_11 : decode cX2_indexOf 11 = .ok (.getfield 17, 3) := by decide +kernel
theorem dX2_indexOf_14 : decode cX2_indexOf 14 = .ok (.iload_n 3, 1) := by decide +kernel
theorem dX2_indexOf_15 : decode cX2_indexOf 15 = .ok (.aaload, 1) := by decide +kernel
theorem dX2_indexOf_16 : decode cX2_indexOf 16 = .ok (.astore 4, 2) := by decide +kernel
theorem dX2_indexOf_18 : decode cX2_indexOf 18 = .ok (.aload 4, 2) := by decide +kernel
theorem dX2_indexOf_20 : decode cX2_indexOf 20 = .ok (.ifnull 15, 3) := by decide +kernel
theorem dX2_indexOf_23 : decode cX2_indexOf 23 = .ok (.aload 4, 2) := by decide +kernel
theorem dX2_indexOf_25 : decode cX2_indexOf 25 = .ok (.getfield 42, 3) := by decide +kernel
theorem dX2_indexOf_28 : decode cX2_indexOf 28 = .ok (.lload_n 1, 1) := by decide +kernel
theorem dX2_indexOf_29 : decode cX2_indexOf 29 = .ok (.lcmp, 1) := by decide +kernel
theorem dX2_indexOf_30 : decode cX2_indexOf 30 = .ok (.ifCond .ne 5, 3) := by decide +kernel
theorem dX2_indexOf_33 : decode cX2_indexOf 33 = .ok (.iload_n 3, 1) := by decide +kernel
theorem dX2_indexOf_34 : decode cX2_indexOf 34 = .ok (.ireturn, 1) := by decide +kernel
theorem dX2_indexOf_35 : decode cX2_indexOf 35 = .ok (.iinc 3 1, 3) := by decide +kernel
theorem dX2_indexOf_38 : decode cX2_indexOf 38 = .ok (.goto (-36), 3) := by decide +kernel
theorem dX2_indexOf_41 : decode cX2_indexOf 41 = .ok (.iconst (-1), 1) := by decide +kernel
theorem dX2_indexOf_42 : decode cX2_indexOf 42 = .ok (.ireturn, 1) := by decide +kernel
theorem dX2_findInLog_0 : decode cX2_findInLog 0 = .ok (.iconst 0, 1) := by decide +kernel
theorem dX2_findInLog_1 : decode cX2_findInLog 1 = .ok (.istore_n 3, 1) := by decide +kernel
theorem dX2_findInLog_2 : decode cX2_findInLog 2 = .ok (.iload_n 3, 1) := by decide +kernel
theorem dX2_findInLog_3 : decode cX2_findInLog 3 = .ok (.aload_n 0, 1) := by decide +kernel
theorem dX2_findInLog_4 : decode cX2_findInLog 4 = .ok (.getfield 23, 3) := by decide +kernel
theorem dX2_findInLog_7 : decode cX2_findInLog 7 = .ok (.if_icmp .ge 43, 3) := by decide +kernel
theorem dX2_findInLog_10 : decode cX2_findInLog 10 = .ok (.aload_n 0, 1) := by decide +kernel
theorem dX2_findInLog_11 : decode cX2_findInLog 11 = .ok (.getfield 17, 3) := by decide +kernel
theorem dX2_findInLog_14 : decode cX2_findInLog 14 = .ok (.iload_n 3, 1) := by decide +kernel
theorem dX2_findInLog_15 : decode cX2_findInLog 15 = .ok (.aaload, 1) := by decide +kernel
theorem dX2_findInLog_16 : decode cX2_findInLog 16 = .ok (.astore 4, 2) := by decide +kernel
theorem dX2_findInLog_18 : decode cX2_findInLog 18 = .ok (.aload 4, 2) := by decide +kernel
theorem dX2_findInLog_20 : decode cX2_findInLog 20 = .ok (.ifnull 24, 3) := by decide +kernel
theorem dX2_findInLog_23 : decode cX2_findInLog 23 = .ok (.aload 4, 2) := by decide +kernel
theorem dX2_findInLog_25 : decode cX2_findInLog 25 = .ok (.getfield 42, 3) := by decide +kernel
theorem dX2_findInLog_28 : decode cX2_findInLog 28 = .ok (.lload_n 1, 1) := by decide +kernel
theorem dX2_findInLog_29 : decode cX2_findInLog 29 = .ok (.lcmp, 1) := by decide +kernel
theorem dX2_findInLog_30 : decode cX2_findInLog 30 = .ok (.ifCond .ne 14, 3) := by decide +kernel
theorem dX2_findInLog_33 : decode cX2_findInLog 33 = .ok (.aload 4, 2) := by decide +kernel
theorem dX2_findInLog_35 : decode cX2_findInLog 35 = .ok (.getfield 35, 3) := by decide +kernel
theorem dX2_findInLog_38 : decode cX2_findInLog 38 = .ok (.ifCond .eq 6, 3) := by decide +kernel
theorem dX2_findInLog_41 : decode cX2_findInLog 41 = .ok (.aload 4, 2) := by decide +kernel
theorem dX2_findInLog_43 : decode cX2_findInLog 43 = .ok (.areturn, 1) := by decide +kernel
theorem dX2_findInLog_44 : decode cX2_findInLog 44 = .ok (.iinc 3 1, 3) := by decide +kernel
theorem dX2_findInLog_47 : decode cX2_findInLog 47 = .ok (.goto (-45), 3) := by decide +kernel
theorem dX2_findInLog_50 : decode cX2_findInLog 50 = .ok (.aconst_null, 1) := by decide +kernel
theorem dX2_findInLog_51 : decode cX2_findInLog 51 = .ok (.areturn, 1) := by decide +kernel
theorem dX2_countInLog_0 : decode cX2_countInLog 0 = .ok (.iconst 0, 1) := by decide +kernel
theorem dX2_countInLog_1 : decode cX2_countInLog 1 = .ok (.istore_n 1, 1) := by decide +kernel
theorem dX2_countInLog_2 : decode cX2_countInLog 2 = .ok (.iconst 0, 1) := by decide +kernel
theorem dX2_countInLog_3 : decode cX2_countInLog 3 = .ok (.istore_n 2, 1) := by decide +kernel
theorem dX2_countInLog_4 : decode cX2_countInLog 4 = .ok (.iload_n 2, 1) := by decide +kernel
theorem dX2_countInLog_5 : decode cX2_countInLog 5 = .ok (.aload_n 0, 1) := by decide +kernel
theorem dX2_countInLog_6 : decode cX2_countInLog 6 = .ok (.getfield 23, 3) := by decide +kernel
theorem dX2_countInLog_9 : decode cX2_countInLog 9 = .ok (.if_icmp .ge 30, 3) := by decide +kernel
theorem dX2_countInLog_12 : decode cX2_countInLog 12 = .ok (.aload_n 0, 1) := by decide +kernel
theorem dX2_countInLog_13 : decode cX2_countInLog 13 = .ok (.getfield 17, 3) := by decide +kernel
theorem dX2_countInLog_16 : decode cX2_countInLog 16 = .ok (.iload_n 2, 1) := by decide +kernel
theorem dX2_countInLog_17 : decode cX2_countInLog 17 = .ok (.aaload, 1) := by decide +kernel
theorem dX2_countInLog_18 : decode cX2_countInLog 18 = .ok (.astore_n 3, 1) := by decide +kernel
theorem dX2_countInLog_19 : decode cX2_countInLog 19 = .ok (.aload_n 3, 1) := by decide +kernel
theorem dX2_countInLog_20 : decode cX2_countInLog 20 = .ok (.ifnull 13, 3) := by decide +kernel
theorem dX2_countInLog_23 : decode cX2_countInLog 23 = .ok (.aload_n 3, 1) := by decide +kernel
theorem dX2_countInLog_24 : decode cX2_countInLog 24 = .ok (.getfield 35, 3) := by decide +kernel
theorem dX2_countInLog_27 : decode cX2_countInLog 27 = .ok (.ifCond .eq 6, 3) := by decide +kernel
theorem dX2_countInLog_30 : decode cX2_countInLog 30 = .ok (.iinc 1 1, 3) := by decide +kernel
theorem dX2_countInLog_33 : decode cX2_countInLog 33 = .ok (.iinc 2 1, 3) := by decide +kernel
theorem dX2_countInLog_36 : decode cX2_countInLog 36 = .ok (.goto (-32), 3) := by decide +kernel
theorem dX2_countInLog_39 : decode cX2_countInLog 39 = .ok (.iload_n 1, 1) := by decide +kernel
theorem dX2_countInLog_40 : decode cX2_countInLog 40 = .ok (.ireturn, 1) := by decide +kernel
theorem dX2_places_0 : decode cX2_places 0 = .ok (.iconst 0, 1) := by decide +kernel
theorem dX2_places_1 : decode cX2_places 1 = .ok (.istore_n 1, 1) := by decide +kernel
theorem dX2_places_2 : decode cX2_places 2 = .ok (.iconst 0, 1) := by decide +kernel
theorem dX2_places_3 : decode cX2_places 3 = .ok (.istore_n 2, 1) := by decide +kernel
theorem dX2_places_4 : decode cX2_places 4 = .ok (.iload_n 2, 1) := by decide +kernel
theorem dX2_places_5 : decode cX2_places 5 = .ok (.aload_n 0, 1) := by decide +kernel
theorem dX2_places_6 : decode cX2_places 6 = .ok (.getfield 23, 3) := by decide +kernel
theorem dX2_places_9 : decode cX2_places 9 = .ok (.if_icmp .ge 27, 3) := by decide +kernel
theorem dX2_places_12 : decode cX2_places 12 = .ok (.aload_n 0, 1) := by decide +kernel
theorem dX2_places_13 : decode cX2_places 13 = .ok (.getfield 17, 3) := by decide +kernel
theorem dX2_places_16 : decode cX2_places 16 = .ok (.iload_n 2, 1) := by decide +kernel
theorem dX2_places_17 : decode cX2_places 17 = .ok (.aaload, 1) := by decide +kernel
theorem dX2_places_18 : decode cX2_places 18 = .ok (.astore_n 3, 1) := by decide +kernel
theorem dX2_places_19 : decode cX2_places 19 = .ok (.aload_n 3, 1) := by decide +kernel
theorem dX2_places_20 : decode cX2_places 20 = .ok (.ifnull 10, 3) := by decide +kernel
theorem dX2_places_23 : decode cX2_places 23 = .ok (.iload_n 1, 1) := by decide +kernel
theorem dX2_places_24 : decode cX2_places 24 = .ok (.aload_n 3, 1) := by decide +kernel
theorem dX2_places_25 : decode cX2_places 25 = .ok (.getfield 46, 3) := by decide +kernel
theorem dX2_places_28 : decode cX2_places 28 = .ok (.iadd, 1) := by decide +kernel
theorem dX2_places_29 : decode cX2_places 29 = .ok (.istore_n 1, 1) := by decide +kernel
theorem dX2_places_30 : decode cX2_places 30 = .ok (.iinc 2 1, 3) := by decide +kernel
theorem dX2_places_33 : decode cX2_places 33 = .ok (.goto (-29), 3) := by decide +kernel
theorem dX2_places_36 : decode cX2_places 36 = .ok (.iload_n 1, 1) := by decide +kernel
theorem dX2_places_37 : decode cX2_places 37 = .ok (.ireturn, 1) := by decide +kernel
theorem dX2_hasRoomFor_0 : decode cX2_hasRoomFor 0 = .ok (.aload_n 0, 1) := by decide +kernel
theorem dX2_hasRoomFor_1 : decode cX2_hasRoomFor 1 = .ok (.invokevirtual 49, 3) := by decide +kernel
theorem dX2_hasRoomFor_4 : decode cX2_hasRoomFor 4 = .ok (.aload_n 1, 1) := by decide +kernel
theorem dX2_hasRoomFor_5 : decode cX2_hasRoomFor 5 = .ok (.getfield 46, 3) := by decide +kernel
theorem dX2_hasRoomFor_8 : decode cX2_hasRoomFor 8 = .ok (.iadd, 1) := by decide +kernel
theorem dX2_hasRoomFor_9 : decode cX2_hasRoomFor 9 = .ok (.bipush 32, 2) := by decide +kernel
theorem dX2_hasRoomFor_11 : decode cX2_hasRoomFor 11 = .ok (.if_icmp .gt 7, 3) := by decide +kernel
theorem dX2_hasRoomFor_14 : decode cX2_hasRoomFor 14 = .ok (.iconst 1, 1) := by decide +kernel
theorem dX2_hasRoomFor_15 : decode cX2_hasRoomFor 15 = .ok (.goto 4, 3) := by decide +kernel
theorem dX2_hasRoomFor_18 : decode cX2_hasRoomFor 18 = .ok (.iconst 0, 1) := by decide +kernel
theorem dX2_hasRoomFor_19 : decode cX2_hasRoomFor 19 = .ok (.ireturn, 1) := by decide +kernel
theorem dX2_filterOfKeys_0 : decode cX2_filterOfKeys 0 = .ok (.lconst 0, 1) := by decide +kernel
theorem dX2_filterOfKeys_1 : decode cX2_filterOfKeys 1 = .ok (.lstore_n 1, 1) := by decide +kernel
theorem dX2_filterOfKeys_2 : decode cX2_filterOfKeys 2 = .ok (.iconst 0, 1) := by decide +kernel
theorem dX2_filterOfKeys_3 : decode cX2_filterOfKeys 3 = .ok (.istore_n 3, 1) := by decide +kernel
theorem dX2_filterOfKeys_4 : decode cX2_filterOfKeys 4 = .ok (.iload_n 3, 1) := by decide +kernel
theorem dX2_filterOfKeys_5 : decode cX2_filterOfKeys 5 = .ok (.aload_n 0, 1) := by decide +kernel
theorem dX2_filterOfKeys_6 : decode cX2_filterOfKeys 6 = .ok (.getfield 23, 3) := by decide +kernel
theorem dX2_filterOfKeys_9 : decode cX2_filterOfKeys 9 = .ok (.if_icmp .ge 30, 3) := by decide +kernel
theorem dX2_filterOfKeys_12 : decode cX2_filterOfKeys 12 = .ok (.aload_n 0, 1) := by decide +kernel
theorem dX2_filterOfKeys_13 : decode cX2_filterOfKeys 13 = .ok (.getfield 17, 3) := by decide +kernel
theorem dX2_filterOfKeys_16 : decode cX2_filterOfKeys 16 = .ok (.iload_n 3, 1) := by decide +kernel
theorem dX2_filterOfKeys_17 : decode cX2_filterOfKeys 17 = .ok (.aaload, 1) := by decide +kernel
theorem dX2_filterOfKeys_18 : decode cX2_filterOfKeys 18 = .ok (.astore 4, 2) := by decide +kernel
theorem dX2_filterOfKeys_20 : decode cX2_filterOfKeys 20 = .ok (.aload 4, 2) := by decide +kernel
theorem dX2_filterOfKeys_22 : decode cX2_filterOfKeys 22 = .ok (.ifnull 11, 3) := by decide +kernel
theorem dX2_filterOfKeys_25 : decode cX2_filterOfKeys 25 = .ok (.lload_n 1, 1) := by decide +kernel
theorem dX2_filterOfKeys_26 : decode cX2_filterOfKeys 26 = .ok (.aload 4, 2) := by decide +kernel
theorem dX2_filterOfKeys_28 : decode cX2_filterOfKeys 28 = .ok (.getfield 52, 3) := by decide +kernel
theorem dX2_filterOfKeys_31 : decode cX2_filterOfKeys 31 = .ok (.lor, 1) := by decide +kernel
theorem dX2_filterOfKeys_32 : decode cX2_filterOfKeys 32 = .ok (.lstore_n 1, 1) := by decide +kernel
theorem dX2_filterOfKeys_33 : decode cX2_filterOfKeys 33 = .ok (.iinc 3 1, 3) := by decide +kernel
theorem dX2_filterOfKeys_36 : decode cX2_filterOfKeys 36 = .ok (.goto (-32), 3) := by decide +kernel
theorem dX2_filterOfKeys_39 : decode cX2_filterOfKeys 39 = .ok (.lload_n 1, 1) := by decide +kernel
theorem dX2_filterOfKeys_40 : decode cX2_filterOfKeys 40 = .ok (.lreturn, 1) := by decide +kernel
theorem dX2_belongsTo_0 : decode cX2_belongsTo 0 = .ok (.iconst 0, 1) := by decide +kernel
theorem dX2_belongsTo_1 : decode cX2_belongsTo 1 = .ok (.istore_n 2, 1) := by decide +kernel
theorem dX2_belongsTo_2 : decode cX2_belongsTo 2 = .ok (.iload_n 2, 1) := by decide +kernel
theorem dX2_belongsTo_3 : decode cX2_belongsTo 3 = .ok (.aload_n 0, 1) := by decide +kernel
theorem dX2_belongsTo_4 : decode cX2_belongsTo 4 = .ok (.getfield 23, 3) := by decide +kernel
theorem dX2_belongsTo_7 : decode cX2_belongsTo 7 = .ok (.if_icmp .ge 42, 3) := by decide +kernel
theorem dX2_belongsTo_10 : decode cX2_belongsTo 10 = .ok (.aload_n 0, 1) := by decide +kernel
theorem dX2_belongsTo_11 : decode cX2_belongsTo 11 = .ok (.getfield 17, 3) := by decide +kernel
theorem dX2_belongsTo_14 : decode cX2_belongsTo 14 = .ok (.iload_n 2, 1) := by decide +kernel
theorem dX2_belongsTo_15 : decode cX2_belongsTo 15 = .ok (.aaload, 1) := by decide +kernel
theorem dX2_belongsTo_16 : decode cX2_belongsTo 16 = .ok (.astore_n 3, 1) := by decide +kernel
theorem dX2_belongsTo_17 : decode cX2_belongsTo 17 = .ok (.aload_n 3, 1) := by decide +kernel
theorem dX2_belongsTo_18 : decode cX2_belongsTo 18 = .ok (.ifnull 23, 3) := by decide +kernel
theorem dX2_belongsTo_21 : decode cX2_belongsTo 21 = .ok (.aload_n 3, 1) := by decide +kernel
theorem dX2_belongsTo_22 : decode cX2_belongsTo 22 = .ok (.getfield 39, 3) := by decide +kernel
theorem dX2_belongsTo_25 : decode cX2_belongsTo 25 = .ok (.iload_n 1, 1) := by decide +kernel
theorem dX2_belongsTo_26 : decode cX2_belongsTo 26 = .ok (.if_icmp .ne 15, 3) := by decide +kernel
theorem dX2_belongsTo_29 : decode cX2_belongsTo 29 = .ok (.aload_n 0, 1) := by decide +kernel
theorem dX2_belongsTo_30 : decode cX2_belongsTo 30 = .ok (.aload_n 3, 1) := by decide +kernel
theorem dX2_belongsTo_31 : decode cX2_belongsTo 31 = .ok (.getfield 42, 3) := by decide +kernel
theorem dX2_belongsTo_34 : decode cX2_belongsTo 34 = .ok (.invokevirtual 55, 3) := by decide +kernel
theorem dX2_belongsTo_37 : decode cX2_belongsTo 37 = .ok (.iload_n 2, 1) := by decide +kernel
theorem dX2_belongsTo_38 : decode cX2_belongsTo 38 = .ok (.if_icmp .eq 5, 3) := by decide +kernel
theorem dX2_belongsTo_41 : decode cX2_belongsTo 41 = .ok (.iconst 0, 1) := by decide +kernel
theorem dX2_belongsTo_42 : decode cX2_belongsTo 42 = .ok (.ireturn, 1) := by decide +kernel
theorem dX2_belongsTo_43 : decode cX2_belongsTo 43 = .ok (.iinc 2 1, 3) := by decide +kernel
theorem dX2_belongsTo_46 : decode cX2_belongsTo 46 = .ok (.goto (-44), 3) := by decide +kernel
theorem dX2_belongsTo_49 : decode cX2_belongsTo 49 = .ok (.iconst 1, 1) := by decide +kernel
theorem dX2_belongsTo_50 : decode cX2_belongsTo 50 = .ok (.ireturn, 1) := by decide +kernel
theorem dX3_init_0 : decode cX3_init 0 = .ok (.aload_n 0, 1) := by decide +kernel
theorem dX3_init_1 : decode cX3_init 1 = .ok (.invokespecial 3, 3) := by decide +kernel
theorem dX3_init_4 : decode cX3_init 4 = .ok (.aload_n 0, 1) := by decide +kernel
theorem dX3_init_5 : decode cX3_init 5 = .ok (.aload_n 1, 1) := by decide +kernel
theorem dX3_init_6 : decode cX3_init 6 = .ok (.putfield 9, 3) := by decide +kernel
theorem dX3_init_9 : decode cX3_init 9 = .ok (.aload_n 0, 1) := by decide +kernel
theorem dX3_init_10 : decode cX3_init 10 = .ok (.bipush 64, 2) := by decide +kernel
theorem dX3_init_12 : decode cX3_init 12 = .ok (.anewarray 15, 3) := by decide +kernel
theorem dX3_init_15 : decode cX3_init 15 = .ok (.putfield 17, 3) := by decide +kernel
theorem dX3_init_18 : decode cX3_init 18 = .ok (.iconst 0, 1) := by decide +kernel
theorem dX3_init_19 : decode cX3_init 19 = .ok (.istore_n 2, 1) := by decide +kernel
theorem dX3_init_20 : decode cX3_init 20 = .ok (.iload_n 2, 1) := by decide +kernel
theorem dX3_init_21 : decode cX3_init 21 = .ok (.bipush 64, 2) := by decide +kernel
theorem dX3_init_23 : decode cX3_init 23 = .ok (.if_icmp .ge 24, 3) := by decide +kernel
theorem dX3_init_26 : decode cX3_init 26 = .ok (.aload_n 0, 1) := by decide +kernel
theorem dX3_init_27 : decode cX3_init 27 = .ok (.getfield 17, 3) := by decide +kernel
theorem dX3_init_30 : decode cX3_init 30 = .ok (.iload_n 2, 1) := by decide +kernel
theorem dX3_init_31 : decode cX3_init 31 = .ok (.new 15, 3) := by decide +kernel
theorem dX3_init_34 : decode cX3_init 34 = .ok (.dup, 1) := by decide +kernel
theorem dX3_init_35 : decode cX3_init 35 = .ok (.bipush 8, 2) := by decide +kernel
theorem dX3_init_37 : decode cX3_init 37 = .ok (.invokespecial 21, 3) := by decide +kernel
theorem dX3_init_40 : decode cX3_init 40 = .ok (.aastore, 1) := by decide +kernel
theorem dX3_init_41 : decode cX3_init 41 = .ok (.iinc 2 1, 3) := by decide +kernel
theorem dX3_init_44 : decode cX3_init 44 = .ok (.goto (-24), 3) := by decide +kernel
theorem dX3_init_47 : decode cX3_init 47 = .ok (.aload_n 0, 1) := by decide +kernel
theorem dX3_init_48 : decode cX3_init 48 = .ok (.bipush 64, 2) := by decide +kernel
theorem dX3_init_50 : decode cX3_init 50 = .ok (.newarray .long, 2) := by decide +kernel
theorem dX3_init_52 : decode cX3_init 52 = .ok (.putfield 24, 3) := by decide +kernel
theorem dX3_init_55 : decode cX3_init 55 = .ok (.aload_n 0, 1) := by decide +kernel
theorem dX3_init_56 : decode cX3_init 56 = .ok (.new 15, 3) := by decide +kernel
theorem dX3_init_59 : decode cX3_init 59 = .ok (.dup, 1) := by decide +kernel
theorem dX3_init_60 : decode cX3_init 60 = .ok (.sipush 272, 3) := by decide +kernel
theorem dX3_init_63 : decode cX3_init 63 = .ok (.invokespecial 21, 3) := by decide +kernel
theorem dX3_init_66 : decode cX3_init 66 = .ok (.putfield 28, 3) := by decide +kernel
theorem dX3_init_69 : decode cX3_init 69 = .ok (.return_, 1) := by decide +kernel
theorem dX3_find_0 : decode cX3_find 0 = .ok (.aload_n 0, 1) := by decide +kernel
theorem dX3_find_1 : decode cX3_find 1 = .ok (.getfield 17, 3) := by decide +kernel
theorem dX3_find_4 : decode cX3_find 4 = .ok (.lload_n 1, 1) := by decide +kernel
theorem dX3_find_5 : decode cX3_find 5 = .ok (.invokestatic 32, 3) := by decide +kernel
theorem dX3_find_8 : decode cX3_find 8 = .ok (.invokestatic 36, 3) := by decide +kernel
theorem dX3_find_11 : decode cX3_find 11 = .ok (.aaload, 1) := by decide +kernel
theorem dX3_find_12 : decode cX3_find 12 = .ok (.astore_n 3, 1) := by decide +kernel
theorem dX3_find_13 : decode cX3_find 13 = .ok (.aload_n 3, 1) := by decide +kernel
theorem dX3_find_14 : decode cX3_find 14 = .ok (.aload_n 3, 1) := by decide +kernel
theorem dX3_find_15 : decode cX3_find 15 = .ok (.lload_n 1, 1) := by decide +kernel
theorem dX3_find_16 : decode cX3_find 16 = .ok (.invokevirtual 40, 3) := by decide +kernel
theorem dX3_find_19 : decode cX3_find 19 = .ok (.invokevirtual 43, 3) := by decide +kernel
theorem dX3_find_22 : decode cX3_find 22 = .ok (.areturn, 1) := by decide +kernel
theorem dX3_read_0 : decode cX3_read 0 = .ok (.lload_n 1, 1) := by decide +kernel
theorem dX3_read_1 : decode cX3_read 1 = .ok (.invokestatic 32, 3) := by decide +kernel
theorem dX3_read_4 : decode cX3_read 4 = .ok (.lstore_n 3, 1) := by decide +kernel
theorem dX3_read_5 : decode cX3_read 5 = .ok (.lload_n 3, 1) := by decide +kernel
theorem dX3_read_6 : decode cX3_read 6 = .ok (.invokestatic 36, 3) := by decide +kernel
theorem dX3_read_9 : decode cX3_read 9 = .ok (.istore 5, 2) := by decide +kernel
theorem dX3_read_11 : decode cX3_read 11 = .ok (.lload_n 3, 1) := by decide +kernel
theorem dX3_read_12 : decode cX3_read 12 = .ok (.invokestatic 47, 3) := by decide +kernel
theorem dX3_read_15 : decode cX3_read 15 = .ok (.lstore 6, 2) := by decide +kernel
theorem dX3_read_17 : decode cX3_read 17 = .ok (.aload_n 0, 1) := by decide +kernel
theorem dX3_read_18 : decode cX3_read 18 = .ok (.getfield 24, 3) := by decide +kernel
theorem dX3_read_21 : decode cX3_read 21 = .ok (.iload 5, 2) := by decide +kernel
theorem dX3_read_23 : decode cX3_read 23 = .ok (.laload, 1) := by decide +kernel
theorem dX3_read_24 : decode cX3_read 24 = .ok (.lload 6, 2) := by decide +kernel
theorem dX3_read_26 : decode cX3_read 26 = .ok (.land, 1) := by decide +kernel
theorem dX3_read_27 : decode cX3_read 27 = .ok (.lload 6, 2) := by decide +kernel
theorem dX3_read_29 : decode cX3_read 29 = .ok (.lcmp, 1) := by decide +kernel
theorem dX3_read_30 : decode cX3_read 30 = .ok (.ifCond .eq 5, 3) := by decide +kernel
theorem dX3_read_33 : decode cX3_read 33 = .ok (.aconst_null, 1) := by decide +kernel
theorem dX3_read_34 : decode cX3_read 34 = .ok (.areturn, 1) := by decide +kernel
theorem dX3_read_35 : decode cX3_read 35 = .ok (.aload_n 0, 1) := by decide +kernel
theorem dX3_read_36 : decode cX3_read 36 = .ok (.getfield 9, 3) := by decide +kernel
theorem dX3_read_39 : decode cX3_read 39 = .ok (.bipush 11, 2) := by decide +kernel
theorem dX3_read_41 : decode cX3_read 41 = .ok (.dup2, 1) := by decide +kernel
theorem dX3_read_42 : decode cX3_read 42 = .ok (.iaload, 1) := by decide +kernel
theorem dX3_read_43 : decode cX3_read 43 = .ok (.iconst 1, 1) := by decide +kernel
theorem dX3_read_44 : decode cX3_read 44 = .ok (.iadd, 1) := by decide +kernel
theorem dX3_read_45 : decode cX3_read 45 = .ok (.iastore, 1) := by decide +kernel
theorem dX3_read_46 : decode cX3_read 46 = .ok (.aload_n 0, 1) := by decide +kernel
theorem dX3_read_47 : decode cX3_read 47 = .ok (.getfield 17, 3) := by decide +kernel
theorem dX3_read_50 : decode cX3_read 50 = .ok (.iload 5, 2) := by decide +kernel
theorem dX3_read_52 : decode cX3_read 52 = .ok (.aaload, 1) := by decide +kernel
theorem dX3_read_53 : decode cX3_read 53 = .ok (.aload_n 0, 1) := by decide +kernel
theorem dX3_read_54 : decode cX3_read 54 = .ok (.getfield 17, 3) := by decide +kernel
theorem dX3_read_57 : decode cX3_read 57 = .ok (.iload 5, 2) := by decide +kernel
theorem dX3_read_59 : decode cX3_read 59 = .ok (.aaload, 1) := by decide +kernel
theorem dX3_read_60 : decode cX3_read 60 = .ok (.lload_n 1, 1) := by decide +kernel
theorem dX3_read_61 : decode cX3_read 61 = .ok (.invokevirtual 40, 3) := by decide +kernel
theorem dX3_read_64 : decode cX3_read 64 = .ok (.invokevirtual 43, 3) := by decide +kernel
theorem dX3_read_67 : decode cX3_read 67 = .ok (.areturn, 1) := by decide +kernel
theorem dX3_takeOut_0 : decode cX3_takeOut 0 = .ok (.aload_n 0, 1) := by decide +kernel
theorem dX3_takeOut_1 : decode cX3_takeOut 1 = .ok (.lload_n 1, 1) := by decide +kernel
theorem dX3_takeOut_2 : decode cX3_takeOut 2 = .ok (.invokevirtual 50, 3) := by decide +kernel
theorem dX3_takeOut_5 : decode cX3_takeOut 5 = .ok (.astore 4, 2) := by decide +kernel
theorem dX3_takeOut_7 : decode cX3_takeOut 7 = .ok (.aload 4, 2) := by decide +kernel
theorem dX3_takeOut_9 : decode cX3_takeOut 9 = .ok (.ifnonnull 5, 3) := by decide +kernel
theorem dX3_takeOut_12 : decode cX3_takeOut 12 = .ok (.iconst 0, 1) := by decide +kernel
theorem dX3_takeOut_13 : decode cX3_takeOut 13 = .ok (.ireturn, 1) := by decide +kernel
theorem dX3_takeOut_14 : decode cX3_takeOut 14 = .ok (.aload_n 0, 1) := by decide +kernel
theorem dX3_takeOut_15 : decode cX3_takeOut 15 = .ok (.getfield 17, 3) := by decide +kernel
theorem dX3_takeOut_18 : decode cX3_takeOut 18 = .ok (.aload 4, 2) := by decide +kernel
theorem dX3_takeOut_20 : decode cX3_takeOut 20 = .ok (.getfield 54, 3) := by decide +kernel
theorem dX3_takeOut_23 : decode cX3_takeOut 23 = .ok (.aaload, 1) := by decide +kernel
theorem dX3_takeOut_24 : decode cX3_takeOut 24 = .ok (.astore 5, 2) := by decide +kernel
theorem dX3_takeOut_26 : decode cX3_takeOut 26 = .ok (.aload 5, 2) := by decide +kernel
theorem dX3_takeOut_28 : decode cX3_takeOut 28 = .ok (.aload 5, 2) := by decide +kernel
theorem dX3_takeOut_30 : decode cX3_takeOut 30 = .ok (.lload_n 1, 1) := by decide +kernel
theorem dX3_takeOut_31 : decode cX3_takeOut 31 = .ok (.invokevirtual 40, 3) := by decide +kernel
theorem dX3_takeOut_34 : decode cX3_takeOut 34 = .ok (.invokevirtual 60, 3) := by decide +kernel
theorem dX3_takeOut_37 : decode cX3_takeOut 37 = .ok (.aload_n 0, 1) := by decide +kernel
theorem dX3_takeOut_38 : decode cX3_takeOut 38 = .ok (.dup, 1) := by decide +kernel
theorem dX3_takeOut_39 : decode cX3_takeOut 39 = .ok (.getfield 63, 3) := by decide +kernel
theorem dX3_takeOut_42 : decode cX3_takeOut 42 = .ok (.iconst 1, 1) := by decide +kernel
theorem dX3_takeOut_43 : decode cX3_takeOut 43 = .ok (.isub, 1) := by decide +kernel
theorem dX3_takeOut_44 : decode cX3_takeOut 44 = .ok (.putfield 63, 3) := by decide +kernel
theorem dX3_takeOut_47 : decode cX3_takeOut 47 = .ok (.aload_n 0, 1) := by decide +kernel
theorem dX3_takeOut_48 : decode cX3_takeOut 48 = .ok (.getfield 24, 3) := by decide +kernel
theorem dX3_takeOut_51 : decode cX3_takeOut 51 = .ok (.aload 4, 2) := by decide +kernel
theorem dX3_takeOut_53 : decode cX3_takeOut 53 = .ok (.getfield 54, 3) := by decide +kernel
theorem dX3_takeOut_56 : decode cX3_takeOut 56 = .ok (.aload 5, 2) := by decide +kernel
theorem dX3_takeOut_58 : decode cX3_takeOut 58 = .ok (.invokevirtual 66, 3) := by decide +kernel
theorem dX3_takeOut_61 : decode cX3_takeOut 61 = .ok (.lastore, 1) := by decide +kernel
theorem dX3_takeOut_62 : decode cX3_takeOut 62 = .ok (.aload_n 0, 1) := by decide +kernel
theorem dX3_takeOut_63 : decode cX3_takeOut 63 = .ok (.getfield 9, 3) := by decide +kernel
theorem dX3_takeOut_66 : decode cX3_takeOut 66 = .ok (.iload_n 3, 1) := by decide +kernel
theorem dX3_takeOut_67 : decode cX3_takeOut 67 = .ok (.dup2, 1) := by decide +kernel
theorem dX3_takeOut_68 : decode cX3_takeOut 68 = .ok (.iaload, 1) := by decide +kernel
theorem dX3_takeOut_69 : decode cX3_takeOut 69 = .ok (.iconst 1, 1) := by decide +kernel
theorem dX3_takeOut_70 : decode cX3_takeOut 70 = .ok (.iadd, 1) := by decide +kernel
theorem dX3_takeOut_71 : decode cX3_takeOut 71 = .ok (.iastore, 1) := by decide +kernel
theorem dX3_takeOut_72 : decode cX3_takeOut 72 = .ok (.iconst 1, 1) := by decide +kernel
theorem dX3_takeOut_73 : decode cX3_takeOut 73 = .ok (.ireturn, 1) := by decide +kernel
theorem dX3_moveIn_0 : decode cX3_moveIn 0 = .ok (.aload_n 0, 1) := by decide +kernel
theorem dX3_moveIn_1 : decode cX3_moveIn 1 = .ok (.getfield 17, 3) := by decide +kernel
theorem dX3_moveIn_4 : decode cX3_moveIn 4 = .ok (.iload_n 1, 1) := by decide +kernel
theorem dX3_moveIn_5 : decode cX3_moveIn 5 = .ok (.aaload, 1) := by decide +kernel
theorem dX3_moveIn_6 : decode cX3_moveIn 6 = .ok (.astore_n 3, 1) := by decide +kernel
theorem dX3_moveIn_7 : decode cX3_moveIn 7 = .ok (.aload_n 0, 1) := by decide +kernel
theorem dX3_moveIn_8 : decode cX3_moveIn 8 = .ok (.getfield 9, 3) := by decide +kernel
theorem dX3_moveIn_11 : decode cX3_moveIn 11 = .ok (.bipush 11, 2) := by decide +kernel
theorem dX3_moveIn_13 : decode cX3_moveIn 13 = .ok (.dup2, 1) := by decide +kernel
theorem dX3_moveIn_14 : decode cX3_moveIn 14 = .ok (.iaload, 1) := by decide +kernel
theorem dX3_moveIn_15 : decode cX3_moveIn 15 = .ok (.iconst 1, 1) := by decide +kernel
theorem dX3_moveIn_16 : decode cX3_moveIn 16 = .ok (.iadd, 1) := by decide +kernel
theorem dX3_moveIn_17 : decode cX3_moveIn 17 = .ok (.iastore, 1) := by decide +kernel
theorem dX3_moveIn_18 : decode cX3_moveIn 18 = .ok (.aload_n 0, 1) := by decide +kernel
theorem dX3_moveIn_19 : decode cX3_moveIn 19 = .ok (.getfield 9, 3) := by decide +kernel
theorem dX3_moveIn_22 : decode cX3_moveIn 22 = .ok (.iconst 5, 1) := by decide +kernel
theorem dX3_moveIn_23 : decode cX3_moveIn 23 = .ok (.dup2, 1) := by decide +kernel
theorem dX3_moveIn_24 : decode cX3_moveIn 24 = .ok (.iaload, 1) := by decide +kernel
theorem dX3_moveIn_25 : decode cX3_moveIn 25 = .ok (.aload_n 2, 1) := by decide +kernel
theorem dX3_moveIn_26 : decode cX3_moveIn 26 = .ok (.getfield 70, 3) := by decide +kernel
theorem dX3_moveIn_29 : decode cX3_moveIn 29 = .ok (.iadd, 1) := by decide +kernel
theorem dX3_moveIn_30 : decode cX3_moveIn 30 = .ok (.iastore, 1) := by decide +kernel
theorem dX3_moveIn_31 : decode cX3_moveIn 31 = .ok (.aload_n 0, 1) := by decide +kernel
theorem dX3_moveIn_32 : decode cX3_moveIn 32 = .ok (.aload_n 3, 1) := by decide +kernel
theorem dX3_moveIn_33 : decode cX3_moveIn 33 = .ok (.aload_n 2, 1) := by decide +kernel
theorem dX3_moveIn_34 : decode cX3_moveIn 34 = .ok (.invokevirtual 73, 3) := by decide +kernel
theorem dX3_moveIn_37 : decode cX3_moveIn 37 = .ok (.aload_n 0, 1) := by decide +kernel
theorem dX3_moveIn_38 : decode cX3_moveIn 38 = .ok (.getfield 28, 3) := by decide +kernel
theorem dX3_moveIn_41 : decode cX3_moveIn 41 = .ok (.getfield 70, 3) := by decide +kernel
theorem dX3_moveIn_44 : decode cX3_moveIn 44 = .ok (.istore 4, 2) := by decide +kernel
theorem dX3_moveIn_46 : decode cX3_moveIn 46 = .ok (.aload_n 0, 1) := by decide +kernel
theorem dX3_moveIn_47 : decode cX3_moveIn 47 = .ok (.getfield 28, 3) := by decide +kernel
theorem dX3_moveIn_50 : decode cX3_moveIn 50 = .ok (.aload_n 2, 1) := by decide +kernel
theorem dX3_moveIn_51 : decode cX3_moveIn 51 = .ok (.invokevirtual 77, 3) := by decide +kernel
theorem dX3_moveIn_54 : decode cX3_moveIn 54 = .ok (.aload_n 0, 1) := by decide +kernel
theorem dX3_moveIn_55 : decode cX3_moveIn 55 = .ok (.getfield 28, 3) := by decide +kernel
theorem dX3_moveIn_58 : decode cX3_moveIn 58 = .ok (.invokevirtual 81, 3) := by decide +kernel
theorem dX3_moveIn_61 : decode cX3_moveIn 61 = .ok (.bipush 32, 2) := by decide +kernel
theorem dX3_moveIn_63 : decode cX3_moveIn 63 = .ok (.isub, 1) := by decide +kernel
theorem dX3_moveIn_64 : decode cX3_moveIn 64 = .ok (.istore 5, 2) := by decide +kernel
theorem dX3_moveIn_66 : decode cX3_moveIn 66 = .ok (.aload_n 0, 1) := by decide +kernel
theorem dX3_moveIn_67 : decode cX3_moveIn 67 = .ok (.iconst 0, 1) := by decide +kernel
theorem dX3_moveIn_68 : decode cX3_moveIn 68 = .ok (.iload 4, 2) := by decide +kernel
theorem dX3_moveIn_70 : decode cX3_moveIn 70 = .ok (.iconst 1, 1) := by decide +kernel
theorem dX3_moveIn_71 : decode cX3_moveIn 71 = .ok (.iload 5, 2) := by decide +kernel
theorem dX3_moveIn_73 : decode cX3_moveIn 73 = .ok (.bipush 6, 2) := by decide +kernel
theorem dX3_moveIn_75 : decode cX3_moveIn 75 = .ok (.invokevirtual 85, 3) := by decide +kernel
theorem dX3_moveIn_78 : decode cX3_moveIn 78 = .ok (.istore 5, 2) := by decide +kernel
theorem dX3_moveIn_80 : decode cX3_moveIn 80 = .ok (.aload_n 0, 1) := by decide +kernel
theorem dX3_moveIn_81 : decode cX3_moveIn 81 = .ok (.iconst 0, 1) := by decide +kernel
theorem dX3_moveIn_82 : decode cX3_moveIn 82 = .ok (.iload 4, 2) := by decide +kernel
theorem dX3_moveIn_84 : decode cX3_moveIn 84 = .ok (.iconst 0, 1) := by decide +kernel
theorem dX3_moveIn_85 : decode cX3_moveIn 85 = .ok (.iload 5, 2) := by decide +kernel
theorem dX3_moveIn_87 : decode cX3_moveIn 87 = .ok (.bipush 7, 2) := by decide +kernel
theorem dX3_moveIn_89 : decode cX3_moveIn 89 = .ok (.invokevirtual 85, 3) := by decide +kernel
theorem dX3_moveIn_92 : decode cX3_moveIn 92 = .ok (.istore 5, 2) := by decide +kernel
theorem dX3_moveIn_94 : decode cX3_moveIn 94 = .ok (.aload_n 0, 1) := by decide +kernel
theorem dX3_moveIn_95 : decode cX3_moveIn 95 = .ok (.iload 4, 2) := by decide +kernel
theorem dX3_moveIn_97 : decode cX3_moveIn 97 = .ok (.aload_n 0, 1) := by decide +kernel
theorem dX3_moveIn_98 : decode cX3_moveIn 98 = .ok (.getfield 28, 3) := by decide +kernel
theorem dX3_moveIn_101 : decode cX3_moveIn 101 = .ok (.getfield 70, 3) := by decide +kernel
theorem dX3_moveIn_104 : decode cX3_moveIn 104 = .ok (.iconst 0, 1) := by decide +kernel
theorem dX3_moveIn_105 : decode cX3_moveIn 105 = .ok (.iload 5, 2) := by decide +kernel
theorem dX3_moveIn_107 : decode cX3_moveIn 107 = .ok (.bipush 8, 2) := by decide +kernel
theorem dX3_moveIn_109 : decode cX3_moveIn 109 = .ok (.invokevirtual 85, 3) := by decide +kernel
theorem dX3_moveIn_112 : decode cX3_moveIn 112 = .ok (.pop, 1) := by decide +kernel
theorem dX3_moveIn_113 : decode cX3_moveIn 113 = .ok (.aload_n 0, 1) := by decide +kernel
theorem dX3_moveIn_114 : decode cX3_moveIn 114 = .ok (.dup, 1) := by decide +kernel
theorem dX3_moveIn_115 : decode cX3_moveIn 115 = .ok (.getfield 63, 3) := by decide +kernel
theorem dX3_moveIn_118 : decode cX3_moveIn 118 = .ok (.aload_n 3, 1) := by decide +kernel
theorem dX3_moveIn_119 : decode cX3_moveIn 119 = .ok (.getfield 70, 3) := by decide +kernel
theorem dX3_moveIn_122 : decode cX3_moveIn 122 = .ok (.isub, 1) := by decide +kernel
theorem dX3_moveIn_123 : decode cX3_moveIn 123 = .ok (.putfield 63, 3) := by decide +kernel
theorem dX3_moveIn_126 : decode cX3_moveIn 126 = .ok (.aload_n 0, 1) := by decide +kernel
theorem dX3_moveIn_127 : decode cX3_moveIn 127 = .ok (.aload_n 3, 1) := by decide +kernel
theorem dX3_moveIn_128 : decode cX3_moveIn 128 = .ok (.invokevirtual 89, 3) := by decide +kernel
theorem dX3_moveIn_131 : decode cX3_moveIn 131 = .ok (.aload_n 0, 1) := by decide +kernel
theorem dX3_moveIn_132 : decode cX3_moveIn 132 = .ok (.dup, 1) := by decide +kernel
theorem dX3_moveIn_133 : decode cX3_moveIn 133 = .ok (.getfield 63, 3) := by decide +kernel
theorem dX3_moveIn_136 : decode cX3_moveIn 136 = .ok (.aload_n 3, 1) := by decide +kernel
theorem dX3_moveIn_137 : decode cX3_moveIn 137 = .ok (.getfield 70, 3) := by decide +kernel
theorem dX3_moveIn_140 : decode cX3_moveIn 140 = .ok (.iadd, 1) := by decide +kernel
theorem dX3_moveIn_141 : decode cX3_moveIn 141 = .ok (.putfield 63, 3) := by decide +kernel
theorem dX3_moveIn_144 : decode cX3_moveIn 144 = .ok (.aload_n 0, 1) := by decide +kernel
theorem dX3_moveIn_145 : decode cX3_moveIn 145 = .ok (.getfield 24, 3) := by decide +kernel
theorem dX3_moveIn_148 : decode cX3_moveIn 148 = .ok (.iload_n 1, 1) := by decide +kernel
theorem dX3_moveIn_149 : decode cX3_moveIn 149 = .ok (.aload_n 3, 1) := by decide +kernel
theorem dX3_moveIn_150 : decode cX3_moveIn 150 = .ok (.invokevirtual 66, 3) := by decide +kernel
theorem dX3_moveIn_153 : decode cX3_moveIn 153 = .ok (.lastore, 1) := by decide +kernel
theorem dX3_moveIn_154 : decode cX3_moveIn 154 = .ok (.aload_n 0, 1) := by decide +kernel
theorem dX3_moveIn_155 : decode cX3_moveIn 155 = .ok (.getfield 9, 3) := by decide +kernel
theorem dX3_moveIn_158 : decode cX3_moveIn 158 = .ok (.iconst 2, 1) := by decide +kernel
theorem dX3_moveIn_159 : decode cX3_moveIn 159 = .ok (.dup2, 1) := by decide +kernel
theorem dX3_moveIn_160 : decode cX3_moveIn 160 = .ok (.iaload, 1) := by decide +kernel
theorem dX3_moveIn_161 : decode cX3_moveIn 161 = .ok (.iconst 1, 1) := by decide +kernel
theorem dX3_moveIn_162 : decode cX3_moveIn 162 = .ok (.iadd, 1) := by decide +kernel
theorem dX3_moveIn_163 : decode cX3_moveIn 163 = .ok (.iastore, 1) := by decide +kernel
theorem dX3_moveIn_164 : decode cX3_moveIn 164 = .ok (.return_, 1) := by decide +kernel
theorem dX3_layOutOthers_0 : decode cX3_layOutOthers 0 = .ok (.aload_n 0, 1) := by decide +kernel
theorem dX3_layOutOthers_1 : decode cX3_layOutOthers 1 = .ok (.getfield 28, 3) := by decide +kernel
theorem dX3_layOutOthers_4 : decode cX3_layOutOthers 4 = .ok (.invokevirtual 92, 3) := by decide +kernel
theorem dX3_layOutOthers_7 : decode cX3_layOutOthers 7 = .ok (.iconst 0, 1) := by decide +kernel
theorem dX3_layOutOthers_8 : decode cX3_layOutOthers 8 = .ok (.istore_n 3, 1) := by decide +kernel
theorem dX3_layOutOthers_9 : decode cX3_layOutOthers 9 = .ok (.iload_n 3, 1) := by decide +kernel
theorem dX3_layOutOthers_10 : decode cX3_layOutOthers 10 = .ok (.aload_n 1, 1) := by decide +kernel
theorem dX3_layOutOthers_11 : decode cX3_layOutOthers 11 = .ok (.getfield 70, 3) := by decide +kernel
theorem dX3_layOutOthers_14 : decode cX3_layOutOthers 14 = .ok (.if_icmp .ge 42, 3) := by decide +kernel
theorem dX3_layOutOthers_17 : decode cX3_layOutOthers 17 = .ok (.aload_n 1, 1) := by decide +kernel
theorem dX3_layOutOthers_18 : decode cX3_layOutOthers 18 = .ok (.iload_n 3, 1) := by decide +kernel
theorem dX3_layOutOthers_19 : decode cX3_layOutOthers 19 = .ok (.invokevirtual 43, 3) := by decide +kernel
theorem dX3_layOutOthers_22 : decode cX3_layOutOthers 22 = .ok (.astore 4, 2) := by decide +kernel
theorem dX3_layOutOthers_24 : decode cX3_layOutOthers 24 = .ok (.aload 4, 2) := by decide +kernel
theorem dX3_layOutOthers_26 : decode cX3_layOutOthers 26 = .ok (.ifnull 24, 3) := by decide +kernel
theorem dX3_layOutOthers_29 : decode cX3_layOutOthers 29 = .ok (.aload_n 2, 1) := by decide +kernel
theorem dX3_layOutOthers_30 : decode cX3_layOutOthers 30 = .ok (.aload 4, 2) := by decide +kernel
theorem dX3_layOutOthers_32 : decode cX3_layOutOthers 32 = .ok (.getfield 95, 3) := by decide +kernel
theorem dX3_layOutOthers_35 : decode cX3_layOutOthers 35 = .ok (.invokevirtual 40, 3) := by decide +kernel
theorem dX3_layOutOthers_38 : decode cX3_layOutOthers 38 = .ok (.ifCond .ge 12, 3) := by decide +kernel
theorem dX3_layOutOthers_41 : decode cX3_layOutOthers 41 = .ok (.aload_n 0, 1) := by decide +kernel
theorem dX3_layOutOthers_42 : decode cX3_layOutOthers 42 = .ok (.getfield 28, 3) := by decide +kernel
theorem dX3_layOutOthers_45 : decode cX3_layOutOthers 45 = .ok (.aload 4, 2) := by decide +kernel
theorem dX3_layOutOthers_47 : decode cX3_layOutOthers 47 = .ok (.invokevirtual 99, 3) := by decide +kernel
theorem dX3_layOutOthers_50 : decode cX3_layOutOthers 50 = .ok (.iinc 3 1, 3) := by decide +kernel
theorem dX3_layOutOthers_53 : decode cX3_layOutOthers 53 = .ok (.goto (-44), 3) := by decide +kernel
theorem dX3_layOutOthers_56 : decode cX3_layOutOthers 56 = .ok (.return_, 1) := by decide +kernel
theorem dX3_dropPass_0 : decode cX3_dropPass 0 = .ok (.iload 4, 2) := by decide +kernel
theorem dX3_dropPass_2 : decode cX3_dropPass 2 = .ok (.istore 6, 2) := by decide +kernel
theorem dX3_dropPass_4 : decode cX3_dropPass 4 = .ok (.iload_n 1, 1) := by decide +kernel
theorem dX3_dropPass_5 : decode cX3_dropPass 5 = .ok (.istore 7, 2) := by decide +kernel
theorem dX3_dropPass_7 : decode cX3_dropPass 7 = .ok (.iload 7, 2) := by decide +kernel
theorem dX3_dropPass_9 : decode cX3_dropPass 9 = .ok (.iload_n 2, 1) := by decide +kernel
theorem dX3_dropPass_10 : decode cX3_dropPass 10 = .ok (.if_icmp .ge 72, 3) := by decide +kernel
theorem dX3_dropPass_13 : decode cX3_dropPass 13 = .ok (.iload 6, 2) := by decide +kernel
theorem dX3_dropPass_15 : decode cX3_dropPass 15 = .ok (.ifCond .le 67, 3) := by decide +kernel
theorem dX3_dropPass_18 : decode cX3_dropPass 18 = .ok (.aload_n 0, 1) := by decide +kernel
theorem dX3_dropPass_19 : decode cX3_dropPass 19 = .ok (.getfield 28, 3) := by decide +kernel
theorem dX3_dropPass_22 : decode cX3_dropPass 22 = .ok (.iload 7, 2) := by decide +kernel
theorem dX3_dropPass_24 : decode cX3_dropPass 24 = .ok (.invokevirtual 43, 3) := by decide +kernel
theorem dX3_dropPass_27 : decode cX3_dropPass 27 = .ok (.astore 8, 2) := by decide +kernel
theorem dX3_dropPass_29 : decode cX3_dropPass 29 = .ok (.aload 8, 2) := by decide +kernel
theorem dX3_dropPass_31 : decode cX3_dropPass 31 = .ok (.ifnull 45, 3) := by decide +kernel
theorem dX3_dropPass_34 : decode cX3_dropPass 34 = .ok (.iload_n 3, 1) := by decide +kernel
theorem dX3_dropPass_35 : decode cX3_dropPass 35 = .ok (.ifCond .eq 11, 3) := by decide +kernel
theorem dX3_dropPass_38 : decode cX3_dropPass 38 = .ok (.aload 8, 2) := by decide +kernel
theorem dX3_dropPass_40 : decode cX3_dropPass 40 = .ok (.getfield 103, 3) := by decide +kernel
theorem dX3_dropPass_43 : decode cX3_dropPass 43 = .ok (.ifCond .ne 33, 3) := by decide +kernel
theorem dX3_dropPass_46 : decode cX3_dropPass 46 = .ok (.iload 6, 2) := by decide +kernel
theorem dX3_dropPass_48 : decode cX3_dropPass 48 = .ok (.aload 8, 2) := by decide +kernel
theorem dX3_dropPass_50 : decode cX3_dropPass 50 = .ok (.getfield 107, 3) := by decide +kernel
theorem dX3_dropPass_53 : decode cX3_dropPass 53 = .ok (.isub, 1) := by decide +kernel
theorem dX3_dropPass_54 : decode cX3_dropPass 54 = .ok (.istore 6, 2) := by decide +kernel
theorem dX3_dropPass_56 : decode cX3_dropPass 56 = .ok (.aload_n 0, 1) := by decide +kernel
theorem dX3_dropPass_57 : decode cX3_dropPass 57 = .ok (.getfield 28, 3) := by decide +kernel
theorem dX3_dropPass_60 : decode cX3_dropPass 60 = .ok (.iload 7, 2) := by decide +kernel
theorem dX3_dropPass_62 : decode cX3_dropPass 62 = .ok (.invokevirtual 109, 3) := by decide +kernel
theorem dX3_dropPass_65 : decode cX3_dropPass 65 = .ok (.aload_n 0, 1) := by decide +kernel
theorem dX3_dropPass_66 : decode cX3_dropPass 66 = .ok (.getfield 9, 3) := by decide +kernel
theorem dX3_dropPass_69 : decode cX3_dropPass 69 = .ok (.iload 5, 2) := by decide +kernel
theorem dX3_dropPass_71 : decode cX3_dropPass 71 = .ok (.dup2, 1) := by decide +kernel
theorem dX3_dropPass_72 : decode cX3_dropPass 72 = .ok (.iaload, 1) := by decide +kernel
theorem dX3_dropPass_73 : decode cX3_dropPass 73 = .ok (.iconst 1, 1) := by decide +kernel
theorem dX3_dropPass_74 : decode cX3_dropPass 74 = .ok (.iadd, 1) := by decide +kernel
theorem dX3_dropPass_75 : decode cX3_dropPass 75 = .ok (.iastore, 1) := by decide +kernel
theorem dX3_dropPass_76 : decode cX3_dropPass 76 = .ok (.iinc 7 1, 3) := by decide +kernel
theorem dX3_dropPass_79 : decode cX3_dropPass 79 = .ok (.goto (-72), 3) := by decide +kernel
theorem dX3_dropPass_82 : decode cX3_dropPass 82 = .ok (.iload 6, 2) := by decide +kernel
theorem dX3_dropPass_84 : decode cX3_dropPass 84 = .ok (.ireturn, 1) := by decide +kernel
theorem dX3_refill_0 : decode cX3_refill 0 = .ok (.aload_n 1, 1) := by decide +kernel
theorem dX3_refill_1 : decode cX3_refill 1 = .ok (.invokevirtual 92, 3) := by decide +kernel
theorem dX3_refill_4 : decode cX3_refill 4 = .ok (.iconst 0, 1) := by decide +kernel
theorem dX3_refill_5 : decode cX3_refill 5 = .ok (.istore_n 2, 1) := by decide +kernel
theorem dX3_refill_6 : decode cX3_refill 6 = .ok (.iload_n 2, 1) := by decide +kernel
theorem dX3_refill_7 : decode cX3_refill 7 = .ok (.aload_n 0, 1) := by decide +kernel
theorem dX3_refill_8 : decode cX3_refill 8 = .ok (.getfield 28, 3) := by decide +kernel
theorem dX3_refill_11 : decode cX3_refill 11 = .ok (.getfield 70, 3) := by decide +kernel
theorem dX3_refill_14 : decode cX3_refill 14 = .ok (.if_icmp .ge 32, 3) := by decide +kernel
theorem dX3_refill_17 : decode cX3_refill 17 = .ok (.aload_n 0, 1) := by decide +kernel
theorem dX3_refill_18 : decode cX3_refill 18 = .ok (.getfield 28, 3) := by decide +kernel
theorem dX3_refill_21 : decode cX3_refill 21 = .ok (.iload_n 2, 1) := by decide +kernel
theorem dX3_refill_22 : decode cX3_refill 22 = .ok (.invokevirtual 43, 3) := by decide +kernel
theorem dX3_refill_25 : decode cX3_refill 25 = .ok (.astore_n 3, 1) := by decide +kernel
theorem dX3_refill_26 : decode cX3_refill 26 = .ok (.aload_n 3, 1) := by decide +kernel
theorem dX3_refill_27 : decode cX3_refill 27 = .ok (.ifnull 13, 3) := by decide +kernel
theorem dX3_refill_30 : decode cX3_refill 30 = .ok (.aload_n 3, 1) := by decide +kernel
theorem dX3_refill_31 : decode cX3_refill 31 = .ok (.iconst 0, 1) := by decide +kernel
theorem dX3_refill_32 : decode cX3_refill 32 = .ok (.putfield 103, 3) := by decide +kernel
theorem dX3_refill_35 : decode cX3_refill 35 = .ok (.aload_n 1, 1) := by decide +kernel
theorem dX3_refill_36 : decode cX3_refill 36 = .ok (.aload_n 3, 1) := by decide +kernel
theorem dX3_refill_37 : decode cX3_refill 37 = .ok (.invokevirtual 99, 3) := by decide +kernel
theorem dX3_refill_40 : decode cX3_refill 40 = .ok (.iinc 2 1, 3) := by decide +kernel
theorem dX3_refill_43 : decode cX3_refill 43 = .ok (.goto (-37), 3) := by decide +kernel
theorem dX3_refill_46 : decode cX3_refill 46 = .ok (.return_, 1) := by decide +kernel
theorem dX3_wipe_0 : decode cX3_wipe 0 = .ok (.iconst 0, 1) := by decide +kernel
theorem dX3_wipe_1 : decode cX3_wipe 1 = .ok (.istore_n 1, 1) := by decide +kernel
theorem dX3_wipe_2 : decode cX3_wipe 2 = .ok (.iload_n 1, 1) := by decide +kernel
theorem dX3_wipe_3 : decode cX3_wipe 3 = .ok (.bipush 64, 2) := by decide +kernel
theorem dX3_wipe_5 : decode cX3_wipe 5 = .ok (.if_icmp .ge 25, 3) := by decide +kernel
theorem dX3_wipe_8 : decode cX3_wipe 8 = .ok (.aload_n 0, 1) := by decide +kernel
theorem dX3_wipe_9 : decode cX3_wipe 9 = .ok (.getfield 17, 3) := by decide +kernel
theorem dX3_wipe_12 : decode cX3_wipe 12 = .ok (.iload_n 1, 1) := by decide +kernel
theorem dX3_wipe_13 : decode cX3_wipe 13 = .ok (.aaload, 1) := by decide +kernel
theorem dX3_wipe_14 : decode cX3_wipe 14 = .ok (.invokevirtual 92, 3) := by decide +kernel
theorem dX3_wipe_17 : decode cX3_wipe 17 = .ok (.aload_n 0, 1) := by decide +kernel
theorem dX3_wipe_18 : decode cX3_wipe 18 = .ok (.getfield 24, 3) := by decide +kernel
theorem dX3_wipe_21 : decode cX3_wipe 21 = .ok (.iload_n 1, 1) := by decide +kernel
theorem dX3_wipe_22 : decode cX3_wipe 22 = .ok (.lconst 0, 1) := by decide +kernel
theorem dX3_wipe_23 : decode cX3_wipe 23 = .ok (.lastore, 1) := by decide +kernel
theorem dX3_wipe_24 : decode cX3_wipe 24 = .ok (.iinc 1 1, 3) := by decide +kernel
theorem dX3_wipe_27 : decode cX3_wipe 27 = .ok (.goto (-25), 3) := by decide +kernel
theorem dX3_wipe_30 : decode cX3_wipe 30 = .ok (.aload_n 0, 1) := by decide +kernel
theorem dX3_wipe_31 : decode cX3_wipe 31 = .ok (.iconst 0, 1) := by decide +kernel
theorem dX3_wipe_32 : decode cX3_wipe 32 = .ok (.putfield 63, 3) := by decide +kernel
theorem dX3_wipe_35 : decode cX3_wipe 35 = .ok (.return_, 1) := by decide +kernel
theorem dX3_pagesFit_0 : decode cX3_pagesFit 0 = .ok (.iconst 0, 1) := by decide +kernel
theorem dX3_pagesFit_1 : decode cX3_pagesFit 1 = .ok (.istore_n 1, 1) := by decide +kernel
theorem dX3_pagesFit_2 : decode cX3_pagesFit 2 = .ok (.iload_n 1, 1) := by decide +kernel
theorem dX3_pagesFit_3 : decode cX3_pagesFit 3 = .ok (.bipush 64, 2) := by decide +kernel
theorem dX3_pagesFit_5 : decode cX3_pagesFit 5 = .ok (.if_icmp .ge 25, 3) := by decide +kernel
theorem dX3_pagesFit_8 : decode cX3_pagesFit 8 = .ok (.aload_n 0, 1) := by decide +kernel
theorem dX3_pagesFit_9 : decode cX3_pagesFit 9 = .ok (.getfield 17, 3) := by decide +kernel
theorem dX3_pagesFit_12 : decode cX3_pagesFit 12 = .ok (.iload_n 1, 1) := by decide +kernel
theorem dX3_pagesFit_13 : decode cX3_pagesFit 13 = .ok (.aaload, 1) := by decide +kernel
theorem dX3_pagesFit_14 : decode cX3_pagesFit 14 = .ok (.invokevirtual 81, 3) := by decide +kernel
theorem dX3_pagesFit_17 : decode cX3_pagesFit 17 = .ok (.bipush 32, 2) := by decide +kernel
theorem dX3_pagesFit_19 : decode cX3_pagesFit 19 = .ok (.if_icmp .le 5, 3) := by decide +kernel
theorem dX3_pagesFit_22 : decode cX3_pagesFit 22 = .ok (.iconst 0, 1) := by decide +kernel
theorem dX3_pagesFit_23 : decode cX3_pagesFit 23 = .ok (.ireturn, 1) := by decide +kernel
theorem dX3_pagesFit_24 : decode cX3_pagesFit 24 = .ok (.iinc 1 1, 3) := by decide +kernel
theorem dX3_pagesFit_27 : decode cX3_pagesFit 27 = .ok (.goto (-25), 3) := by decide +kernel
theorem dX3_pagesFit_30 : decode cX3_pagesFit 30 = .ok (.iconst 1, 1) := by decide +kernel
theorem dX3_pagesFit_31 : decode cX3_pagesFit 31 = .ok (.ireturn, 1) := by decide +kernel
theorem dX3_keysBelong_0 : decode cX3_keysBelong 0 = .ok (.iconst 0, 1) := by decide +kernel
theorem dX3_keysBelong_1 : decode cX3_keysBelong 1 = .ok (.istore_n 1, 1) := by decide +kernel
theorem dX3_keysBelong_2 : decode cX3_keysBelong 2 = .ok (.iload_n 1, 1) := by decide +kernel
theorem dX3_keysBelong_3 : decode cX3_keysBelong 3 = .ok (.bipush 64, 2) := by decide +kernel
theorem dX3_keysBelong_5 : decode cX3_keysBelong 5 = .ok (.if_icmp .ge 24, 3) := by decide +kernel
theorem dX3_keysBelong_8 : decode cX3_keysBelong 8 = .ok (.aload_n 0, 1) := by decide +kernel
theorem dX3_keysBelong_9 : decode cX3_keysBelong 9 = .ok (.getfield 17, 3) := by decide +kernel
theorem dX3_keysBelong_12 : decode cX3_keysBelong 12 = .ok (.iload_n 1, 1) := by decide +kernel
theorem dX3_keysBelong_13 : decode cX3_keysBelong 13 = .ok (.aaload, 1) := by decide +kernel
theorem dX3_keysBelong_14 : decode cX3_keysBelong 14 = .ok (.iload_n 1, 1) := by decide +kernel
theorem dX3_keysBelong_15 : decode cX3_keysBelong 15 = .ok (.invokevirtual 112, 3) := by decide +kernel
theorem dX3_keysBelong_18 : decode cX3_keysBelong 18 = .ok (.ifCond .ne 5, 3) := by decide +kernel
theorem dX3_keysBelong_21 : decode cX3_keysBelong 21 = .ok (.iconst 0, 1) := by decide +kernel
theorem dX3_keysBelong_22 : decode cX3_keysBelong 22 = .ok (.ireturn, 1) := by decide +kernel
theorem dX3_keysBelong_23 : decode cX3_keysBelong 23 = .ok (.iinc 1 1, 3) := by decide +kernel
theorem dX3_keysBelong_26 : decode cX3_keysBelong 26 = .ok (.goto (-24), 3) := by decide +kernel
theorem dX3_keysBelong_29 : decode cX3_keysBelong 29 = .ok (.iconst 1, 1) := by decide +kernel
theorem dX3_keysBelong_30 : decode cX3_keysBelong 30 = .ok (.ireturn, 1) := by decide +kernel
theorem dX3_filtersAreRight_0 : decode cX3_filtersAreRight 0 = .ok (.iconst 0, 1) := by decide +kernel
theorem dX3_filtersAreRight_1 : decode cX3_filtersAreRight 1 = .ok (.istore_n 1, 1) := by decide +kernel
theorem dX3_filtersAreRight_2 : decode cX3_filtersAreRight 2 = .ok (.iload_n 1, 1) := by decide +kernel
theorem dX3_filtersAreRight_3 : decode cX3_filtersAreRight 3 = .ok (.bipush 64, 2) := by decide +kernel
theorem dX3_filtersAreRight_5 : decode cX3_filtersAreRight 5 = .ok (.if_icmp .ge 30, 3) := by decide +kernel
theorem dX3_filtersAreRight_8 : decode cX3_filtersAreRight 8 = .ok (.aload_n 0, 1) := by decide +kernel
theorem dX3_filtersAreRight_9 : decode cX3_filtersAreRight 9 = .ok (.getfield 24, 3) := by decide +kernel
theorem dX3_filtersAreRight_12 : decode cX3_filtersAreRight 12 = .ok (.iload_n 1, 1) := by decide +kernel
theorem dX3_filtersAreRight_13 : decode cX3_filtersAreRight 13 = .ok (.laload, 1) := by decide +kernel
theorem dX3_filtersAreRight_14 : decode cX3_filtersAreRight 14 = .ok (.aload_n 0, 1) := by decide +kernel
theorem dX3_filtersAreRight_15 : decode cX3_filtersAreRight 15 = .ok (.getfield 17, 3) := by decide +kernel
theorem dX3_filtersAreRight_18 : decode cX3_filtersAreRight 18 = .ok (.iload_n 1, 1) := by decide +kernel
theorem dX3_filtersAreRight_19 : decode cX3_filtersAreRight 19 = .ok (.aaload, 1) := by decide +kernel
theorem dX3_filtersAreRight_20 : decode cX3_filtersAreRight 20 = .ok (.invokevirtual 66, 3) := by decide +kernel
theorem dX3_filtersAreRight_23 : decode cX3_filtersAreRight 23 = .ok (.lcmp, 1) := by decide +kernel
theorem dX3_filtersAreRight_24 : decode cX3_filtersAreRight 24 = .ok (.ifCond .eq 5, 3) := by decide +kernel
theorem dX3_filtersAreRight_27 : decode cX3_filtersAreRight 27 = .ok (.iconst 0, 1) := by decide +kernel
theorem dX3_filtersAreRight_28 : decode cX3_filtersAreRight 28 = .ok (.ireturn, 1) := by decide +kernel
theorem dX3_filtersAreRight_29 : decode cX3_filtersAreRight 29 = .ok (.iinc 1 1, 3) := by decide +kernel
theorem dX3_filtersAreRight_32 : decode cX3_filtersAreRight 32 = .ok (.goto (-30), 3) := by decide +kernel
theorem dX3_filtersAreRight_35 : decode cX3_filtersAreRight 35 = .ok (.iconst 1, 1) := by decide +kernel
theorem dX3_filtersAreRight_36 : decode cX3_filtersAreRight 36 = .ok (.ireturn, 1) := by decide +kernel
theorem dX3_countIsRight_0 : decode cX3_countIsRight 0 = .ok (.iconst 0, 1) := by decide +kernel
theorem dX3_countIsRight_1 : decode cX3_countIsRight 1 = .ok (.istore_n 1, 1) := by decide +kernel
theorem dX3_countIsRight_2 : decode cX3_countIsRight 2 = .ok (.iconst 0, 1) := by decide +kernel
theorem dX3_countIsRight_3 : decode cX3_countIsRight 3 = .ok (.istore_n 2, 1) := by decide +kernel
theorem dX3_countIsRight_4 : decode cX3_countIsRight 4 = .ok (.iload_n 2, 1) := by decide +kernel
theorem dX3_countIsRight_5 : decode cX3_countIsRight 5 = .ok (.bipush 64, 2) := by decide +kernel
theorem dX3_countIsRight_7 : decode cX3_countIsRight 7 = .ok (.if_icmp .ge 21, 3) := by decide +kernel
theorem dX3_countIsRight_10 : decode cX3_countIsRight 10 = .ok (.iload_n 1, 1) := by decide +kernel
theorem dX3_countIsRight_11 : decode cX3_countIsRight 11 = .ok (.aload_n 0, 1) := by decide +kernel
theorem dX3_countIsRight_12 : decode cX3_countIsRight 12 = .ok (.getfield 17, 3) := by decide +kernel
theorem dX3_countIsRight_15 : decode cX3_countIsRight 15 = .ok (.iload_n 2, 1) := by decide +kernel
theorem dX3_countIsRight_16 : decode cX3_countIsRight 16 = .ok (.aaload, 1) := by decide +kernel
theorem dX3_countIsRight_17 : decode cX3_countIsRight 17 = .ok (.getfield 70, 3) := by decide +kernel
theorem dX3_countIsRight_20 : decode cX3_countIsRight 20 = .ok (.iadd, 1) := by decide +kernel
theorem dX3_countIsRight_21 : decode cX3_countIsRight 21 = .ok (.istore_n 1, 1) := by decide +kernel
theorem dX3_countIsRight_22 : decode cX3_countIsRight 22 = .ok (.iinc 2 1, 3) := by decide +kernel
theorem dX3_countIsRight_25 : decode cX3_countIsRight 25 = .ok (.goto (-21), 3) := by decide +kernel
theorem dX3_countIsRight_28 : decode cX3_countIsRight 28 = .ok (.iload_n 1, 1) := by decide +kernel
theorem dX3_countIsRight_29 : decode cX3_countIsRight 29 = .ok (.aload_n 0, 1) := by decide +kernel
theorem dX3_countIsRight_30 : decode cX3_countIsRight 30 = .ok (.getfield 63, 3) := by decide +kernel
theorem dX3_countIsRight_33 : decode cX3_countIsRight 33 = .ok (.if_icmp .ne 7, 3) := by decide +kernel
theorem dX3_countIsRight_36 : decode cX3_countIsRight 36 = .ok (.iconst 1, 1) := by decide +kernel
theorem dX3_countIsRight_37 : decode cX3_countIsRight 37 = .ok (.goto 4, 3) := by decide +kernel
theorem dX3_countIsRight_40 : decode cX3_countIsRight 40 = .ok (.iconst 0, 1) := by decide +kernel
theorem dX3_countIsRight_41 : decode cX3_countIsRight 41 = .ok (.ireturn, 1) := by decide +kernel
