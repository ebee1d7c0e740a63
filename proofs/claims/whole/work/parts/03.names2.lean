theorem dX9_thinks_20 : decode cX9_thinks 20 = .ok (.iastore, 1) := by decide +kernel
theorem dX9_thinks_21 : decode cX9_thinks 21 = .ok (.iinc 1 1, 3) := by decide +kernel
theorem dX9_thinks_24 : decode cX9_thinks 24 = .ok (.goto (-22), 3) := by decide +kernel
theorem dX9_thinks_27 : decode cX9_thinks 27 = .ok (.return_, 1) := by decide +kernel
theorem dX9_forgets_0 : decode cX9_forgets 0 = .ok (.iconst 0, 1) := by decide +kernel
theorem dX9_forgets_1 : decode cX9_forgets 1 = .ok (.istore_n 1, 1) := by decide +kernel
theorem dX9_forgets_2 : decode cX9_forgets 2 = .ok (.iload_n 1, 1) := by decide +kernel
theorem dX9_forgets_3 : decode cX9_forgets 3 = .ok (.sipush 132, 3) := by decide +kernel
theorem dX9_forgets_6 : decode cX9_forgets 6 = .ok (.if_icmp .ge 21, 3) := by decide +kernel
theorem dX9_forgets_9 : decode cX9_forgets 9 = .ok (.aload_n 0, 1) := by decide +kernel
theorem dX9_forgets_10 : decode cX9_forgets 10 = .ok (.getfield 7, 3) := by decide +kernel
theorem dX9_forgets_13 : decode cX9_forgets 13 = .ok (.iload_n 1, 1) := by decide +kernel
theorem dX9_forgets_14 : decode cX9_forgets 14 = .ok (.aload_n 0, 1) := by decide +kernel
theorem dX9_forgets_15 : decode cX9_forgets 15 = .ok (.getfield 19, 3) := by decide +kernel
theorem dX9_forgets_18 : decode cX9_forgets 18 = .ok (.iload_n 1, 1) := by decide +kernel
theorem dX9_forgets_19 : decode cX9_forgets 19 = .ok (.iaload, 1) := by decide +kernel
theorem dX9_forgets_20 : decode cX9_forgets 20 = .ok (.iastore, 1) := by decide +kernel
theorem dX9_forgets_21 : decode cX9_forgets 21 = .ok (.iinc 1 1, 3) := by decide +kernel
theorem dX9_forgets_24 : decode cX9_forgets 24 = .ok (.goto (-22), 3) := by decide +kernel
theorem dX9_forgets_27 : decode cX9_forgets 27 = .ok (.return_, 1) := by decide +kernel
theorem dX9_keepsMind_0 : decode cX9_keepsMind 0 = .ok (.aload_n 0, 1) := by decide +kernel
theorem dX9_keepsMind_1 : decode cX9_keepsMind 1 = .ok (.getfield 48, 3) := by decide +kernel
theorem dX9_keepsMind_4 : decode cX9_keepsMind 4 = .ok (.bipush 8, 2) := by decide +kernel
theorem dX9_keepsMind_6 : decode cX9_keepsMind 6 = .ok (.if_icmp .ne 26, 3) := by decide +kernel
theorem dX9_keepsMind_9 : decode cX9_keepsMind 9 = .ok (.aload_n 0, 1) := by decide +kernel
theorem dX9_keepsMind_10 : decode cX9_keepsMind 10 = .ok (.aload_n 0, 1) := by decide +kernel
theorem dX9_keepsMind_11 : decode cX9_keepsMind 11 = .ok (.getfield 51, 3) := by decide +kernel
theorem dX9_keepsMind_14 : decode cX9_keepsMind 14 = .ok (.iconst 1, 1) := by decide +kernel
theorem dX9_keepsMind_15 : decode cX9_keepsMind 15 = .ok (.iadd, 1) := by decide +kernel
theorem dX9_keepsMind_16 : decode cX9_keepsMind 16 = .ok (.bipush 8, 2) := by decide +kernel
theorem dX9_keepsMind_18 : decode cX9_keepsMind 18 = .ok (.irem, 1) := by decide +kernel
theorem dX9_keepsMind_19 : decode cX9_keepsMind 19 = .ok (.putfield 51, 3) := by decide +kernel
theorem dX9_keepsMind_22 : decode cX9_keepsMind 22 = .ok (.aload_n 0, 1) := by decide +kernel
theorem dX9_keepsMind_23 : decode cX9_keepsMind 23 = .ok (.dup, 1) := by decide +kernel
theorem dX9_keepsMind_24 : decode cX9_keepsMind 24 = .ok (.getfield 48, 3) := by decide +kernel
theorem dX9_keepsMind_27 : decode cX9_keepsMind 27 = .ok (.iconst 1, 1) := by decide +kernel
theorem dX9_keepsMind_28 : decode cX9_keepsMind 28 = .ok (.isub, 1) := by decide +kernel
theorem dX9_keepsMind_29 : decode cX9_keepsMind 29 = .ok (.putfield 48, 3) := by decide +kernel
theorem dX9_keepsMind_32 : decode cX9_keepsMind 32 = .ok (.aload_n 0, 1) := by decide +kernel
theorem dX9_keepsMind_33 : decode cX9_keepsMind 33 = .ok (.getfield 51, 3) := by decide +kernel
theorem dX9_keepsMind_36 : decode cX9_keepsMind 36 = .ok (.aload_n 0, 1) := by decide +kernel
theorem dX9_keepsMind_37 : decode cX9_keepsMind 37 = .ok (.getfield 48, 3) := by decide +kernel
theorem dX9_keepsMind_40 : decode cX9_keepsMind 40 = .ok (.iadd, 1) := by decide +kernel
theorem dX9_keepsMind_41 : decode cX9_keepsMind 41 = .ok (.bipush 8, 2) := by decide +kernel
theorem dX9_keepsMind_43 : decode cX9_keepsMind 43 = .ok (.irem, 1) := by decide +kernel
theorem dX9_keepsMind_44 : decode cX9_keepsMind 44 = .ok (.istore_n 1, 1) := by decide +kernel
theorem dX9_keepsMind_45 : decode cX9_keepsMind 45 = .ok (.iconst 0, 1) := by decide +kernel
theorem dX9_keepsMind_46 : decode cX9_keepsMind 46 = .ok (.istore_n 2, 1) := by decide +kernel
theorem dX9_keepsMind_47 : decode cX9_keepsMind 47 = .ok (.iload_n 2, 1) := by decide +kernel
theorem dX9_keepsMind_48 : decode cX9_keepsMind 48 = .ok (.sipush 132, 3) := by decide +kernel
theorem dX9_keepsMind_51 : decode cX9_keepsMind 51 = .ok (.if_icmp .ge 27, 3) := by decide +kernel
theorem dX9_keepsMind_54 : decode cX9_keepsMind 54 = .ok (.aload_n 0, 1) := by decide +kernel
theorem dX9_keepsMind_55 : decode cX9_keepsMind 55 = .ok (.getfield 13, 3) := by decide +kernel
theorem dX9_keepsMind_58 : decode cX9_keepsMind 58 = .ok (.sipush 132, 3) := by decide +kernel
theorem dX9_keepsMind_61 : decode cX9_keepsMind 61 = .ok (.iload_n 1, 1) := by decide +kernel
theorem dX9_keepsMind_62 : decode cX9_keepsMind 62 = .ok (.imul, 1) := by decide +kernel
theorem dX9_keepsMind_63 : decode cX9_keepsMind 63 = .ok (.iload_n 2, 1) := by decide +kernel
theorem dX9_keepsMind_64 : decode cX9_keepsMind 64 = .ok (.iadd, 1) := by decide +kernel
theorem dX9_keepsMind_65 : decode cX9_keepsMind 65 = .ok (.aload_n 0, 1) := by decide +kernel
theorem dX9_keepsMind_66 : decode cX9_keepsMind 66 = .ok (.getfield 19, 3) := by decide +kernel
theorem dX9_keepsMind_69 : decode cX9_keepsMind 69 = .ok (.iload_n 2, 1) := by decide +kernel
theorem dX9_keepsMind_70 : decode cX9_keepsMind 70 = .ok (.iaload, 1) := by decide +kernel
theorem dX9_keepsMind_71 : decode cX9_keepsMind 71 = .ok (.iastore, 1) := by decide +kernel
theorem dX9_keepsMind_72 : decode cX9_keepsMind 72 = .ok (.iinc 2 1, 3) := by decide +kernel
theorem dX9_keepsMind_75 : decode cX9_keepsMind 75 = .ok (.goto (-28), 3) := by decide +kernel
theorem dX9_keepsMind_78 : decode cX9_keepsMind 78 = .ok (.aload_n 0, 1) := by decide +kernel
theorem dX9_keepsMind_79 : decode cX9_keepsMind 79 = .ok (.dup, 1) := by decide +kernel
theorem dX9_keepsMind_80 : decode cX9_keepsMind 80 = .ok (.getfield 48, 3) := by decide +kernel
theorem dX9_keepsMind_83 : decode cX9_keepsMind 83 = .ok (.iconst 1, 1) := by decide +kernel
theorem dX9_keepsMind_84 : decode cX9_keepsMind 84 = .ok (.iadd, 1) := by decide +kernel
theorem dX9_keepsMind_85 : decode cX9_keepsMind 85 = .ok (.putfield 48, 3) := by decide +kernel
theorem dX9_keepsMind_88 : decode cX9_keepsMind 88 = .ok (.return_, 1) := by decide +kernel
theorem dX9_remembers_0 : decode cX9_remembers 0 = .ok (.aload_n 0, 1) := by decide +kernel
theorem dX9_remembers_1 : decode cX9_remembers 1 = .ok (.invokevirtual 54, 3) := by decide +kernel
theorem dX9_remembers_4 : decode cX9_remembers 4 = .ok (.aload_n 0, 1) := by decide +kernel
theorem dX9_remembers_5 : decode cX9_remembers 5 = .ok (.invokevirtual 57, 3) := by decide +kernel
theorem dX9_remembers_8 : decode cX9_remembers 8 = .ok (.return_, 1) := by decide +kernel
theorem dX9_isLetter_0 : decode cX9_isLetter 0 = .ok (.iload_n 1, 1) := by decide +kernel
theorem dX9_isLetter_1 : decode cX9_isLetter 1 = .ok (.iconst 0, 1) := by decide +kernel
theorem dX9_isLetter_2 : decode cX9_isLetter 2 = .ok (.aload_n 0, 1) := by decide +kernel
theorem dX9_isLetter_3 : decode cX9_isLetter 3 = .ok (.getfield 7, 3) := by decide +kernel
theorem dX9_isLetter_6 : decode cX9_isLetter 6 = .ok (.iconst 0, 1) := by decide +kernel
theorem dX9_isLetter_7 : decode cX9_isLetter 7 = .ok (.iaload, 1) := by decide +kernel
theorem dX9_isLetter_8 : decode cX9_isLetter 8 = .ok (.iconst 1, 1) := by decide +kernel
theorem dX9_isLetter_9 : decode cX9_isLetter 9 = .ok (.isub, 1) := by decide +kernel
theorem dX9_isLetter_10 : decode cX9_isLetter 10 = .ok (.invokestatic 60, 3) := by decide +kernel
theorem dX9_isLetter_13 : decode cX9_isLetter 13 = .ok (.ireturn, 1) := by decide +kernel
theorem dX9_is_0 : decode cX9_is 0 = .ok (.aload_n 0, 1) := by decide +kernel
theorem dX9_is_1 : decode cX9_is 1 = .ok (.getfield 7, 3) := by decide +kernel
theorem dX9_is_4 : decode cX9_is 4 = .ok (.iconst 4, 1) := by decide +kernel
theorem dX9_is_5 : decode cX9_is 5 = .ok (.iload_n 1, 1) := by decide +kernel
theorem dX9_is_6 : decode cX9_is 6 = .ok (.iadd, 1) := by decide +kernel
theorem dX9_is_7 : decode cX9_is 7 = .ok (.iaload, 1) := by decide +kernel
theorem dX9_is_8 : decode cX9_is 8 = .ok (.ireturn, 1) := by decide +kernel
theorem dX9_isWeight_0 : decode cX9_isWeight 0 = .ok (.iload_n 0, 1) := by decide +kernel
theorem dX9_isWeight_1 : decode cX9_isWeight 1 = .ok (.iconst 0, 1) := by decide +kernel
theorem dX9_isWeight_2 : decode cX9_isWeight 2 = .ok (.bipush 31, 2) := by decide +kernel
theorem dX9_isWeight_4 : decode cX9_isWeight 4 = .ok (.invokestatic 60, 3) := by decide +kernel
theorem dX9_isWeight_7 : decode cX9_isWeight 7 = .ok (.ireturn, 1) := by decide +kernel
theorem dX9_isRow_0 : decode cX9_isRow 0 = .ok (.iload_n 0, 1) := by decide +kernel
theorem dX9_isRow_1 : decode cX9_isRow 1 = .ok (.iconst 0, 1) := by decide +kernel
theorem dX9_isRow_2 : decode cX9_isRow 2 = .ok (.iconst 4, 1) := by decide +kernel
theorem dX9_isRow_3 : decode cX9_isRow 3 = .ok (.invokestatic 60, 3) := by decide +kernel
theorem dX9_isRow_6 : decode cX9_isRow 6 = .ok (.ireturn, 1) := by decide +kernel
theorem dX9_notInsert_0 : decode cX9_notInsert 0 = .ok (.iload_n 1, 1) := by decide +kernel
theorem dX9_notInsert_1 : decode cX9_notInsert 1 = .ok (.iconst 0, 1) := by decide +kernel
theorem dX9_notInsert_2 : decode cX9_notInsert 2 = .ok (.aload_n 0, 1) := by decide +kernel
theorem dX9_notInsert_3 : decode cX9_notInsert 3 = .ok (.getfield 7, 3) := by decide +kernel
theorem dX9_notInsert_6 : decode cX9_notInsert 6 = .ok (.iconst 0, 1) := by decide +kernel
theorem dX9_notInsert_7 : decode cX9_notInsert 7 = .ok (.iaload, 1) := by decide +kernel
theorem dX9_notInsert_8 : decode cX9_notInsert 8 = .ok (.invokestatic 60, 3) := by decide +kernel
theorem dX9_notInsert_11 : decode cX9_notInsert 11 = .ok (.ifCond .ne 6, 3) := by decide +kernel
theorem dX9_notInsert_14 : decode cX9_notInsert 14 = .ok (.bipush (-11), 2) := by decide +kernel
theorem dX9_notInsert_16 : decode cX9_notInsert 16 = .ok (.ireturn, 1) := by decide +kernel
theorem dX9_notInsert_17 : decode cX9_notInsert 17 = .ok (.iload_n 2, 1) := by decide +kernel
theorem dX9_notInsert_18 : decode cX9_notInsert 18 = .ok (.invokestatic 64, 3) := by decide +kernel
theorem dX9_notInsert_21 : decode cX9_notInsert 21 = .ok (.ifCond .ne 6, 3) := by decide +kernel
theorem dX9_notInsert_24 : decode cX9_notInsert 24 = .ok (.bipush (-12), 2) := by decide +kernel
theorem dX9_notInsert_26 : decode cX9_notInsert 26 = .ok (.ireturn, 1) := by decide +kernel
theorem dX9_notInsert_27 : decode cX9_notInsert 27 = .ok (.aload_n 0, 1) := by decide +kernel
theorem dX9_notInsert_28 : decode cX9_notInsert 28 = .ok (.getfield 7, 3) := by decide +kernel
theorem dX9_notInsert_31 : decode cX9_notInsert 31 = .ok (.iconst 0, 1) := by decide +kernel
theorem dX9_notInsert_32 : decode cX9_notInsert 32 = .ok (.iaload, 1) := by decide +kernel
theorem dX9_notInsert_33 : decode cX9_notInsert 33 = .ok (.bipush 64, 2) := by decide +kernel
theorem dX9_notInsert_35 : decode cX9_notInsert 35 = .ok (.if_icmp .ne 13, 3) := by decide +kernel
theorem dX9_notInsert_38 : decode cX9_notInsert 38 = .ok (.aload_n 0, 1) := by decide +kernel
theorem dX9_notInsert_39 : decode cX9_notInsert 39 = .ok (.iconst 1, 1) := by decide +kernel
theorem dX9_notInsert_40 : decode cX9_notInsert 40 = .ok (.bipush 64, 2) := by decide +kernel
theorem dX9_notInsert_42 : decode cX9_notInsert 42 = .ok (.invokevirtual 68, 3) := by decide +kernel
theorem dX9_notInsert_45 : decode cX9_notInsert 45 = .ok (.goto 4, 3) := by decide +kernel
theorem dX9_notInsert_48 : decode cX9_notInsert 48 = .ok (.iconst 0, 1) := by decide +kernel
theorem dX9_notInsert_49 : decode cX9_notInsert 49 = .ok (.ireturn, 1) := by decide +kernel
theorem dX9_comes_0 : decode cX9_comes 0 = .ok (.aload_n 0, 1) := by decide +kernel
theorem dX9_comes_1 : decode cX9_comes 1 = .ok (.getfield 7, 3) := by decide +kernel
theorem dX9_comes_4 : decode cX9_comes 4 = .ok (.iconst 0, 1) := by decide +kernel
theorem dX9_comes_5 : decode cX9_comes 5 = .ok (.iaload, 1) := by decide +kernel
theorem dX9_comes_6 : decode cX9_comes 6 = .ok (.istore_n 3, 1) := by decide +kernel
theorem dX9_comes_7 : decode cX9_comes 7 = .ok (.iload_n 3, 1) := by decide +kernel
theorem dX9_comes_8 : decode cX9_comes 8 = .ok (.iload_n 1, 1) := by decide +kernel
theorem dX9_comes_9 : decode cX9_comes 9 = .ok (.if_icmp .le 27, 3) := by decide +kernel
theorem dX9_comes_12 : decode cX9_comes 12 = .ok (.aload_n 0, 1) := by decide +kernel
theorem dX9_comes_13 : decode cX9_comes 13 = .ok (.getfield 7, 3) := by decide +kernel
theorem dX9_comes_16 : decode cX9_comes 16 = .ok (.iconst 4, 1) := by decide +kernel
theorem dX9_comes_17 : decode cX9_comes 17 = .ok (.iload_n 3, 1) := by decide +kernel
theorem dX9_comes_18 : decode cX9_comes 18 = .ok (.iadd, 1) := by decide +kernel
theorem dX9_comes_19 : decode cX9_comes 19 = .ok (.aload_n 0, 1) := by decide +kernel
theorem dX9_comes_20 : decode cX9_comes 20 = .ok (.getfield 7, 3) := by decide +kernel
theorem dX9_comes_23 : decode cX9_comes 23 = .ok (.iconst 4, 1) := by decide +kernel
theorem dX9_comes_24 : decode cX9_comes 24 = .ok (.iload_n 3, 1) := by decide +kernel
theorem dX9_comes_25 : decode cX9_comes 25 = .ok (.iadd, 1) := by decide +kernel
theorem dX9_comes_26 : decode cX9_comes 26 = .ok (.iconst 1, 1) := by decide +kernel
theorem dX9_comes_27 : decode cX9_comes 27 = .ok (.isub, 1) := by decide +kernel
theorem dX9_comes_28 : decode cX9_comes 28 = .ok (.iaload, 1) := by decide +kernel
theorem dX9_comes_29 : decode cX9_comes 29 = .ok (.iastore, 1) := by decide +kernel
theorem dX9_comes_30 : decode cX9_comes 30 = .ok (.iinc 3 (-1), 3) := by decide +kernel
theorem dX9_comes_33 : decode cX9_comes 33 = .ok (.goto (-26), 3) := by decide +kernel
theorem dX9_comes_36 : decode cX9_comes 36 = .ok (.aload_n 0, 1) := by decide +kernel
theorem dX9_comes_37 : decode cX9_comes 37 = .ok (.getfield 7, 3) := by decide +kernel
theorem dX9_comes_40 : decode cX9_comes 40 = .ok (.iconst 4, 1) := by decide +kernel
theorem dX9_comes_41 : decode cX9_comes 41 = .ok (.iload_n 1, 1) := by decide +kernel
theorem dX9_comes_42 : decode cX9_comes 42 = .ok (.iadd, 1) := by decide +kernel
theorem dX9_comes_43 : decode cX9_comes 43 = .ok (.iload_n 2, 1) := by decide +kernel
theorem dX9_comes_44 : decode cX9_comes 44 = .ok (.iastore, 1) := by decide +kernel
theorem dX9_comes_45 : decode cX9_comes 45 = .ok (.aload_n 0, 1) := by decide +kernel
theorem dX9_comes_46 : decode cX9_comes 46 = .ok (.getfield 7, 3) := by decide +kernel
theorem dX9_comes_49 : decode cX9_comes 49 = .ok (.iconst 0, 1) := by decide +kernel
theorem dX9_comes_50 : decode cX9_comes 50 = .ok (.dup2, 1) := by decide +kernel
theorem dX9_comes_51 : decode cX9_comes 51 = .ok (.iaload, 1) := by decide +kernel
theorem dX9_comes_52 : decode cX9_comes 52 = .ok (.iconst 1, 1) := by decide +kernel
theorem dX9_comes_53 : decode cX9_comes 53 = .ok (.iadd, 1) := by decide +kernel
theorem dX9_comes_54 : decode cX9_comes 54 = .ok (.iastore, 1) := by decide +kernel
theorem dX9_comes_55 : decode cX9_comes 55 = .ok (.aload_n 0, 1) := by decide +kernel
theorem dX9_comes_56 : decode cX9_comes 56 = .ok (.getfield 7, 3) := by decide +kernel
theorem dX9_comes_59 : decode cX9_comes 59 = .ok (.iconst 1, 1) := by decide +kernel
theorem dX9_comes_60 : decode cX9_comes 60 = .ok (.dup2, 1) := by decide +kernel
theorem dX9_comes_61 : decode cX9_comes 61 = .ok (.iaload, 1) := by decide +kernel
theorem dX9_comes_62 : decode cX9_comes 62 = .ok (.iconst 1, 1) := by decide +kernel
theorem dX9_comes_63 : decode cX9_comes 63 = .ok (.iadd, 1) := by decide +kernel
theorem dX9_comes_64 : decode cX9_comes 64 = .ok (.iastore, 1) := by decide +kernel
theorem dX9_comes_65 : decode cX9_comes 65 = .ok (.return_, 1) := by decide +kernel
theorem dX9_put_0 : decode cX9_put 0 = .ok (.aload_n 0, 1) := by decide +kernel
theorem dX9_put_1 : decode cX9_put 1 = .ok (.aload_n 0, 1) := by decide +kernel
theorem dX9_put_2 : decode cX9_put 2 = .ok (.getfield 7, 3) := by decide +kernel
theorem dX9_put_5 : decode cX9_put 5 = .ok (.iconst 0, 1) := by decide +kernel
theorem dX9_put_6 : decode cX9_put 6 = .ok (.iaload, 1) := by decide +kernel
theorem dX9_put_7 : decode cX9_put 7 = .ok (.iload_n 1, 1) := by decide +kernel
theorem dX9_put_8 : decode cX9_put 8 = .ok (.invokevirtual 72, 3) := by decide +kernel
theorem dX9_put_11 : decode cX9_put 11 = .ok (.istore_n 2, 1) := by decide +kernel
theorem dX9_put_12 : decode cX9_put 12 = .ok (.iload_n 2, 1) := by decide +kernel
theorem dX9_put_13 : decode cX9_put 13 = .ok (.ifCond .eq 9, 3) := by decide +kernel
theorem dX9_put_16 : decode cX9_put 16 = .ok (.aload_n 0, 1) := by decide +kernel
theorem dX9_put_17 : decode cX9_put 17 = .ok (.iload_n 2, 1) := by decide +kernel
theorem dX9_put_18 : decode cX9_put 18 = .ok (.invokevirtual 75, 3) := by decide +kernel
theorem dX9_put_21 : decode cX9_put 21 = .ok (.ireturn, 1) := by decide +kernel
theorem dX9_put_22 : decode cX9_put 22 = .ok (.aload_n 0, 1) := by decide +kernel
theorem dX9_put_23 : decode cX9_put 23 = .ok (.invokevirtual 79, 3) := by decide +kernel
theorem dX9_put_26 : decode cX9_put 26 = .ok (.aload_n 0, 1) := by decide +kernel
theorem dX9_put_27 : decode cX9_put 27 = .ok (.aload_n 0, 1) := by decide +kernel
theorem dX9_put_28 : decode cX9_put 28 = .ok (.getfield 7, 3) := by decide +kernel
theorem dX9_put_31 : decode cX9_put 31 = .ok (.iconst 0, 1) := by decide +kernel
theorem dX9_put_32 : decode cX9_put 32 = .ok (.iaload, 1) := by decide +kernel
theorem dX9_put_33 : decode cX9_put 33 = .ok (.iload_n 1, 1) := by decide +kernel
theorem dX9_put_34 : decode cX9_put 34 = .ok (.invokevirtual 82, 3) := by decide +kernel
theorem dX9_put_37 : decode cX9_put 37 = .ok (.aload_n 0, 1) := by decide +kernel
theorem dX9_put_38 : decode cX9_put 38 = .ok (.getfield 7, 3) := by decide +kernel
theorem dX9_put_41 : decode cX9_put 41 = .ok (.iconst 0, 1) := by decide +kernel
theorem dX9_put_42 : decode cX9_put 42 = .ok (.iaload, 1) := by decide +kernel
theorem dX9_put_43 : decode cX9_put 43 = .ok (.iconst 1, 1) := by decide +kernel
theorem dX9_put_44 : decode cX9_put 44 = .ok (.isub, 1) := by decide +kernel
theorem dX9_put_45 : decode cX9_put 45 = .ok (.ireturn, 1) := by decide +kernel
theorem dX9_insert_0 : decode cX9_insert 0 = .ok (.aload_n 0, 1) := by decide +kernel
theorem dX9_insert_1 : decode cX9_insert 1 = .ok (.iload_n 1, 1) := by decide +kernel
theorem dX9_insert_2 : decode cX9_insert 2 = .ok (.iload_n 2, 1) := by decide +kernel
theorem dX9_insert_3 : decode cX9_insert 3 = .ok (.invokevirtual 72, 3) := by decide +kernel
theorem dX9_insert_6 : decode cX9_insert 6 = .ok (.istore_n 3, 1) := by decide +kernel
theorem dX9_insert_7 : decode cX9_insert 7 = .ok (.iload_n 3, 1) := by decide +kernel
theorem dX9_insert_8 : decode cX9_insert 8 = .ok (.ifCond .eq 9, 3) := by decide +kernel
theorem dX9_insert_11 : decode cX9_insert 11 = .ok (.aload_n 0, 1) := by decide +kernel
theorem dX9_insert_12 : decode cX9_insert 12 = .ok (.iload_n 3, 1) := by decide +kernel
theorem dX9_insert_13 : decode cX9_insert 13 = .ok (.invokevirtual 75, 3) := by decide +kernel
theorem dX9_insert_16 : decode cX9_insert 16 = .ok (.ireturn, 1) := by decide +kernel
theorem dX9_insert_17 : decode cX9_insert 17 = .ok (.aload_n 0, 1) := by decide +kernel
theorem dX9_insert_18 : decode cX9_insert 18 = .ok (.invokevirtual 79, 3) := by decide +kernel
theorem dX9_insert_21 : decode cX9_insert 21 = .ok (.aload_n 0, 1) := by decide +kernel
theorem dX9_insert_22 : decode cX9_insert 22 = .ok (.iload_n 1, 1) := by decide +kernel
theorem dX9_insert_23 : decode cX9_insert 23 = .ok (.iload_n 2, 1) := by decide +kernel
theorem dX9_insert_24 : decode cX9_insert 24 = .ok (.invokevirtual 82, 3) := by decide +kernel
theorem dX9_insert_27 : decode cX9_insert 27 = .ok (.aload_n 0, 1) := by decide +kernel
theorem dX9_insert_28 : decode cX9_insert 28 = .ok (.getfield 7, 3) := by decide +kernel
theorem dX9_insert_31 : decode cX9_insert 31 = .ok (.iconst 0, 1) := by decide +kernel
theorem dX9_insert_32 : decode cX9_insert 32 = .ok (.iaload, 1) := by decide +kernel
theorem dX9_insert_33 : decode cX9_insert 33 = .ok (.ireturn, 1) := by decide +kernel
theorem dX9_goes_0 : decode cX9_goes 0 = .ok (.aload_n 0, 1) := by decide +kernel
theorem dX9_goes_1 : decode cX9_goes 1 = .ok (.iload_n 1, 1) := by decide +kernel
theorem dX9_goes_2 : decode cX9_goes 2 = .ok (.invokevirtual 86, 3) := by decide +kernel
theorem dX9_goes_5 : decode cX9_goes 5 = .ok (.istore_n 2, 1) := by decide +kernel
theorem dX9_goes_6 : decode cX9_goes 6 = .ok (.aload_n 0, 1) := by decide +kernel
theorem dX9_goes_7 : decode cX9_goes 7 = .ok (.getfield 7, 3) := by decide +kernel
theorem dX9_goes_10 : decode cX9_goes 10 = .ok (.iconst 0, 1) := by decide +kernel
theorem dX9_goes_11 : decode cX9_goes 11 = .ok (.dup2, 1) := by decide +kernel
theorem dX9_goes_12 : decode cX9_goes 12 = .ok (.iaload, 1) := by decide +kernel
theorem dX9_goes_13 : decode cX9_goes 13 = .ok (.iconst 1, 1) := by decide +kernel
theorem dX9_goes_14 : decode cX9_goes 14 = .ok (.isub, 1) := by decide +kernel
theorem dX9_goes_15 : decode cX9_goes 15 = .ok (.iastore, 1) := by decide +kernel
theorem dX9_goes_16 : decode cX9_goes 16 = .ok (.aload_n 0, 1) := by decide +kernel
theorem dX9_goes_17 : decode cX9_goes 17 = .ok (.getfield 7, 3) := by decide +kernel
theorem dX9_goes_20 : decode cX9_goes 20 = .ok (.iconst 2, 1) := by decide +kernel
theorem dX9_goes_21 : decode cX9_goes 21 = .ok (.dup2, 1) := by decide +kernel
theorem dX9_goes_22 : decode cX9_goes 22 = .ok (.iaload, 1) := by decide +kernel
theorem dX9_goes_23 : decode cX9_goes 23 = .ok (.iconst 1, 1) := by decide +kernel
theorem dX9_goes_24 : decode cX9_goes 24 = .ok (.iadd, 1) := by decide +kernel
theorem dX9_goes_25 : decode cX9_goes 25 = .ok (.iastore, 1) := by decide +kernel
theorem dX9_goes_26 : decode cX9_goes 26 = .ok (.iload_n 1, 1) := by decide +kernel
theorem dX9_goes_27 : decode cX9_goes 27 = .ok (.istore_n 3, 1) := by decide +kernel
theorem dX9_goes_28 : decode cX9_goes 28 = .ok (.iload_n 3, 1) := by decide +kernel
theorem dX9_goes_29 : decode cX9_goes 29 = .ok (.aload_n 0, 1) := by decide +kernel
theorem dX9_goes_30 : decode cX9_goes 30 = .ok (.getfield 7, 3) := by decide +kernel
theorem dX9_goes_33 : decode cX9_goes 33 = .ok (.iconst 0, 1) := by decide +kernel
theorem dX9_goes_34 : decode cX9_goes 34 = .ok (.iaload, 1) := by decide +kernel
theorem dX9_goes_35 : decode cX9_goes 35 = .ok (.if_icmp .ge 27, 3) := by decide +kernel
theorem dX9_goes_38 : decode cX9_goes 38 = .ok (.aload_n 0, 1) := by decide +kernel
theorem dX9_goes_39 : decode cX9_goes 39 = .ok (.getfield 7, 3) := by decide +kernel
theorem dX9_goes_42 : decode cX9_goes 42 = .ok (.iconst 4, 1) := by decide +kernel
theorem dX9_goes_43 : decode cX9_goes 43 = .ok (.iload_n 3, 1) := by decide +kernel
theorem dX9_goes_44 : decode cX9_goes 44 = .ok (.iadd, 1) := by decide +kernel
theorem dX9_goes_45 : decode cX9_goes 45 = .ok (.aload_n 0, 1) := by decide +kernel
theorem dX9_goes_46 : decode cX9_goes 46 = .ok (.getfield 7, 3) := by decide +kernel
theorem dX9_goes_49 : decode cX9_goes 49 = .ok (.iconst 4, 1) := by decide +kernel
theorem dX9_goes_50 : decode cX9_goes 50 = .ok (.iload_n 3, 1) := by decide +kernel
theorem dX9_goes_51 : decode cX9_goes 51 = .ok (.iadd, 1) := by decide +kernel
theorem dX9_goes_52 : decode cX9_goes 52 = .ok (.iconst 1, 1) := by decide +kernel
theorem dX9_goes_53 : decode cX9_goes 53 = .ok (.iadd, 1) := by decide +kernel
theorem dX9_goes_54 : decode cX9_goes 54 = .ok (.iaload, 1) := by decide +kernel
theorem dX9_goes_55 : decode cX9_goes 55 = .ok (.iastore, 1) := by decide +kernel
theorem dX9_goes_56 : decode cX9_goes 56 = .ok (.iinc 3 1, 3) := by decide +kernel
theorem dX9_goes_59 : decode cX9_goes 59 = .ok (.goto (-31), 3) := by decide +kernel
theorem dX9_goes_62 : decode cX9_goes 62 = .ok (.aload_n 0, 1) := by decide +kernel
theorem dX9_goes_63 : decode cX9_goes 63 = .ok (.getfield 7, 3) := by decide +kernel
theorem dX9_goes_66 : decode cX9_goes 66 = .ok (.iconst 4, 1) := by decide +kernel
theorem dX9_goes_67 : decode cX9_goes 67 = .ok (.aload_n 0, 1) := by decide +kernel
theorem dX9_goes_68 : decode cX9_goes 68 = .ok (.getfield 7, 3) := by decide +kernel
theorem dX9_goes_71 : decode cX9_goes 71 = .ok (.iconst 0, 1) := by decide +kernel
theorem dX9_goes_72 : decode cX9_goes 72 = .ok (.iaload, 1) := by decide +kernel
theorem dX9_goes_73 : decode cX9_goes 73 = .ok (.iadd, 1) := by decide +kernel
theorem dX9_goes_74 : decode cX9_goes 74 = .ok (.iconst 0, 1) := by decide +kernel
theorem dX9_goes_75 : decode cX9_goes 75 = .ok (.iastore, 1) := by decide +kernel
theorem dX9_goes_76 : decode cX9_goes 76 = .ok (.iload_n 2, 1) := by decide +kernel
theorem dX9_goes_77 : decode cX9_goes 77 = .ok (.ireturn, 1) := by decide +kernel
theorem dX9_take_0 : decode cX9_take 0 = .ok (.aload_n 0, 1) := by decide +kernel
theorem dX9_take_1 : decode cX9_take 1 = .ok (.iload_n 1, 1) := by decide +kernel
theorem dX9_take_2 : decode cX9_take 2 = .ok (.invokevirtual 89, 3) := by decide +kernel
theorem dX9_take_5 : decode cX9_take 5 = .ok (.ifCond .ne 6, 3) := by decide +kernel
theorem dX9_take_8 : decode cX9_take 8 = .ok (.bipush (-11), 2) := by decide +kernel
theorem dX9_take_10 : decode cX9_take 10 = .ok (.ireturn, 1) := by decide +kernel
theorem dX9_take_11 : decode cX9_take 11 = .ok (.aload_n 0, 1) := by decide +kernel
theorem dX9_take_12 : decode cX9_take 12 = .ok (.invokevirtual 79, 3) := by decide +kernel
theorem dX9_take_15 : decode cX9_take 15 = .ok (.aload_n 0, 1) := by decide +kernel
theorem dX9_take_16 : decode cX9_take 16 = .ok (.iload_n 1, 1) := by decide +kernel
theorem dX9_take_17 : decode cX9_take 17 = .ok (.invokevirtual 92, 3) := by decide +kernel
theorem dX9_take_20 : decode cX9_take 20 = .ok (.ireturn, 1) := by decide +kernel
theorem dX9_notSwap_0 : decode cX9_notSwap 0 = .ok (.aload_n 0, 1) := by decide +kernel
theorem dX9_notSwap_1 : decode cX9_notSwap 1 = .ok (.iload_n 1, 1) := by decide +kernel
theorem dX9_notSwap_2 : decode cX9_notSwap 2 = .ok (.invokevirtual 89, 3) := by decide +kernel
theorem dX9_notSwap_5 : decode cX9_notSwap 5 = .ok (.ifCond .eq 13, 3) := by decide +kernel
theorem dX9_notSwap_8 : decode cX9_notSwap 8 = .ok (.aload_n 0, 1) := by decide +kernel
theorem dX9_notSwap_9 : decode cX9_notSwap 9 = .ok (.iload_n 1, 1) := by decide +kernel
theorem dX9_notSwap_10 : decode cX9_notSwap 10 = .ok (.iconst 1, 1) := by decide +kernel
theorem dX9_notSwap_11 : decode cX9_notSwap 11 = .ok (.iadd, 1) := by decide +kernel
theorem dX9_notSwap_12 : decode cX9_notSwap 12 = .ok (.invokevirtual 89, 3) := by decide +kernel
theorem dX9_notSwap_15 : decode cX9_notSwap 15 = .ok (.ifCond .ne 6, 3) := by decide +kernel
theorem dX9_notSwap_18 : decode cX9_notSwap 18 = .ok (.bipush (-11), 2) := by decide +kernel
theorem dX9_notSwap_20 : decode cX9_notSwap 20 = .ok (.ireturn, 1) := by decide +kernel
theorem dX9_notSwap_21 : decode cX9_notSwap 21 = .ok (.aload_n 0, 1) := by decide +kernel
theorem dX9_notSwap_22 : decode cX9_notSwap 22 = .ok (.iload_n 1, 1) := by decide +kernel
theorem dX9_notSwap_23 : decode cX9_notSwap 23 = .ok (.invokevirtual 86, 3) := by decide +kernel
theorem dX9_notSwap_26 : decode cX9_notSwap 26 = .ok (.aload_n 0, 1) := by decide +kernel
theorem dX9_notSwap_27 : decode cX9_notSwap 27 = .ok (.iload_n 1, 1) := by decide +kernel
theorem dX9_notSwap_28 : decode cX9_notSwap 28 = .ok (.iconst 1, 1) := by decide +kernel
theorem dX9_notSwap_29 : decode cX9_notSwap 29 = .ok (.iadd, 1) := by decide +kernel
theorem dX9_notSwap_30 : decode cX9_notSwap 30 = .ok (.invokevirtual 86, 3) := by decide +kernel
theorem dX9_notSwap_33 : decode cX9_notSwap 33 = .ok (.if_icmp .ne 16, 3) := by decide +kernel
theorem dX9_notSwap_36 : decode cX9_notSwap 36 = .ok (.aload_n 0, 1) := by decide +kernel
theorem dX9_notSwap_37 : decode cX9_notSwap 37 = .ok (.iconst 2, 1) := by decide +kernel
theorem dX9_notSwap_38 : decode cX9_notSwap 38 = .ok (.aload_n 0, 1) := by decide +kernel
theorem dX9_notSwap_39 : decode cX9_notSwap 39 = .ok (.iload_n 1, 1) := by decide +kernel
theorem dX9_notSwap_40 : decode cX9_notSwap 40 = .ok (.invokevirtual 86, 3) := by decide +kernel
theorem dX9_notSwap_43 : decode cX9_notSwap 43 = .ok (.invokevirtual 68, 3) := by decide +kernel
theorem dX9_notSwap_46 : decode cX9_notSwap 46 = .ok (.goto 4, 3) := by decide +kernel
theorem dX9_notSwap_49 : decode cX9_notSwap 49 = .ok (.iconst 0, 1) := by decide +kernel
theorem dX9_notSwap_50 : decode cX9_notSwap 50 = .ok (.ireturn, 1) := by decide +kernel
theorem dX9_swaps_0 : decode cX9_swaps 0 = .ok (.aload_n 0, 1) := by decide +kernel
theorem dX9_swaps_1 : decode cX9_swaps 1 = .ok (.iload_n 1, 1) := by decide +kernel
theorem dX9_swaps_2 : decode cX9_swaps 2 = .ok (.invokevirtual 86, 3) := by decide +kernel
theorem dX9_swaps_5 : decode cX9_swaps 5 = .ok (.istore_n 2, 1) := by decide +kernel
theorem dX9_swaps_6 : decode cX9_swaps 6 = .ok (.aload_n 0, 1) := by decide +kernel
theorem dX9_swaps_7 : decode cX9_swaps 7 = .ok (.getfield 7, 3) := by decide +kernel
theorem dX9_swaps_10 : decode cX9_swaps 10 = .ok (.iconst 4, 1) := by decide +kernel
theorem dX9_swaps_11 : decode cX9_swaps 11 = .ok (.iload_n 1, 1) := by decide +kernel
theorem dX9_swaps_12 : decode cX9_swaps 12 = .ok (.iadd, 1) := by decide +kernel
theorem dX9_swaps_13 : decode cX9_swaps 13 = .ok (.aload_n 0, 1) := by decide +kernel
theorem dX9_swaps_14 : decode cX9_swaps 14 = .ok (.iload_n 1, 1) := by decide +kernel
theorem dX9_swaps_15 : decode cX9_swaps 15 = .ok (.iconst 1, 1) := by decide +kernel
theorem dX9_swaps_16 : decode cX9_swaps 16 = .ok (.iadd, 1) := by decide +kernel
theorem dX9_swaps_17 : decode cX9_swaps 17 = .ok (.invokevirtual 86, 3) := by decide +kernel
theorem dX9_swaps_20 : decode cX9_swaps 20 = .ok (.iastore, 1) := by decide +kernel
theorem dX9_swaps_21 : decode cX9_swaps 21 = .ok (.aload_n 0, 1) := by decide +kernel
theorem dX9_swaps_22 : decode cX9_swaps 22 = .ok (.getfield 7, 3) := by decide +kernel
theorem dX9_swaps_25 : decode cX9_swaps 25 = .ok (.iconst 4, 1) := by decide +kernel
theorem dX9_swaps_26 : decode cX9_swaps 26 = .ok (.iload_n 1, 1) := by decide +kernel
theorem dX9_swaps_27 : decode cX9_swaps 27 = .ok (.iadd, 1) := by decide +kernel
theorem dX9_swaps_28 : decode cX9_swaps 28 = .ok (.iconst 1, 1) := by decide +kernel
theorem dX9_swaps_29 : decode cX9_swaps 29 = .ok (.iadd, 1) := by decide +kernel
theorem dX9_swaps_30 : decode cX9_swaps 30 = .ok (.iload_n 2, 1) := by decide +kernel
theorem dX9_swaps_31 : decode cX9_swaps 31 = .ok (.iastore, 1) := by decide +kernel
theorem dX9_swaps_32 : decode cX9_swaps 32 = .ok (.aload_n 0, 1) := by decide +kernel
theorem dX9_swaps_33 : decode cX9_swaps 33 = .ok (.getfield 7, 3) := by decide +kernel
theorem dX9_swaps_36 : decode cX9_swaps 36 = .ok (.iconst 3, 1) := by decide +kernel
theorem dX9_swaps_37 : decode cX9_swaps 37 = .ok (.dup2, 1) := by decide +kernel
theorem dX9_swaps_38 : decode cX9_swaps 38 = .ok (.iaload, 1) := by decide +kernel
theorem dX9_swaps_39 : decode cX9_swaps 39 = .ok (.iconst 1, 1) := by decide +kernel
theorem dX9_swaps_40 : decode cX9_swaps 40 = .ok (.iadd, 1) := by decide +kernel
theorem dX9_swaps_41 : decode cX9_swaps 41 = .ok (.iastore, 1) := by decide +kernel
theorem dX9_swaps_42 : decode cX9_swaps 42 = .ok (.aload_n 0, 1) := by decide +kernel
theorem dX9_swaps_43 : decode cX9_swaps 43 = .ok (.iload_n 1, 1) := by decide +kernel
theorem dX9_swaps_44 : decode cX9_swaps 44 = .ok (.invokevirtual 86, 3) := by decide +kernel
theorem dX9_swaps_47 : decode cX9_swaps 47 = .ok (.ireturn, 1) := by decide +kernel
theorem dX9_swap_0 : decode cX9_swap 0 = .ok (.aload_n 0, 1) := by decide +kernel
theorem dX9_swap_1 : decode cX9_swap 1 = .ok (.iload_n 1, 1) := by decide +kernel
theorem dX9_swap_2 : decode cX9_swap 2 = .ok (.invokevirtual 95, 3) := by decide +kernel
theorem dX9_swap_5 : decode cX9_swap 5 = .ok (.istore_n 2, 1) := by decide +kernel
theorem dX9_swap_6 : decode cX9_swap 6 = .ok (.iload_n 2, 1) := by decide +kernel
theorem dX9_swap_7 : decode cX9_swap 7 = .ok (.ifCond .eq 9, 3) := by decide +kernel
theorem dX9_swap_10 : decode cX9_swap 10 = .ok (.aload_n 0, 1) := by decide +kernel
theorem dX9_swap_11 : decode cX9_swap 11 = .ok (.iload_n 2, 1) := by decide +kernel
theorem dX9_swap_12 : decode cX9_swap 12 = .ok (.invokevirtual 75, 3) := by decide +kernel
theorem dX9_swap_15 : decode cX9_swap 15 = .ok (.ireturn, 1) := by decide +kernel
theorem dX9_swap_16 : decode cX9_swap 16 = .ok (.aload_n 0, 1) := by decide +kernel
theorem dX9_swap_17 : decode cX9_swap 17 = .ok (.invokevirtual 79, 3) := by decide +kernel
theorem dX9_swap_20 : decode cX9_swap 20 = .ok (.aload_n 0, 1) := by decide +kernel
theorem dX9_swap_21 : decode cX9_swap 21 = .ok (.iload_n 1, 1) := by decide +kernel
theorem dX9_swap_22 : decode cX9_swap 22 = .ok (.invokevirtual 98, 3) := by decide +kernel
theorem dX9_swap_25 : decode cX9_swap 25 = .ok (.ireturn, 1) := by decide +kernel
theorem dX9_hasMark_0 : decode cX9_hasMark 0 = .ok (.aload_n 0, 1) := by decide +kernel
theorem dX9_hasMark_1 : decode cX9_hasMark 1 = .ok (.getfield 7, 3) := by decide +kernel
theorem dX9_hasMark_4 : decode cX9_hasMark 4 = .ok (.bipush 68, 2) := by decide +kernel
theorem dX9_hasMark_6 : decode cX9_hasMark 6 = .ok (.iload_n 1, 1) := by decide +kernel
theorem dX9_hasMark_7 : decode cX9_hasMark 7 = .ok (.iadd, 1) := by decide +kernel
theorem dX9_hasMark_8 : decode cX9_hasMark 8 = .ok (.iaload, 1) := by decide +kernel
theorem dX9_hasMark_9 : decode cX9_hasMark 9 = .ok (.iconst 1, 1) := by decide +kernel
theorem dX9_hasMark_10 : decode cX9_hasMark 10 = .ok (.if_icmp .ne 7, 3) := by decide +kernel
theorem dX9_hasMark_13 : decode cX9_hasMark 13 = .ok (.iconst 1, 1) := by decide +kernel
theorem dX9_hasMark_14 : decode cX9_hasMark 14 = .ok (.goto 4, 3) := by decide +kernel
theorem dX9_hasMark_17 : decode cX9_hasMark 17 = .ok (.iconst 0, 1) := by decide +kernel
theorem dX9_hasMark_18 : decode cX9_hasMark 18 = .ok (.ireturn, 1) := by decide +kernel
theorem dX9_marked_0 : decode cX9_marked 0 = .ok (.iconst 0, 1) := by decide +kernel
theorem dX9_marked_1 : decode cX9_marked 1 = .ok (.istore_n 1, 1) := by decide +kernel
theorem dX9_marked_2 : decode cX9_marked 2 = .ok (.iconst 1, 1) := by decide +kernel
theorem dX9_marked_3 : decode cX9_marked 3 = .ok (.istore_n 2, 1) := by decide +kernel
theorem dX9_marked_4 : decode cX9_marked 4 = .ok (.iload_n 2, 1) := by decide +kernel
theorem dX9_marked_5 : decode cX9_marked 5 = .ok (.bipush 64, 2) := by decide +kernel
theorem dX9_marked_7 : decode cX9_marked 7 = .ok (.if_icmp .ge 21, 3) := by decide +kernel
theorem dX9_marked_10 : decode cX9_marked 10 = .ok (.iload_n 1, 1) := by decide +kernel
theorem dX9_marked_11 : decode cX9_marked 11 = .ok (.aload_n 0, 1) := by decide +kernel
theorem dX9_marked_12 : decode cX9_marked 12 = .ok (.getfield 7, 3) := by decide +kernel
theorem dX9_marked_15 : decode cX9_marked 15 = .ok (.bipush 68, 2) := by decide +kernel
theorem dX9_marked_17 : decode cX9_marked 17 = .ok (.iload_n 2, 1) := by decide +kernel
theorem dX9_marked_18 : decode cX9_marked 18 = .ok (.iadd, 1) := by decide +kernel
theorem dX9_marked_19 : decode cX9_marked 19 = .ok (.iaload, 1) := by decide +kernel
theorem dX9_marked_20 : decode cX9_marked 20 = .ok (.iadd, 1) := by decide +kernel
theorem dX9_marked_21 : decode cX9_marked 21 = .ok (.istore_n 1, 1) := by decide +kernel
theorem dX9_marked_22 : decode cX9_marked 22 = .ok (.iinc 2 1, 3) := by decide +kernel
theorem dX9_marked_25 : decode cX9_marked 25 = .ok (.goto (-21), 3) := by decide +kernel
theorem dX9_marked_28 : decode cX9_marked 28 = .ok (.iload_n 1, 1) := by decide +kernel
theorem dX9_marked_29 : decode cX9_marked 29 = .ok (.ireturn, 1) := by decide +kernel
theorem dX9_notMark_0 : decode cX9_notMark 0 = .ok (.iload_n 1, 1) := by decide +kernel
theorem dX9_notMark_1 : decode cX9_notMark 1 = .ok (.iconst 1, 1) := by decide +kernel
theorem dX9_notMark_2 : decode cX9_notMark 2 = .ok (.bipush 63, 2) := by decide +kernel
theorem dX9_notMark_4 : decode cX9_notMark 4 = .ok (.invokestatic 60, 3) := by decide +kernel
theorem dX9_notMark_7 : decode cX9_notMark 7 = .ok (.ifCond .ne 6, 3) := by decide +kernel
theorem dX9_notMark_10 : decode cX9_notMark 10 = .ok (.bipush (-11), 2) := by decide +kernel
theorem dX9_notMark_12 : decode cX9_notMark 12 = .ok (.ireturn, 1) := by decide +kernel
theorem dX9_notMark_13 : decode cX9_notMark 13 = .ok (.aload_n 0, 1) := by decide +kernel
theorem dX9_notMark_14 : decode cX9_notMark 14 = .ok (.iload_n 1, 1) := by decide +kernel
theorem dX9_notMark_15 : decode cX9_notMark 15 = .ok (.invokevirtual 101, 3) := by decide +kernel
theorem dX9_notMark_18 : decode cX9_notMark 18 = .ok (.iload_n 2, 1) := by decide +kernel
theorem dX9_notMark_19 : decode cX9_notMark 19 = .ok (.if_icmp .ne 12, 3) := by decide +kernel
theorem dX9_notMark_22 : decode cX9_notMark 22 = .ok (.aload_n 0, 1) := by decide +kernel
theorem dX9_notMark_23 : decode cX9_notMark 23 = .ok (.iconst 3, 1) := by decide +kernel
theorem dX9_notMark_24 : decode cX9_notMark 24 = .ok (.iload_n 1, 1) := by decide +kernel
theorem dX9_notMark_25 : decode cX9_notMark 25 = .ok (.invokevirtual 68, 3) := by decide +kernel
theorem dX9_notMark_28 : decode cX9_notMark 28 = .ok (.goto 4, 3) := by decide +kernel
theorem dX9_notMark_31 : decode cX9_notMark 31 = .ok (.iconst 0, 1) := by decide +kernel
theorem dX9_notMark_32 : decode cX9_notMark 32 = .ok (.ireturn, 1) := by decide +kernel
theorem dX9_marks_0 : decode cX9_marks 0 = .ok (.aload_n 0, 1) := by decide +kernel
theorem dX9_marks_1 : decode cX9_marks 1 = .ok (.getfield 7, 3) := by decide +kernel
theorem dX9_marks_4 : decode cX9_marks 4 = .ok (.bipush 68, 2) := by decide +kernel
theorem dX9_marks_6 : decode cX9_marks 6 = .ok (.iload_n 1, 1) := by decide +kernel
theorem dX9_marks_7 : decode cX9_marks 7 = .ok (.iadd, 1) := by decide +kernel
theorem dX9_marks_8 : decode cX9_marks 8 = .ok (.iload_n 2, 1) := by decide +kernel
theorem dX9_marks_9 : decode cX9_marks 9 = .ok (.ifCond .eq 7, 3) := by decide +kernel
theorem dX9_marks_12 : decode cX9_marks 12 = .ok (.iconst 1, 1) := by decide +kernel
theorem dX9_marks_13 : decode cX9_marks 13 = .ok (.goto 4, 3) := by decide +kernel
theorem dX9_marks_16 : decode cX9_marks 16 = .ok (.iconst 0, 1) := by decide +kernel
theorem dX9_marks_17 : decode cX9_marks 17 = .ok (.iastore, 1) := by decide +kernel
theorem dX9_marks_18 : decode cX9_marks 18 = .ok (.aload_n 0, 1) := by decide +kernel
theorem dX9_marks_19 : decode cX9_marks 19 = .ok (.invokevirtual 104, 3) := by decide +kernel
theorem dX9_marks_22 : decode cX9_marks 22 = .ok (.ireturn, 1) := by decide +kernel
theorem dX9_mark_0 : decode cX9_mark 0 = .ok (.aload_n 0, 1) := by decide +kernel
theorem dX9_mark_1 : decode cX9_mark 1 = .ok (.iload_n 1, 1) := by decide +kernel
theorem dX9_mark_2 : decode cX9_mark 2 = .ok (.iload_n 2, 1) := by decide +kernel
theorem dX9_mark_3 : decode cX9_mark 3 = .ok (.invokevirtual 108, 3) := by decide +kernel
theorem dX9_mark_6 : decode cX9_mark 6 = .ok (.istore_n 3, 1) := by decide +kernel
theorem dX9_mark_7 : decode cX9_mark 7 = .ok (.iload_n 3, 1) := by decide +kernel
theorem dX9_mark_8 : decode cX9_mark 8 = .ok (.ifCond .eq 9, 3) := by decide +kernel
theorem dX9_mark_11 : decode cX9_mark 11 = .ok (.aload_n 0, 1) := by decide +kernel
theorem dX9_mark_12 : decode cX9_mark 12 = .ok (.iload_n 3, 1) := by decide +kernel
theorem dX9_mark_13 : decode cX9_mark 13 = .ok (.invokevirtual 75, 3) := by decide +kernel
theorem dX9_mark_16 : decode cX9_mark 16 = .ok (.ireturn, 1) := by decide +kernel
theorem dX9_mark_17 : decode cX9_mark 17 = .ok (.aload_n 0, 1) := by decide +kernel
theorem dX9_mark_18 : decode cX9_mark 18 = .ok (.invokevirtual 79, 3) := by decide +kernel
theorem dX9_mark_21 : decode cX9_mark 21 = .ok (.aload_n 0, 1) := by decide +kernel
theorem dX9_mark_22 : decode cX9_mark 22 = .ok (.iload_n 1, 1) := by decide +kernel
theorem dX9_mark_23 : decode cX9_mark 23 = .ok (.iload_n 2, 1) := by decide +kernel
theorem dX9_mark_24 : decode cX9_mark 24 = .ok (.invokevirtual 112, 3) := by decide +kernel
theorem dX9_mark_27 : decode cX9_mark 27 = .ok (.ireturn, 1) := by decide +kernel
theorem dX9_begins_0 : decode cX9_begins 0 = .ok (.iload_n 1, 1) := by decide +kernel
theorem dX9_begins_1 : decode cX9_begins 1 = .ok (.ifCond .eq 11, 3) := by decide +kernel
theorem dX9_begins_4 : decode cX9_begins 4 = .ok (.aload_n 0, 1) := by decide +kernel
theorem dX9_begins_5 : decode cX9_begins 5 = .ok (.iload_n 1, 1) := by decide +kernel
theorem dX9_begins_6 : decode cX9_begins 6 = .ok (.invokevirtual 101, 3) := by decide +kernel
theorem dX9_begins_9 : decode cX9_begins 9 = .ok (.ifCond .eq 7, 3) := by decide +kernel
theorem dX9_begins_12 : decode cX9_begins 12 = .ok (.iconst 1, 1) := by decide +kernel
theorem dX9_begins_13 : decode cX9_begins 13 = .ok (.goto 4, 3) := by decide +kernel
theorem dX9_begins_16 : decode cX9_begins 16 = .ok (.iconst 0, 1) := by decide +kernel
theorem dX9_begins_17 : decode cX9_begins 17 = .ok (.ireturn, 1) := by decide +kernel
theorem dX9_bagsUpTo_0 : decode cX9_bagsUpTo 0 = .ok (.iconst 0, 1) := by decide +kernel
theorem dX9_bagsUpTo_1 : decode cX9_bagsUpTo 1 = .ok (.istore_n 2, 1) := by decide +kernel
theorem dX9_bagsUpTo_2 : decode cX9_bagsUpTo 2 = .ok (.iconst 0, 1) := by decide +kernel
theorem dX9_bagsUpTo_3 : decode cX9_bagsUpTo 3 = .ok (.istore_n 3, 1) := by decide +kernel
theorem dX9_bagsUpTo_4 : decode cX9_bagsUpTo 4 = .ok (.iload_n 3, 1) := by decide +kernel
theorem dX9_bagsUpTo_5 : decode cX9_bagsUpTo 5 = .ok (.iload_n 1, 1) := by decide +kernel
theorem dX9_bagsUpTo_6 : decode cX9_bagsUpTo 6 = .ok (.if_icmp .gt 25, 3) := by decide +kernel
theorem dX9_bagsUpTo_9 : decode cX9_bagsUpTo 9 = .ok (.iload_n 2, 1) := by decide +kernel
theorem dX9_bagsUpTo_10 : decode cX9_bagsUpTo 10 = .ok (.aload_n 0, 1) := by decide +kernel
theorem dX9_bagsUpTo_11 : decode cX9_bagsUpTo 11 = .ok (.iload_n 3, 1) := by decide +kernel
theorem dX9_bagsUpTo_12 : decode cX9_bagsUpTo 12 = .ok (.invokevirtual 115, 3) := by decide +kernel
theorem dX9_bagsUpTo_15 : decode cX9_bagsUpTo 15 = .ok (.ifCond .eq 7, 3) := by decide +kernel
theorem dX9_bagsUpTo_18 : decode cX9_bagsUpTo 18 = .ok (.iconst 1, 1) := by decide +kernel
theorem dX9_bagsUpTo_19 : decode cX9_bagsUpTo 19 = .ok (.goto 4, 3) := by decide +kernel
theorem dX9_bagsUpTo_22 : decode cX9_bagsUpTo 22 = .ok (.iconst 0, 1) := by decide +kernel
theorem dX9_bagsUpTo_23 : decode cX9_bagsUpTo 23 = .ok (.iadd, 1) := by decide +kernel
theorem dX9_bagsUpTo_24 : decode cX9_bagsUpTo 24 = .ok (.istore_n 2, 1) := by decide +kernel
theorem dX9_bagsUpTo_25 : decode cX9_bagsUpTo 25 = .ok (.iinc 3 1, 3) := by decide +kernel
theorem dX9_bagsUpTo_28 : decode cX9_bagsUpTo 28 = .ok (.goto (-24), 3) := by decide +kernel
theorem dX9_bagsUpTo_31 : decode cX9_bagsUpTo 31 = .ok (.iload_n 2, 1) := by decide +kernel
theorem dX9_bagsUpTo_32 : decode cX9_bagsUpTo 32 = .ok (.ireturn, 1) := by decide +kernel
theorem dX9_bags_0 : decode cX9_bags 0 = .ok (.aload_n 0, 1) := by decide +kernel
theorem dX9_bags_1 : decode cX9_bags 1 = .ok (.aload_n 0, 1) := by decide +kernel
theorem dX9_bags_2 : decode cX9_bags 2 = .ok (.getfield 7, 3) := by decide +kernel
theorem dX9_bags_5 : decode cX9_bags 5 = .ok (.iconst 0, 1) := by decide +kernel
theorem dX9_bags_6 : decode cX9_bags 6 = .ok (.iaload, 1) := by decide +kernel
theorem dX9_bags_7 : decode cX9_bags 7 = .ok (.iconst 1, 1) := by decide +kernel
theorem dX9_bags_8 : decode cX9_bags 8 = .ok (.isub, 1) := by decide +kernel
theorem dX9_bags_9 : decode cX9_bags 9 = .ok (.invokevirtual 118, 3) := by decide +kernel
theorem dX9_bags_12 : decode cX9_bags 12 = .ok (.ireturn, 1) := by decide +kernel
theorem dX9_beginOf_0 : decode cX9_beginOf 0 = .ok (.iconst 0, 1) := by decide +kernel
theorem dX9_beginOf_1 : decode cX9_beginOf 1 = .ok (.istore_n 2, 1) := by decide +kernel
theorem dX9_beginOf_2 : decode cX9_beginOf 2 = .ok (.iload_n 2, 1) := by decide +kernel
theorem dX9_beginOf_3 : decode cX9_beginOf 3 = .ok (.aload_n 0, 1) := by decide +kernel
theorem dX9_beginOf_4 : decode cX9_beginOf 4 = .ok (.getfield 7, 3) := by decide +kernel
theorem dX9_beginOf_7 : decode cX9_beginOf 7 = .ok (.iconst 0, 1) := by decide +kernel
theorem dX9_beginOf_8 : decode cX9_beginOf 8 = .ok (.iaload, 1) := by decide +kernel
theorem dX9_beginOf_9 : decode cX9_beginOf 9 = .ok (.if_icmp .ge 18, 3) := by decide +kernel
theorem dX9_beginOf_12 : decode cX9_beginOf 12 = .ok (.aload_n 0, 1) := by decide +kernel
theorem dX9_beginOf_13 : decode cX9_beginOf 13 = .ok (.iload_n 2, 1) := by decide +kernel
theorem dX9_beginOf_14 : decode cX9_beginOf 14 = .ok (.invokevirtual 118, 3) := by decide +kernel
theorem dX9_beginOf_17 : decode cX9_beginOf 17 = .ok (.iload_n 1, 1) := by decide +kernel
theorem dX9_beginOf_18 : decode cX9_beginOf 18 = .ok (.if_icmp .gt 9, 3) := by decide +kernel
theorem dX9_beginOf_21 : decode cX9_beginOf 21 = .ok (.iinc 2 1, 3) := by decide +kernel
theorem dX9_beginOf_24 : decode cX9_beginOf 24 = .ok (.goto (-22), 3) := by decide +kernel
theorem dX9_beginOf_27 : decode cX9_beginOf 27 = .ok (.iload_n 2, 1) := by decide +kernel
theorem dX9_beginOf_28 : decode cX9_beginOf 28 = .ok (.ireturn, 1) := by decide +kernel
theorem dX9_bitOf_0 : decode cX9_bitOf 0 = .ok (.iload_n 0, 1) := by decide +kernel
theorem dX9_bitOf_1 : decode cX9_bitOf 1 = .ok (.iconst 4, 1) := by decide +kernel
theorem dX9_bitOf_2 : decode cX9_bitOf 2 = .ok (.iload_n 1, 1) := by decide +kernel
theorem dX9_bitOf_3 : decode cX9_bitOf 3 = .ok (.isub, 1) := by decide +kernel
theorem dX9_bitOf_4 : decode cX9_bitOf 4 = .ok (.ishr, 1) := by decide +kernel
theorem dX9_bitOf_5 : decode cX9_bitOf 5 = .ok (.iconst 1, 1) := by decide +kernel
theorem dX9_bitOf_6 : decode cX9_bitOf 6 = .ok (.iand, 1) := by decide +kernel
theorem dX9_bitOf_7 : decode cX9_bitOf 7 = .ok (.ireturn, 1) := by decide +kernel
theorem dX9_findsRows_0 : decode cX9_findsRows 0 = .ok (.aload_n 0, 1) := by decide +kernel
theorem dX9_findsRows_1 : decode cX9_findsRows 1 = .ok (.getfield 7, 3) := by decide +kernel
theorem dX9_findsRows_4 : decode cX9_findsRows 4 = .ok (.iconst 0, 1) := by decide +kernel
theorem dX9_findsRows_5 : decode cX9_findsRows 5 = .ok (.iaload, 1) := by decide +kernel
theorem dX9_findsRows_6 : decode cX9_findsRows 6 = .ok (.istore_n 1, 1) := by decide +kernel
theorem dX9_findsRows_7 : decode cX9_findsRows 7 = .ok (.iconst 0, 1) := by decide +kernel
theorem dX9_findsRows_8 : decode cX9_findsRows 8 = .ok (.istore_n 2, 1) := by decide +kernel
theorem dX9_findsRows_9 : decode cX9_findsRows 9 = .ok (.iload_n 2, 1) := by decide +kernel
theorem dX9_findsRows_10 : decode cX9_findsRows 10 = .ok (.iload_n 1, 1) := by decide +kernel
theorem dX9_findsRows_11 : decode cX9_findsRows 11 = .ok (.if_icmp .ge 16, 3) := by decide +kernel
theorem dX9_findsRows_14 : decode cX9_findsRows 14 = .ok (.aload_n 0, 1) := by decide +kernel
theorem dX9_findsRows_15 : decode cX9_findsRows 15 = .ok (.getfield 22, 3) := by decide +kernel
theorem dX9_findsRows_18 : decode cX9_findsRows 18 = .ok (.iload_n 2, 1) := by decide +kernel
theorem dX9_findsRows_19 : decode cX9_findsRows 19 = .ok (.iload_n 2, 1) := by decide +kernel
theorem dX9_findsRows_20 : decode cX9_findsRows 20 = .ok (.iastore, 1) := by decide +kernel
theorem dX9_findsRows_21 : decode cX9_findsRows 21 = .ok (.iinc 2 1, 3) := by decide +kernel
theorem dX9_findsRows_24 : decode cX9_findsRows 24 = .ok (.goto (-15), 3) := by decide +kernel
theorem dX9_findsRows_27 : decode cX9_findsRows 27 = .ok (.iconst 1, 1) := by decide +kernel
theorem dX9_findsRows_28 : decode cX9_findsRows 28 = .ok (.istore_n 2, 1) := by decide +kernel
theorem dX9_findsRows_29 : decode cX9_findsRows 29 = .ok (.iload_n 2, 1) := by decide +kernel
theorem dX9_findsRows_30 : decode cX9_findsRows 30 = .ok (.iconst 5, 1) := by decide +kernel
theorem dX9_findsRows_31 : decode cX9_findsRows 31 = .ok (.if_icmp .ge 91, 3) := by decide +kernel
theorem dX9_findsRows_34 : decode cX9_findsRows 34 = .ok (.bipush 64, 2) := by decide +kernel
theorem dX9_findsRows_36 : decode cX9_findsRows 36 = .ok (.iload_n 2, 1) := by decide +kernel
theorem dX9_findsRows_37 : decode cX9_findsRows 37 = .ok (.imul, 1) := by decide +kernel
theorem dX9_findsRows_38 : decode cX9_findsRows 38 = .ok (.istore_n 3, 1) := by decide +kernel
theorem dX9_findsRows_39 : decode cX9_findsRows 39 = .ok (.iconst 0, 1) := by decide +kernel
theorem dX9_findsRows_40 : decode cX9_findsRows 40 = .ok (.istore 4, 2) := by decide +kernel
theorem dX9_findsRows_42 : decode cX9_findsRows 42 = .ok (.iload 4, 2) := by decide +kernel
theorem dX9_findsRows_44 : decode cX9_findsRows 44 = .ok (.iconst 2, 1) := by decide +kernel
theorem dX9_findsRows_45 : decode cX9_findsRows 45 = .ok (.if_icmp .ge 71, 3) := by decide +kernel
theorem dX9_findsRows_48 : decode cX9_findsRows 48 = .ok (.iconst 0, 1) := by decide +kernel
theorem dX9_findsRows_49 : decode cX9_findsRows 49 = .ok (.istore 5, 2) := by decide +kernel
theorem dX9_findsRows_51 : decode cX9_findsRows 51 = .ok (.iload 5, 2) := by decide +kernel
theorem dX9_findsRows_53 : decode cX9_findsRows 53 = .ok (.iload_n 1, 1) := by decide +kernel
theorem dX9_findsRows_54 : decode cX9_findsRows 54 = .ok (.if_icmp .ge 56, 3) := by decide +kernel
theorem dX9_findsRows_57 : decode cX9_findsRows 57 = .ok (.aload_n 0, 1) := by decide +kernel
theorem dX9_findsRows_58 : decode cX9_findsRows 58 = .ok (.getfield 22, 3) := by decide +kernel
theorem dX9_findsRows_61 : decode cX9_findsRows 61 = .ok (.bipush 64, 2) := by decide +kernel
theorem dX9_findsRows_63 : decode cX9_findsRows 63 = .ok (.iload_n 2, 1) := by decide +kernel
theorem dX9_findsRows_64 : decode cX9_findsRows 64 = .ok (.iconst 1, 1) := by decide +kernel
theorem dX9_findsRows_65 : decode cX9_findsRows 65 = .ok (.isub, 1) := by decide +kernel
theorem dX9_findsRows_66 : decode cX9_findsRows 66 = .ok (.imul, 1) := by decide +kernel
theorem dX9_findsRows_67 : decode cX9_findsRows 67 = .ok (.iload 5, 2) := by decide +kernel
theorem dX9_findsRows_69 : decode cX9_findsRows 69 = .ok (.iadd, 1) := by decide +kernel
theorem dX9_findsRows_70 : decode cX9_findsRows 70 = .ok (.iaload, 1) := by decide +kernel
theorem dX9_findsRows_71 : decode cX9_findsRows 71 = .ok (.istore 6, 2) := by decide +kernel
theorem dX9_findsRows_73 : decode cX9_findsRows 73 = .ok (.aload_n 0, 1) := by decide +kernel
theorem dX9_findsRows_74 : decode cX9_findsRows 74 = .ok (.iload 6, 2) := by decide +kernel
theorem dX9_findsRows_76 : decode cX9_findsRows 76 = .ok (.invokevirtual 86, 3) := by decide +kernel
theorem dX9_findsRows_79 : decode cX9_findsRows 79 = .ok (.iload_n 2, 1) := by decide +kernel
theorem dX9_findsRows_80 : decode cX9_findsRows 80 = .ok (.iconst 1, 1) := by decide +kernel
theorem dX9_findsRows_81 : decode cX9_findsRows 81 = .ok (.isub, 1) := by decide +kernel
theorem dX9_findsRows_82 : decode cX9_findsRows 82 = .ok (.invokestatic 121, 3) := by decide +kernel
theorem dX9_findsRows_85 : decode cX9_findsRows 85 = .ok (.iload 4, 2) := by decide +kernel
theorem dX9_findsRows_87 : decode cX9_findsRows 87 = .ok (.if_icmp .eq 6, 3) := by decide +kernel
theorem dX9_findsRows_90 : decode cX9_findsRows 90 = .ok (.goto 14, 3) := by decide +kernel
theorem dX9_findsRows_93 : decode cX9_findsRows 93 = .ok (.aload_n 0, 1) := by decide +kernel
theorem dX9_findsRows_94 : decode cX9_findsRows 94 = .ok (.getfield 22, 3) := by decide +kernel
theorem dX9_findsRows_97 : decode cX9_findsRows 97 = .ok (.iload_n 3, 1) := by decide +kernel
theorem dX9_findsRows_98 : decode cX9_findsRows 98 = .ok (.iload 6, 2) := by decide +kernel
theorem dX9_findsRows_100 : decode cX9_findsRows 100 = .ok (.iastore, 1) := by decide +kernel
theorem dX9_findsRows_101 : decode cX9_findsRows 101 = .ok (.iinc 3 1, 3) := by decide +kernel
theorem dX9_findsRows_104 : decode cX9_findsRows 104 = .ok (.iinc 5 1, 3) := by decide +kernel
theorem dX9_findsRows_107 : decode cX9_findsRows 107 = .ok (.goto (-56), 3) := by decide +kernel
theorem dX9_findsRows_110 : decode cX9_findsRows 110 = .ok (.iinc 4 1, 3) := by decide +kernel
theorem dX9_findsRows_113 : decode cX9_findsRows 113 = .ok (.goto (-71), 3) := by decide +kernel
theorem dX9_findsRows_116 : decode cX9_findsRows 116 = .ok (.iinc 2 1, 3) := by decide +kernel
theorem dX9_findsRows_119 : decode cX9_findsRows 119 = .ok (.goto (-90), 3) := by decide +kernel
theorem dX9_findsRows_122 : decode cX9_findsRows 122 = .ok (.return_, 1) := by decide +kernel
theorem dX9_bitAt_0 : decode cX9_bitAt 0 = .ok (.aload_n 0, 1) := by decide +kernel
theorem dX9_bitAt_1 : decode cX9_bitAt 1 = .ok (.aload_n 0, 1) := by decide +kernel
theorem dX9_bitAt_2 : decode cX9_bitAt 2 = .ok (.getfield 22, 3) := by decide +kernel
theorem dX9_bitAt_5 : decode cX9_bitAt 5 = .ok (.bipush 64, 2) := by decide +kernel
theorem dX9_bitAt_7 : decode cX9_bitAt 7 = .ok (.iload_n 1, 1) := by decide +kernel
theorem dX9_bitAt_8 : decode cX9_bitAt 8 = .ok (.imul, 1) := by decide +kernel
theorem dX9_bitAt_9 : decode cX9_bitAt 9 = .ok (.iload_n 2, 1) := by decide +kernel
theorem dX9_bitAt_10 : decode cX9_bitAt 10 = .ok (.iadd, 1) := by decide +kernel
theorem dX9_bitAt_11 : decode cX9_bitAt 11 = .ok (.iaload, 1) := by decide +kernel
theorem dX9_bitAt_12 : decode cX9_bitAt 12 = .ok (.invokevirtual 86, 3) := by decide +kernel
theorem dX9_bitAt_15 : decode cX9_bitAt 15 = .ok (.iload_n 1, 1) := by decide +kernel
theorem dX9_bitAt_16 : decode cX9_bitAt 16 = .ok (.invokestatic 121, 3) := by decide +kernel
theorem dX9_bitAt_19 : decode cX9_bitAt 19 = .ok (.ireturn, 1) := by decide +kernel
theorem dX9_bit_0 : decode cX9_bit 0 = .ok (.iload_n 1, 1) := by decide +kernel
theorem dX9_bit_1 : decode cX9_bit 1 = .ok (.invokestatic 124, 3) := by decide +kernel
theorem dX9_bit_4 : decode cX9_bit 4 = .ok (.ifCond .eq 11, 3) := by decide +kernel
theorem dX9_bit_7 : decode cX9_bit 7 = .ok (.aload_n 0, 1) := by decide +kernel
theorem dX9_bit_8 : decode cX9_bit 8 = .ok (.iload_n 2, 1) := by decide +kernel
theorem dX9_bit_9 : decode cX9_bit 9 = .ok (.invokevirtual 89, 3) := by decide +kernel
theorem dX9_bit_12 : decode cX9_bit 12 = .ok (.ifCond .ne 6, 3) := by decide +kernel
theorem dX9_bit_15 : decode cX9_bit 15 = .ok (.bipush (-11), 2) := by decide +kernel
theorem dX9_bit_17 : decode cX9_bit 17 = .ok (.ireturn, 1) := by decide +kernel
theorem dX9_bit_18 : decode cX9_bit 18 = .ok (.aload_n 0, 1) := by decide +kernel
theorem dX9_bit_19 : decode cX9_bit 19 = .ok (.invokevirtual 127, 3) := by decide +kernel
theorem dX9_bit_22 : decode cX9_bit 22 = .ok (.aload_n 0, 1) := by decide +kernel
theorem dX9_bit_23 : decode cX9_bit 23 = .ok (.iload_n 1, 1) := by decide +kernel
theorem dX9_bit_24 : decode cX9_bit 24 = .ok (.iload_n 2, 1) := by decide +kernel
theorem dX9_bit_25 : decode cX9_bit 25 = .ok (.invokevirtual 130, 3) := by decide +kernel
theorem dX9_bit_28 : decode cX9_bit 28 = .ok (.ireturn, 1) := by decide +kernel
theorem dX9_bits_0 : decode cX9_bits 0 = .ok (.iload_n 1, 1) := by decide +kernel
theorem dX9_bits_1 : decode cX9_bits 1 = .ok (.invokestatic 124, 3) := by decide +kernel
theorem dX9_bits_4 : decode cX9_bits 4 = .ok (.ifCond .ne 5, 3) := by decide +kernel
theorem dX9_bits_7 : decode cX9_bits 7 = .ok (.lconst 0, 1) := by decide +kernel
theorem dX9_bits_8 : decode cX9_bits 8 = .ok (.lreturn, 1) := by decide +kernel
theorem dX9_bits_9 : decode cX9_bits 9 = .ok (.aload_n 0, 1) := by decide +kernel
theorem dX9_bits_10 : decode cX9_bits 10 = .ok (.invokevirtual 127, 3) := by decide +kernel
theorem dX9_bits_13 : decode cX9_bits 13 = .ok (.lconst 0, 1) := by decide +kernel
theorem dX9_bits_14 : decode cX9_bits 14 = .ok (.lstore_n 2, 1) := by decide +kernel
theorem dX9_bits_15 : decode cX9_bits 15 = .ok (.aload_n 0, 1) := by decide +kernel
theorem dX9_bits_16 : decode cX9_bits 16 = .ok (.getfield 7, 3) := by decide +kernel
theorem dX9_bits_19 : decode cX9_bits 19 = .ok (.iconst 0, 1) := by decide +kernel
theorem dX9_bits_20 : decode cX9_bits 20 = .ok (.iaload, 1) := by decide +kernel
theorem dX9_bits_21 : decode cX9_bits 21 = .ok (.iconst 1, 1) := by decide +kernel
theorem dX9_bits_22 : decode cX9_bits 22 = .ok (.isub, 1) := by decide +kernel
theorem dX9_bits_23 : decode cX9_bits 23 = .ok (.istore 4, 2) := by decide +kernel
theorem dX9_bits_25 : decode cX9_bits 25 = .ok (.iload 4, 2) := by decide +kernel
theorem dX9_bits_27 : decode cX9_bits 27 = .ok (.ifCond .lt 24, 3) := by decide +kernel
theorem dX9_bits_30 : decode cX9_bits 30 = .ok (.ldc2_w 133, 3) := by decide +kernel
theorem dX9_bits_33 : decode cX9_bits 33 = .ok (.lload_n 2, 1) := by decide +kernel
theorem dX9_bits_34 : decode cX9_bits 34 = .ok (.lmul, 1) := by decide +kernel
theorem dX9_bits_35 : decode cX9_bits 35 = .ok (.aload_n 0, 1) := by decide +kernel
theorem dX9_bits_36 : decode cX9_bits 36 = .ok (.iload_n 1, 1) := by decide +kernel
theorem dX9_bits_37 : decode cX9_bits 37 = .ok (.iload 4, 2) := by decide +kernel
theorem dX9_bits_39 : decode cX9_bits 39 = .ok (.invokevirtual 130, 3) := by decide +kernel
theorem dX9_bits_42 : decode cX9_bits 42 = .ok (.i2l, 1) := by decide +kernel
theorem dX9_bits_43 : decode cX9_bits 43 = .ok (.ladd, 1) := by decide +kernel
theorem dX9_bits_44 : decode cX9_bits 44 = .ok (.lstore_n 2, 1) := by decide +kernel
theorem dX9_bits_45 : decode cX9_bits 45 = .ok (.iinc 4 (-1), 3) := by decide +kernel
theorem dX9_bits_48 : decode cX9_bits 48 = .ok (.goto (-23), 3) := by decide +kernel
theorem dX9_bits_51 : decode cX9_bits 51 = .ok (.lload_n 2, 1) := by decide +kernel
theorem dX9_bits_52 : decode cX9_bits 52 = .ok (.lreturn, 1) := by decide +kernel
theorem dX9_counted_0 : decode cX9_counted 0 = .ok (.iconst 0, 1) := by decide +kernel
theorem dX9_counted_1 : decode cX9_counted 1 = .ok (.istore 4, 2) := by decide +kernel
theorem dX9_counted_3 : decode cX9_counted 3 = .ok (.iconst 0, 1) := by decide +kernel
theorem dX9_counted_4 : decode cX9_counted 4 = .ok (.istore 5, 2) := by decide +kernel
theorem dX9_counted_6 : decode cX9_counted 6 = .ok (.iload 5, 2) := by decide +kernel
theorem dX9_counted_8 : decode cX9_counted 8 = .ok (.iload_n 3, 1) := by decide +kernel
theorem dX9_counted_9 : decode cX9_counted 9 = .ok (.if_icmp .ge 30, 3) := by decide +kernel
theorem dX9_counted_12 : decode cX9_counted 12 = .ok (.iload 4, 2) := by decide +kernel
theorem dX9_counted_14 : decode cX9_counted 14 = .ok (.aload_n 0, 1) := by decide +kernel
theorem dX9_counted_15 : decode cX9_counted 15 = .ok (.iload_n 1, 1) := by decide +kernel
theorem dX9_counted_16 : decode cX9_counted 16 = .ok (.iload 5, 2) := by decide +kernel
theorem dX9_counted_18 : decode cX9_counted 18 = .ok (.invokevirtual 130, 3) := by decide +kernel
theorem dX9_counted_21 : decode cX9_counted 21 = .ok (.iload_n 2, 1) := by decide +kernel
theorem dX9_counted_22 : decode cX9_counted 22 = .ok (.if_icmp .ne 7, 3) := by decide +kernel
theorem dX9_counted_25 : decode cX9_counted 25 = .ok (.iconst 1, 1) := by decide +kernel
theorem dX9_counted_26 : decode cX9_counted 26 = .ok (.goto 4, 3) := by decide +kernel
theorem dX9_counted_29 : decode cX9_counted 29 = .ok (.iconst 0, 1) := by decide +kernel
theorem dX9_counted_30 : decode cX9_counted 30 = .ok (.iadd, 1) := by decide +kernel
theorem dX9_counted_31 : decode cX9_counted 31 = .ok (.istore 4, 2) := by decide +kernel
theorem dX9_counted_33 : decode cX9_counted 33 = .ok (.iinc 5 1, 3) := by decide +kernel
theorem dX9_counted_36 : decode cX9_counted 36 = .ok (.goto (-30), 3) := by decide +kernel
theorem dX9_counted_39 : decode cX9_counted 39 = .ok (.iload 4, 2) := by decide +kernel
theorem dX9_counted_41 : decode cX9_counted 41 = .ok (.ireturn, 1) := by decide +kernel
theorem dX9_rank_0 : decode cX9_rank 0 = .ok (.iload_n 1, 1) := by decide +kernel
theorem dX9_rank_1 : decode cX9_rank 1 = .ok (.invokestatic 124, 3) := by decide +kernel
theorem dX9_rank_4 : decode cX9_rank 4 = .ok (.ifCond .eq 17, 3) := by decide +kernel
theorem dX9_rank_7 : decode cX9_rank 7 = .ok (.iload_n 3, 1) := by decide +kernel
theorem dX9_rank_8 : decode cX9_rank 8 = .ok (.iconst 0, 1) := by decide +kernel
theorem dX9_rank_9 : decode cX9_rank 9 = .ok (.aload_n 0, 1) := by decide +kernel
theorem dX9_rank_10 : decode cX9_rank 10 = .ok (.getfield 7, 3) := by decide +kernel
theorem dX9_rank_13 : decode cX9_rank 13 = .ok (.iconst 0, 1) := by decide +kernel
theorem dX9_rank_14 : decode cX9_rank 14 = .ok (.iaload, 1) := by decide +kernel
theorem dX9_rank_15 : decode cX9_rank 15 = .ok (.invokestatic 60, 3) := by decide +kernel
theorem dX9_rank_18 : decode cX9_rank 18 = .ok (.ifCond .ne 6, 3) := by decide +kernel
theorem dX9_rank_21 : decode cX9_rank 21 = .ok (.bipush (-11), 2) := by decide +kernel
theorem dX9_rank_23 : decode cX9_rank 23 = .ok (.ireturn, 1) := by decide +kernel
theorem dX9_rank_24 : decode cX9_rank 24 = .ok (.aload_n 0, 1) := by decide +kernel
theorem dX9_rank_25 : decode cX9_rank 25 = .ok (.invokevirtual 127, 3) := by decide +kernel
theorem dX9_rank_28 : decode cX9_rank 28 = .ok (.aload_n 0, 1) := by decide +kernel
theorem dX9_rank_29 : decode cX9_rank 29 = .ok (.iload_n 1, 1) := by decide +kernel
theorem dX9_rank_30 : decode cX9_rank 30 = .ok (.iload_n 2, 1) := by decide +kernel
theorem dX9_rank_31 : decode cX9_rank 31 = .ok (.ifCond .eq 7, 3) := by decide +kernel
theorem dX9_rank_34 : decode cX9_rank 34 = .ok (.iconst 1, 1) := by decide +kernel
theorem dX9_rank_35 : decode cX9_rank 35 = .ok (.goto 4, 3) := by decide +kernel
theorem dX9_rank_38 : decode cX9_rank 38 = .ok (.iconst 0, 1) := by decide +kernel
theorem dX9_rank_39 : decode cX9_rank 39 = .ok (.iload_n 3, 1) := by decide +kernel
theorem dX9_rank_40 : decode cX9_rank 40 = .ok (.invokevirtual 135, 3) := by decide +kernel
theorem dX9_rank_43 : decode cX9_rank 43 = .ok (.ireturn, 1) := by decide +kernel
theorem dX9_rankAgain_0 : decode cX9_rankAgain 0 = .ok (.iload_n 1, 1) := by decide +kernel
theorem dX9_rankAgain_1 : decode cX9_rankAgain 1 = .ok (.invokestatic 124, 3) := by decide +kernel
theorem dX9_rankAgain_4 : decode cX9_rankAgain 4 = .ok (.ifCond .eq 17, 3) := by decide +kernel
theorem dX9_rankAgain_7 : decode cX9_rankAgain 7 = .ok (.iload_n 3, 1) := by decide +kernel
theorem dX9_rankAgain_8 : decode cX9_rankAgain 8 = .ok (.iconst 0, 1) := by decide +kernel
theorem dX9_rankAgain_9 : decode cX9_rankAgain 9 = .ok (.aload_n 0, 1) := by decide +kernel
theorem dX9_rankAgain_10 : decode cX9_rankAgain 10 = .ok (.getfield 7, 3) := by decide +kernel
theorem dX9_rankAgain_13 : decode cX9_rankAgain 13 = .ok (.iconst 0, 1) := by decide +kernel
theorem dX9_rankAgain_14 : decode cX9_rankAgain 14 = .ok (.iaload, 1) := by decide +kernel
theorem dX9_rankAgain_15 : decode cX9_rankAgain 15 = .ok (.invokestatic 60, 3) := by decide +kernel
theorem dX9_rankAgain_18 : decode cX9_rankAgain 18 = .ok (.ifCond .ne 6, 3) := by decide +kernel
theorem dX9_rankAgain_21 : decode cX9_rankAgain 21 = .ok (.bipush (-11), 2) := by decide +kernel
theorem dX9_rankAgain_23 : decode cX9_rankAgain 23 = .ok (.ireturn, 1) := by decide +kernel
theorem dX9_rankAgain_24 : decode cX9_rankAgain 24 = .ok (.aload_n 0, 1) := by decide +kernel
theorem dX9_rankAgain_25 : decode cX9_rankAgain 25 = .ok (.invokevirtual 127, 3) := by decide +kernel
theorem dX9_rankAgain_28 : decode cX9_rankAgain 28 = .ok (.aload_n 0, 1) := by decide +kernel
theorem dX9_rankAgain_29 : decode cX9_rankAgain 29 = .ok (.iload_n 1, 1) := by decide +kernel
theorem dX9_rankAgain_30 : decode cX9_rankAgain 30 = .ok (.iconst 1, 1) := by decide +kernel
theorem dX9_rankAgain_31 : decode cX9_rankAgain 31 = .ok (.iload_n 3, 1) := by decide +kernel
theorem dX9_rankAgain_32 : decode cX9_rankAgain 32 = .ok (.invokevirtual 135, 3) := by decide +kernel
theorem dX9_rankAgain_35 : decode cX9_rankAgain 35 = .ok (.istore 4, 2) := by decide +kernel
theorem dX9_rankAgain_37 : decode cX9_rankAgain 37 = .ok (.iload_n 2, 1) := by decide +kernel
theorem dX9_rankAgain_38 : decode cX9_rankAgain 38 = .ok (.ifCond .eq 8, 3) := by decide +kernel
theorem dX9_rankAgain_41 : decode cX9_rankAgain 41 = .ok (.iload 4, 2) := by decide +kernel
theorem dX9_rankAgain_43 : decode cX9_rankAgain 43 = .ok (.goto 7, 3) := by decide +kernel
theorem dX9_rankAgain_46 : decode cX9_rankAgain 46 = .ok (.iload_n 3, 1) := by decide +kernel
theorem dX9_rankAgain_47 : decode cX9_rankAgain 47 = .ok (.iload 4, 2) := by decide +kernel
theorem dX9_rankAgain_49 : decode cX9_rankAgain 49 = .ok (.isub, 1) := by decide +kernel
theorem dX9_rankAgain_50 : decode cX9_rankAgain 50 = .ok (.ireturn, 1) := by decide +kernel
theorem dX9_select_0 : decode cX9_select 0 = .ok (.iload_n 1, 1) := by decide +kernel
theorem dX9_select_1 : decode cX9_select 1 = .ok (.invokestatic 124, 3) := by decide +kernel
theorem dX9_select_4 : decode cX9_select 4 = .ok (.ifCond .ne 6, 3) := by decide +kernel
theorem dX9_select_7 : decode cX9_select 7 = .ok (.bipush (-11), 2) := by decide +kernel
theorem dX9_select_9 : decode cX9_select 9 = .ok (.ireturn, 1) := by decide +kernel
theorem dX9_select_10 : decode cX9_select 10 = .ok (.aload_n 0, 1) := by decide +kernel
theorem dX9_select_11 : decode cX9_select 11 = .ok (.invokevirtual 127, 3) := by decide +kernel
theorem dX9_select_14 : decode cX9_select 14 = .ok (.iconst 0, 1) := by decide +kernel
theorem dX9_select_15 : decode cX9_select 15 = .ok (.istore 4, 2) := by decide +kernel
theorem dX9_select_17 : decode cX9_select 17 = .ok (.iload 4, 2) := by decide +kernel
theorem dX9_select_19 : decode cX9_select 19 = .ok (.aload_n 0, 1) := by decide +kernel
theorem dX9_select_20 : decode cX9_select 20 = .ok (.getfield 7, 3) := by decide +kernel
theorem dX9_select_23 : decode cX9_select 23 = .ok (.iconst 0, 1) := by decide +kernel
theorem dX9_select_24 : decode cX9_select 24 = .ok (.iaload, 1) := by decide +kernel
theorem dX9_select_25 : decode cX9_select 25 = .ok (.if_icmp .ge 51, 3) := by decide +kernel
theorem dX9_select_28 : decode cX9_select 28 = .ok (.aload_n 0, 1) := by decide +kernel
theorem dX9_select_29 : decode cX9_select 29 = .ok (.iload_n 1, 1) := by decide +kernel
theorem dX9_select_30 : decode cX9_select 30 = .ok (.iload 4, 2) := by decide +kernel
theorem dX9_select_32 : decode cX9_select 32 = .ok (.invokevirtual 130, 3) := by decide +kernel
theorem dX9_select_35 : decode cX9_select 35 = .ok (.iload_n 2, 1) := by decide +kernel
theorem dX9_select_36 : decode cX9_select 36 = .ok (.ifCond .eq 7, 3) := by decide +kernel
theorem dX9_select_39 : decode cX9_select 39 = .ok (.iconst 1, 1) := by decide +kernel
theorem dX9_select_40 : decode cX9_select 40 = .ok (.goto 4, 3) := by decide +kernel
theorem dX9_select_43 : decode cX9_select 43 = .ok (.iconst 0, 1) := by decide +kernel
theorem dX9_select_44 : decode cX9_select 44 = .ok (.if_icmp .ne 26, 3) := by decide +kernel
theorem dX9_select_47 : decode cX9_select 47 = .ok (.aload_n 0, 1) := by decide +kernel
theorem dX9_select_48 : decode cX9_select 48 = .ok (.iload_n 1, 1) := by decide +kernel
theorem dX9_select_49 : decode cX9_select 49 = .ok (.iload_n 2, 1) := by decide +kernel
theorem dX9_select_50 : decode cX9_select 50 = .ok (.ifCond .eq 7, 3) := by decide +kernel
theorem dX9_select_53 : decode cX9_select 53 = .ok (.iconst 1, 1) := by decide +kernel
theorem dX9_select_54 : decode cX9_select 54 = .ok (.goto 4, 3) := by decide +kernel
theorem dX9_select_57 : decode cX9_select 57 = .ok (.iconst 0, 1) := by decide +kernel
theorem dX9_select_58 : decode cX9_select 58 = .ok (.iload 4, 2) := by decide +kernel
theorem dX9_select_60 : decode cX9_select 60 = .ok (.invokevirtual 135, 3) := by decide +kernel
theorem dX9_select_63 : decode cX9_select 63 = .ok (.iload_n 3, 1) := by decide +kernel
theorem dX9_select_64 : decode cX9_select 64 = .ok (.if_icmp .ne 6, 3) := by decide +kernel
theorem dX9_select_67 : decode cX9_select 67 = .ok (.iload 4, 2) := by decide +kernel
theorem dX9_select_69 : decode cX9_select 69 = .ok (.ireturn, 1) := by decide +kernel
theorem dX9_select_70 : decode cX9_select 70 = .ok (.iinc 4 1, 3) := by decide +kernel
theorem dX9_select_73 : decode cX9_select 73 = .ok (.goto (-56), 3) := by decide +kernel
theorem dX9_select_76 : decode cX9_select 76 = .ok (.bipush (-15), 2) := by decide +kernel
theorem dX9_select_78 : decode cX9_select 78 = .ok (.ireturn, 1) := by decide +kernel
theorem dX9_standsIn_0 : decode cX9_standsIn 0 = .ok (.iconst 0, 1) := by decide +kernel
theorem dX9_standsIn_1 : decode cX9_standsIn 1 = .ok (.istore_n 3, 1) := by decide +kernel
theorem dX9_standsIn_2 : decode cX9_standsIn 2 = .ok (.aload_n 0, 1) := by decide +kernel
theorem dX9_standsIn_3 : decode cX9_standsIn 3 = .ok (.getfield 22, 3) := by decide +kernel
theorem dX9_standsIn_6 : decode cX9_standsIn 6 = .ok (.bipush 64, 2) := by decide +kernel
theorem dX9_standsIn_8 : decode cX9_standsIn 8 = .ok (.iload_n 1, 1) := by decide +kernel
theorem dX9_standsIn_9 : decode cX9_standsIn 9 = .ok (.imul, 1) := by decide +kernel
theorem dX9_standsIn_10 : decode cX9_standsIn 10 = .ok (.iload_n 3, 1) := by decide +kernel
theorem dX9_standsIn_11 : decode cX9_standsIn 11 = .ok (.iadd, 1) := by decide +kernel
theorem dX9_standsIn_12 : decode cX9_standsIn 12 = .ok (.iaload, 1) := by decide +kernel
theorem dX9_standsIn_13 : decode cX9_standsIn 13 = .ok (.iload_n 2, 1) := by decide +kernel
theorem dX9_standsIn_14 : decode cX9_standsIn 14 = .ok (.if_icmp .eq 9, 3) := by decide +kernel
theorem dX9_standsIn_17 : decode cX9_standsIn 17 = .ok (.iinc 3 1, 3) := by decide +kernel
theorem dX9_standsIn_20 : decode cX9_standsIn 20 = .ok (.goto (-18), 3) := by decide +kernel
theorem dX9_standsIn_23 : decode cX9_standsIn 23 = .ok (.iload_n 3, 1) := by decide +kernel
theorem dX9_standsIn_24 : decode cX9_standsIn 24 = .ok (.ireturn, 1) := by decide +kernel
theorem dX9_placeIn_0 : decode cX9_placeIn 0 = .ok (.iload_n 1, 1) := by decide +kernel
theorem dX9_placeIn_1 : decode cX9_placeIn 1 = .ok (.invokestatic 124, 3) := by decide +kernel
theorem dX9_placeIn_4 : decode cX9_placeIn 4 = .ok (.ifCond .eq 11, 3) := by decide +kernel
theorem dX9_placeIn_7 : decode cX9_placeIn 7 = .ok (.aload_n 0, 1) := by decide +kernel
theorem dX9_placeIn_8 : decode cX9_placeIn 8 = .ok (.iload_n 2, 1) := by decide +kernel
theorem dX9_placeIn_9 : decode cX9_placeIn 9 = .ok (.invokevirtual 89, 3) := by decide +kernel
theorem dX9_placeIn_12 : decode cX9_placeIn 12 = .ok (.ifCond .ne 6, 3) := by decide +kernel
theorem dX9_placeIn_15 : decode cX9_placeIn 15 = .ok (.bipush (-11), 2) := by decide +kernel
theorem dX9_placeIn_17 : decode cX9_placeIn 17 = .ok (.ireturn, 1) := by decide +kernel
theorem dX9_placeIn_18 : decode cX9_placeIn 18 = .ok (.aload_n 0, 1) := by decide +kernel
theorem dX9_placeIn_19 : decode cX9_placeIn 19 = .ok (.invokevirtual 127, 3) := by decide +kernel
theorem dX9_placeIn_22 : decode cX9_placeIn 22 = .ok (.aload_n 0, 1) := by decide +kernel
theorem dX9_placeIn_23 : decode cX9_placeIn 23 = .ok (.iload_n 1, 1) := by decide +kernel
theorem dX9_placeIn_24 : decode cX9_placeIn 24 = .ok (.iload_n 2, 1) := by decide +kernel
theorem dX9_placeIn_25 : decode cX9_placeIn 25 = .ok (.invokevirtual 139, 3) := by decide +kernel
theorem dX9_placeIn_28 : decode cX9_placeIn 28 = .ok (.ireturn, 1) := by decide +kernel
theorem dX9_weight_0 : decode cX9_weight 0 = .ok (.aload_n 0, 1) := by decide +kernel
theorem dX9_weight_1 : decode cX9_weight 1 = .ok (.iload_n 1, 1) := by decide +kernel
theorem dX9_weight_2 : decode cX9_weight 2 = .ok (.invokevirtual 89, 3) := by decide +kernel
theorem dX9_weight_5 : decode cX9_weight 5 = .ok (.ifCond .eq 11, 3) := by decide +kernel
theorem dX9_weight_8 : decode cX9_weight 8 = .ok (.aload_n 0, 1) := by decide +kernel
theorem dX9_weight_9 : decode cX9_weight 9 = .ok (.iload_n 1, 1) := by decide +kernel
theorem dX9_weight_10 : decode cX9_weight 10 = .ok (.invokevirtual 86, 3) := by decide +kernel
theorem dX9_weight_13 : decode cX9_weight 13 = .ok (.goto 5, 3) := by decide +kernel
theorem dX9_weight_16 : decode cX9_weight 16 = .ok (.bipush (-11), 2) := by decide +kernel
theorem dX9_weight_18 : decode cX9_weight 18 = .ok (.ireturn, 1) := by decide +kernel
theorem dX9_byBits_0 : decode cX9_byBits 0 = .ok (.iconst 0, 1) := by decide +kernel
theorem dX9_byBits_1 : decode cX9_byBits 1 = .ok (.istore_n 2, 1) := by decide +kernel
theorem dX9_byBits_2 : decode cX9_byBits 2 = .ok (.iconst 0, 1) := by decide +kernel
theorem dX9_byBits_3 : decode cX9_byBits 3 = .ok (.istore_n 3, 1) := by decide +kernel
theorem dX9_byBits_4 : decode cX9_byBits 4 = .ok (.iload_n 3, 1) := by decide +kernel
theorem dX9_byBits_5 : decode cX9_byBits 5 = .ok (.iconst 5, 1) := by decide +kernel
theorem dX9_byBits_6 : decode cX9_byBits 6 = .ok (.if_icmp .ge 25, 3) := by decide +kernel
theorem dX9_byBits_9 : decode cX9_byBits 9 = .ok (.iconst 2, 1) := by decide +kernel
theorem dX9_byBits_10 : decode cX9_byBits 10 = .ok (.iload_n 2, 1) := by decide +kernel
theorem dX9_byBits_11 : decode cX9_byBits 11 = .ok (.imul, 1) := by decide +kernel
theorem dX9_byBits_12 : decode cX9_byBits 12 = .ok (.aload_n 0, 1) := by decide +kernel
theorem dX9_byBits_13 : decode cX9_byBits 13 = .ok (.iload_n 3, 1) := by decide +kernel
theorem dX9_byBits_14 : decode cX9_byBits 14 = .ok (.aload_n 0, 1) := by decide +kernel
theorem dX9_byBits_15 : decode cX9_byBits 15 = .ok (.iload_n 3, 1) := by decide +kernel
theorem dX9_byBits_16 : decode cX9_byBits 16 = .ok (.iload_n 1, 1) := by decide +kernel
theorem dX9_byBits_17 : decode cX9_byBits 17 = .ok (.invokevirtual 139, 3) := by decide +kernel
theorem dX9_byBits_20 : decode cX9_byBits 20 = .ok (.invokevirtual 130, 3) := by decide +kernel
theorem dX9_byBits_23 : decode cX9_byBits 23 = .ok (.iadd, 1) := by decide +kernel
theorem dX9_byBits_24 : decode cX9_byBits 24 = .ok (.istore_n 2, 1) := by decide +kernel
theorem dX9_byBits_25 : decode cX9_byBits 25 = .ok (.iinc 3 1, 3) := by decide +kernel
theorem dX9_byBits_28 : decode cX9_byBits 28 = .ok (.goto (-24), 3) := by decide +kernel
theorem dX9_byBits_31 : decode cX9_byBits 31 = .ok (.iload_n 2, 1) := by decide +kernel
theorem dX9_byBits_32 : decode cX9_byBits 32 = .ok (.ireturn, 1) := by decide +kernel
theorem dX9_weightAgain_0 : decode cX9_weightAgain 0 = .ok (.aload_n 0, 1) := by decide +kernel
theorem dX9_weightAgain_1 : decode cX9_weightAgain 1 = .ok (.iload_n 1, 1) := by decide +kernel
theorem dX9_weightAgain_2 : decode cX9_weightAgain 2 = .ok (.invokevirtual 89, 3) := by decide +kernel
theorem dX9_weightAgain_5 : decode cX9_weightAgain 5 = .ok (.ifCond .ne 6, 3) := by decide +kernel
theorem dX9_weightAgain_8 : decode cX9_weightAgain 8 = .ok (.bipush (-11), 2) := by decide +kernel
theorem dX9_weightAgain_10 : decode cX9_weightAgain 10 = .ok (.ireturn, 1) := by decide +kernel
theorem dX9_weightAgain_11 : decode cX9_weightAgain 11 = .ok (.aload_n 0, 1) := by decide +kernel
theorem dX9_weightAgain_12 : decode cX9_weightAgain 12 = .ok (.invokevirtual 127, 3) := by decide +kernel
theorem dX9_weightAgain_15 : decode cX9_weightAgain 15 = .ok (.aload_n 0, 1) := by decide +kernel
theorem dX9_weightAgain_16 : decode cX9_weightAgain 16 = .ok (.iload_n 1, 1) := by decide +kernel
theorem dX9_weightAgain_17 : decode cX9_weightAgain 17 = .ok (.invokevirtual 142, 3) := by decide +kernel
theorem dX9_weightAgain_20 : decode cX9_weightAgain 20 = .ok (.ireturn, 1) := by decide +kernel
theorem dX9_isPart_0 : decode cX9_isPart 0 = .ok (.iconst 0, 1) := by decide +kernel
theorem dX9_isPart_1 : decode cX9_isPart 1 = .ok (.iload_n 1, 1) := by decide +kernel
theorem dX9_isPart_2 : decode cX9_isPart 2 = .ok (.if_icmp .gt 22, 3) := by decide +kernel
theorem dX9_isPart_5 : decode cX9_isPart 5 = .ok (.iload_n 1, 1) := by decide +kernel
theorem dX9_isPart_6 : decode cX9_isPart 6 = .ok (.iload_n 2, 1) := by decide +kernel
theorem dX9_isPart_7 : decode cX9_isPart 7 = .ok (.if_icmp .gt 17, 3) := by decide +kernel
theorem dX9_isPart_10 : decode cX9_isPart 10 = .ok (.iload_n 2, 1) := by decide +kernel
theorem dX9_isPart_11 : decode cX9_isPart 11 = .ok (.aload_n 0, 1) := by decide +kernel
theorem dX9_isPart_12 : decode cX9_isPart 12 = .ok (.getfield 7, 3) := by decide +kernel
theorem dX9_isPart_15 : decode cX9_isPart 15 = .ok (.iconst 0, 1) := by decide +kernel
theorem dX9_isPart_16 : decode cX9_isPart 16 = .ok (.iaload, 1) := by decide +kernel
theorem dX9_isPart_17 : decode cX9_isPart 17 = .ok (.if_icmp .gt 7, 3) := by decide +kernel
theorem dX9_isPart_20 : decode cX9_isPart 20 = .ok (.iconst 1, 1) := by decide +kernel
theorem dX9_isPart_21 : decode cX9_isPart 21 = .ok (.goto 4, 3) := by decide +kernel
theorem dX9_isPart_24 : decode cX9_isPart 24 = .ok (.iconst 0, 1) := by decide +kernel
theorem dX9_isPart_25 : decode cX9_isPart 25 = .ok (.ireturn, 1) := by decide +kernel
theorem dX9_having_0 : decode cX9_having 0 = .ok (.iconst 0, 1) := by decide +kernel
theorem dX9_having_1 : decode cX9_having 1 = .ok (.istore 4, 2) := by decide +kernel
theorem dX9_having_3 : decode cX9_having 3 = .ok (.iload_n 1, 1) := by decide +kernel
theorem dX9_having_4 : decode cX9_having 4 = .ok (.istore 5, 2) := by decide +kernel
theorem dX9_having_6 : decode cX9_having 6 = .ok (.iload 5, 2) := by decide +kernel
theorem dX9_having_8 : decode cX9_having 8 = .ok (.iload_n 2, 1) := by decide +kernel
theorem dX9_having_9 : decode cX9_having 9 = .ok (.if_icmp .ge 29, 3) := by decide +kernel
theorem dX9_having_12 : decode cX9_having 12 = .ok (.iload 4, 2) := by decide +kernel
theorem dX9_having_14 : decode cX9_having 14 = .ok (.aload_n 0, 1) := by decide +kernel
theorem dX9_having_15 : decode cX9_having 15 = .ok (.iload 5, 2) := by decide +kernel
theorem dX9_having_17 : decode cX9_having 17 = .ok (.invokevirtual 86, 3) := by decide +kernel
theorem dX9_having_20 : decode cX9_having 20 = .ok (.iload_n 3, 1) := by decide +kernel
theorem dX9_having_21 : decode cX9_having 21 = .ok (.if_icmp .ne 7, 3) := by decide +kernel
theorem dX9_having_24 : decode cX9_having 24 = .ok (.iconst 1, 1) := by decide +kernel
theorem dX9_having_25 : decode cX9_having 25 = .ok (.goto 4, 3) := by decide +kernel
theorem dX9_having_28 : decode cX9_having 28 = .ok (.iconst 0, 1) := by decide +kernel
theorem dX9_having_29 : decode cX9_having 29 = .ok (.iadd, 1) := by decide +kernel
theorem dX9_having_30 : decode cX9_having 30 = .ok (.istore 4, 2) := by decide +kernel
theorem dX9_having_32 : decode cX9_having 32 = .ok (.iinc 5 1, 3) := by decide +kernel
theorem dX9_having_35 : decode cX9_having 35 = .ok (.goto (-29), 3) := by decide +kernel
theorem dX9_having_38 : decode cX9_having 38 = .ok (.iload 4, 2) := by decide +kernel
theorem dX9_having_40 : decode cX9_having 40 = .ok (.ireturn, 1) := by decide +kernel
theorem dX9_below_0 : decode cX9_below 0 = .ok (.iconst 0, 1) := by decide +kernel
theorem dX9_below_1 : decode cX9_below 1 = .ok (.istore 4, 2) := by decide +kernel
theorem dX9_below_3 : decode cX9_below 3 = .ok (.iload_n 1, 1) := by decide +kernel
theorem dX9_below_4 : decode cX9_below 4 = .ok (.istore 5, 2) := by decide +kernel
theorem dX9_below_6 : decode cX9_below 6 = .ok (.iload 5, 2) := by decide +kernel
theorem dX9_below_8 : decode cX9_below 8 = .ok (.iload_n 2, 1) := by decide +kernel
theorem dX9_below_9 : decode cX9_below 9 = .ok (.if_icmp .ge 29, 3) := by decide +kernel
theorem dX9_below_12 : decode cX9_below 12 = .ok (.iload 4, 2) := by decide +kernel
theorem dX9_below_14 : decode cX9_below 14 = .ok (.aload_n 0, 1) := by decide +kernel
theorem dX9_below_15 : decode cX9_below 15 = .ok (.iload 5, 2) := by decide +kernel
theorem dX9_below_17 : decode cX9_below 17 = .ok (.invokevirtual 86, 3) := by decide +kernel
theorem dX9_below_20 : decode cX9_below 20 = .ok (.iload_n 3, 1) := by decide +kernel
theorem dX9_below_21 : decode cX9_below 21 = .ok (.if_icmp .ge 7, 3) := by decide +kernel
theorem dX9_below_24 : decode cX9_below 24 = .ok (.iconst 1, 1) := by decide +kernel
theorem dX9_below_25 : decode cX9_below 25 = .ok (.goto 4, 3) := by decide +kernel
theorem dX9_below_28 : decode cX9_below 28 = .ok (.iconst 0, 1) := by decide +kernel
theorem dX9_below_29 : decode cX9_below 29 = .ok (.iadd, 1) := by decide +kernel
theorem dX9_below_30 : decode cX9_below 30 = .ok (.istore 4, 2) := by decide +kernel
theorem dX9_below_32 : decode cX9_below 32 = .ok (.iinc 5 1, 3) := by decide +kernel
theorem dX9_below_35 : decode cX9_below 35 = .ok (.goto (-29), 3) := by decide +kernel
theorem dX9_below_38 : decode cX9_below 38 = .ok (.iload 4, 2) := by decide +kernel
theorem dX9_below_40 : decode cX9_below 40 = .ok (.ireturn, 1) := by decide +kernel
theorem dX9_bySize_0 : decode cX9_bySize 0 = .ok (.iconst 0, 1) := by decide +kernel
theorem dX9_bySize_1 : decode cX9_bySize 1 = .ok (.istore 4, 2) := by decide +kernel
theorem dX9_bySize_3 : decode cX9_bySize 3 = .ok (.aload_n 0, 1) := by decide +kernel
theorem dX9_bySize_4 : decode cX9_bySize 4 = .ok (.iload_n 1, 1) := by decide +kernel
theorem dX9_bySize_5 : decode cX9_bySize 5 = .ok (.iload_n 2, 1) := by decide +kernel
theorem dX9_bySize_6 : decode cX9_bySize 6 = .ok (.iload 4, 2) := by decide +kernel
theorem dX9_bySize_8 : decode cX9_bySize 8 = .ok (.iconst 1, 1) := by decide +kernel
theorem dX9_bySize_9 : decode cX9_bySize 9 = .ok (.iadd, 1) := by decide +kernel
theorem dX9_bySize_10 : decode cX9_bySize 10 = .ok (.invokevirtual 145, 3) := by decide +kernel
theorem dX9_bySize_13 : decode cX9_bySize 13 = .ok (.iload_n 3, 1) := by decide +kernel
theorem dX9_bySize_14 : decode cX9_bySize 14 = .ok (.if_icmp .gt 9, 3) := by decide +kernel
theorem dX9_bySize_17 : decode cX9_bySize 17 = .ok (.iinc 4 1, 3) := by decide +kernel
theorem dX9_bySize_20 : decode cX9_bySize 20 = .ok (.goto (-17), 3) := by decide +kernel
theorem dX9_bySize_23 : decode cX9_bySize 23 = .ok (.iload 4, 2) := by decide +kernel
theorem dX9_bySize_25 : decode cX9_bySize 25 = .ok (.ireturn, 1) := by decide +kernel
theorem dX9_isSized_0 : decode cX9_isSized 0 = .ok (.aload_n 0, 1) := by decide +kernel
theorem dX9_isSized_1 : decode cX9_isSized 1 = .ok (.iload_n 1, 1) := by decide +kernel
theorem dX9_isSized_2 : decode cX9_isSized 2 = .ok (.iload_n 2, 1) := by decide +kernel
theorem dX9_isSized_3 : decode cX9_isSized 3 = .ok (.invokevirtual 148, 3) := by decide +kernel
theorem dX9_isSized_6 : decode cX9_isSized 6 = .ok (.ifCond .eq 20, 3) := by decide +kernel
theorem dX9_isSized_9 : decode cX9_isSized 9 = .ok (.iload_n 3, 1) := by decide +kernel
theorem dX9_isSized_10 : decode cX9_isSized 10 = .ok (.iconst 0, 1) := by decide +kernel
theorem dX9_isSized_11 : decode cX9_isSized 11 = .ok (.iload_n 2, 1) := by decide +kernel
theorem dX9_isSized_12 : decode cX9_isSized 12 = .ok (.iload_n 1, 1) := by decide +kernel
theorem dX9_isSized_13 : decode cX9_isSized 13 = .ok (.isub, 1) := by decide +kernel
theorem dX9_isSized_14 : decode cX9_isSized 14 = .ok (.iconst 1, 1) := by decide +kernel
theorem dX9_isSized_15 : decode cX9_isSized 15 = .ok (.isub, 1) := by decide +kernel
theorem dX9_isSized_16 : decode cX9_isSized 16 = .ok (.invokestatic 60, 3) := by decide +kernel
theorem dX9_isSized_19 : decode cX9_isSized 19 = .ok (.ifCond .eq 7, 3) := by decide +kernel
theorem dX9_isSized_22 : decode cX9_isSized 22 = .ok (.iconst 1, 1) := by decide +kernel
theorem dX9_isSized_23 : decode cX9_isSized 23 = .ok (.goto 4, 3) := by decide +kernel
theorem dX9_isSized_26 : decode cX9_isSized 26 = .ok (.iconst 0, 1) := by decide +kernel
theorem dX9_isSized_27 : decode cX9_isSized 27 = .ok (.ireturn, 1) := by decide +kernel
theorem dX9_quantile_0 : decode cX9_quantile 0 = .ok (.aload_n 0, 1) := by decide +kernel
theorem dX9_quantile_1 : decode cX9_quantile 1 = .ok (.iload_n 1, 1) := by decide +kernel
theorem dX9_quantile_2 : decode cX9_quantile 2 = .ok (.iload_n 2, 1) := by decide +kernel
theorem dX9_quantile_3 : decode cX9_quantile 3 = .ok (.iload_n 3, 1) := by decide +kernel
theorem dX9_quantile_4 : decode cX9_quantile 4 = .ok (.invokevirtual 152, 3) := by decide +kernel
theorem dX9_quantile_7 : decode cX9_quantile 7 = .ok (.ifCond .eq 13, 3) := by decide +kernel
theorem dX9_quantile_10 : decode cX9_quantile 10 = .ok (.aload_n 0, 1) := by decide +kernel
theorem dX9_quantile_11 : decode cX9_quantile 11 = .ok (.iload_n 1, 1) := by decide +kernel
theorem dX9_quantile_12 : decode cX9_quantile 12 = .ok (.iload_n 2, 1) := by decide +kernel
theorem dX9_quantile_13 : decode cX9_quantile 13 = .ok (.iload_n 3, 1) := by decide +kernel
theorem dX9_quantile_14 : decode cX9_quantile 14 = .ok (.invokevirtual 155, 3) := by decide +kernel
theorem dX9_quantile_17 : decode cX9_quantile 17 = .ok (.goto 5, 3) := by decide +kernel
theorem dX9_quantile_20 : decode cX9_quantile 20 = .ok (.bipush (-11), 2) := by decide +kernel
theorem dX9_quantile_22 : decode cX9_quantile 22 = .ok (.ireturn, 1) := by decide +kernel
theorem dX9_bySizeAgain_0 : decode cX9_bySizeAgain 0 = .ok (.iload_n 1, 1) := by decide +kernel
theorem dX9_bySizeAgain_1 : decode cX9_bySizeAgain 1 = .ok (.istore 4, 2) := by decide +kernel
theorem dX9_bySizeAgain_3 : decode cX9_bySizeAgain 3 = .ok (.iload 4, 2) := by decide +kernel
theorem dX9_bySizeAgain_5 : decode cX9_bySizeAgain 5 = .ok (.iload_n 2, 1) := by decide +kernel
theorem dX9_bySizeAgain_6 : decode cX9_bySizeAgain 6 = .ok (.if_icmp .ge 46, 3) := by decide +kernel
theorem dX9_bySizeAgain_9 : decode cX9_bySizeAgain 9 = .ok (.aload_n 0, 1) := by decide +kernel
theorem dX9_bySizeAgain_10 : decode cX9_bySizeAgain 10 = .ok (.iload_n 1, 1) := by decide +kernel
theorem dX9_bySizeAgain_11 : decode cX9_bySizeAgain 11 = .ok (.iload_n 2, 1) := by decide +kernel
theorem dX9_bySizeAgain_12 : decode cX9_bySizeAgain 12 = .ok (.aload_n 0, 1) := by decide +kernel
theorem dX9_bySizeAgain_13 : decode cX9_bySizeAgain 13 = .ok (.iload 4, 2) := by decide +kernel
theorem dX9_bySizeAgain_15 : decode cX9_bySizeAgain 15 = .ok (.invokevirtual 86, 3) := by decide +kernel
theorem dX9_bySizeAgain_18 : decode cX9_bySizeAgain 18 = .ok (.invokevirtual 145, 3) := by decide +kernel
theorem dX9_bySizeAgain_21 : decode cX9_bySizeAgain 21 = .ok (.aload_n 0, 1) := by decide +kernel
theorem dX9_bySizeAgain_22 : decode cX9_bySizeAgain 22 = .ok (.iload_n 1, 1) := by decide +kernel
theorem dX9_bySizeAgain_23 : decode cX9_bySizeAgain 23 = .ok (.iload 4, 2) := by decide +kernel
theorem dX9_bySizeAgain_25 : decode cX9_bySizeAgain 25 = .ok (.aload_n 0, 1) := by decide +kernel
theorem dX9_bySizeAgain_26 : decode cX9_bySizeAgain 26 = .ok (.iload 4, 2) := by decide +kernel
theorem dX9_bySizeAgain_28 : decode cX9_bySizeAgain 28 = .ok (.invokevirtual 86, 3) := by decide +kernel
theorem dX9_bySizeAgain_31 : decode cX9_bySizeAgain 31 = .ok (.invokevirtual 158, 3) := by decide +kernel
theorem dX9_bySizeAgain_34 : decode cX9_bySizeAgain 34 = .ok (.iadd, 1) := by decide +kernel
theorem dX9_bySizeAgain_35 : decode cX9_bySizeAgain 35 = .ok (.iload_n 3, 1) := by decide +kernel
theorem dX9_bySizeAgain_36 : decode cX9_bySizeAgain 36 = .ok (.if_icmp .ne 10, 3) := by decide +kernel
theorem dX9_bySizeAgain_39 : decode cX9_bySizeAgain 39 = .ok (.aload_n 0, 1) := by decide +kernel
theorem dX9_bySizeAgain_40 : decode cX9_bySizeAgain 40 = .ok (.iload 4, 2) := by decide +kernel
theorem dX9_bySizeAgain_42 : decode cX9_bySizeAgain 42 = .ok (.invokevirtual 86, 3) := by decide +kernel
theorem dX9_bySizeAgain_45 : decode cX9_bySizeAgain 45 = .ok (.ireturn, 1) := by decide +kernel
theorem dX9_bySizeAgain_46 : decode cX9_bySizeAgain 46 = .ok (.iinc 4 1, 3) := by decide +kernel
theorem dX9_bySizeAgain_49 : decode cX9_bySizeAgain 49 = .ok (.goto (-46), 3) := by decide +kernel
theorem dX9_bySizeAgain_52 : decode cX9_bySizeAgain 52 = .ok (.bipush (-11), 2) := by decide +kernel
theorem dX9_bySizeAgain_54 : decode cX9_bySizeAgain 54 = .ok (.ireturn, 1) := by decide +kernel
theorem dX9_quantileAgain_0 : decode cX9_quantileAgain 0 = .ok (.aload_n 0, 1) := by decide +kernel
theorem dX9_quantileAgain_1 : decode cX9_quantileAgain 1 = .ok (.iload_n 1, 1) := by decide +kernel
theorem dX9_quantileAgain_2 : decode cX9_quantileAgain 2 = .ok (.iload_n 2, 1) := by decide +kernel
theorem dX9_quantileAgain_3 : decode cX9_quantileAgain 3 = .ok (.iload_n 3, 1) := by decide +kernel
theorem dX9_quantileAgain_4 : decode cX9_quantileAgain 4 = .ok (.invokevirtual 152, 3) := by decide +kernel
theorem dX9_quantileAgain_7 : decode cX9_quantileAgain 7 = .ok (.ifCond .eq 13, 3) := by decide +kernel
theorem dX9_quantileAgain_10 : decode cX9_quantileAgain 10 = .ok (.aload_n 0, 1) := by decide +kernel
theorem dX9_quantileAgain_11 : decode cX9_quantileAgain 11 = .ok (.iload_n 1, 1) := by decide +kernel
theorem dX9_quantileAgain_12 : decode cX9_quantileAgain 12 = .ok (.iload_n 2, 1) := by decide +kernel
theorem dX9_quantileAgain_13 : decode cX9_quantileAgain 13 = .ok (.iload_n 3, 1) := by decide +kernel
theorem dX9_quantileAgain_14 : decode cX9_quantileAgain 14 = .ok (.invokevirtual 161, 3) := by decide +kernel
theorem dX9_quantileAgain_17 : decode cX9_quantileAgain 17 = .ok (.goto 5, 3) := by decide +kernel
theorem dX9_quantileAgain_20 : decode cX9_quantileAgain 20 = .ok (.bipush (-11), 2) := by decide +kernel
theorem dX9_quantileAgain_22 : decode cX9_quantileAgain 22 = .ok (.ireturn, 1) := by decide +kernel
theorem dX9_count_0 : decode cX9_count 0 = .ok (.aload_n 0, 1) := by decide +kernel
theorem dX9_count_1 : decode cX9_count 1 = .ok (.iload_n 1, 1) := by decide +kernel
theorem dX9_count_2 : decode cX9_count 2 = .ok (.iload_n 2, 1) := by decide +kernel
theorem dX9_count_3 : decode cX9_count 3 = .ok (.invokevirtual 148, 3) := by decide +kernel
theorem dX9_count_6 : decode cX9_count 6 = .ok (.ifCond .ne 8, 3) := by decide +kernel
theorem dX9_count_9 : decode cX9_count 9 = .ok (.bipush (-11), 2) := by decide +kernel
theorem dX9_count_11 : decode cX9_count 11 = .ok (.goto 22, 3) := by decide +kernel
theorem dX9_count_14 : decode cX9_count 14 = .ok (.iload_n 3, 1) := by decide +kernel
theorem dX9_count_15 : decode cX9_count 15 = .ok (.invokestatic 64, 3) := by decide +kernel
theorem dX9_count_18 : decode cX9_count 18 = .ok (.ifCond .eq 13, 3) := by decide +kernel
theorem dX9_count_21 : decode cX9_count 21 = .ok (.aload_n 0, 1) := by decide +kernel
theorem dX9_count_22 : decode cX9_count 22 = .ok (.iload_n 1, 1) := by decide +kernel
theorem dX9_count_23 : decode cX9_count 23 = .ok (.iload_n 2, 1) := by decide +kernel
theorem dX9_count_24 : decode cX9_count 24 = .ok (.iload_n 3, 1) := by decide +kernel
theorem dX9_count_25 : decode cX9_count 25 = .ok (.invokevirtual 158, 3) := by decide +kernel
theorem dX9_count_28 : decode cX9_count 28 = .ok (.goto 5, 3) := by decide +kernel
theorem dX9_count_31 : decode cX9_count 31 = .ok (.bipush (-12), 2) := by decide +kernel
theorem dX9_count_33 : decode cX9_count 33 = .ok (.ireturn, 1) := by decide +kernel
theorem dX9_lighter_0 : decode cX9_lighter 0 = .ok (.aload_n 0, 1) := by decide +kernel
theorem dX9_lighter_1 : decode cX9_lighter 1 = .ok (.iload_n 1, 1) := by decide +kernel
theorem dX9_lighter_2 : decode cX9_lighter 2 = .ok (.iload_n 2, 1) := by decide +kernel
theorem dX9_lighter_3 : decode cX9_lighter 3 = .ok (.invokevirtual 148, 3) := by decide +kernel
theorem dX9_lighter_6 : decode cX9_lighter 6 = .ok (.ifCond .ne 8, 3) := by decide +kernel
theorem dX9_lighter_9 : decode cX9_lighter 9 = .ok (.bipush (-11), 2) := by decide +kernel
theorem dX9_lighter_11 : decode cX9_lighter 11 = .ok (.goto 22, 3) := by decide +kernel
theorem dX9_lighter_14 : decode cX9_lighter 14 = .ok (.iload_n 3, 1) := by decide +kernel
theorem dX9_lighter_15 : decode cX9_lighter 15 = .ok (.invokestatic 64, 3) := by decide +kernel
theorem dX9_lighter_18 : decode cX9_lighter 18 = .ok (.ifCond .eq 13, 3) := by decide +kernel
theorem dX9_lighter_21 : decode cX9_lighter 21 = .ok (.aload_n 0, 1) := by decide +kernel
theorem dX9_lighter_22 : decode cX9_lighter 22 = .ok (.iload_n 1, 1) := by decide +kernel
theorem dX9_lighter_23 : decode cX9_lighter 23 = .ok (.iload_n 2, 1) := by decide +kernel
theorem dX9_lighter_24 : decode cX9_lighter 24 = .ok (.iload_n 3, 1) := by decide +kernel
theorem dX9_lighter_25 : decode cX9_lighter 25 = .ok (.invokevirtual 145, 3) := by decide +kernel
theorem dX9_lighter_28 : decode cX9_lighter 28 = .ok (.goto 5, 3) := by decide +kernel
theorem dX9_lighter_31 : decode cX9_lighter 31 = .ok (.bipush (-12), 2) := by decide +kernel
theorem dX9_lighter_33 : decode cX9_lighter 33 = .ok (.ireturn, 1) := by decide +kernel
theorem dX9_atLeast_0 : decode cX9_atLeast 0 = .ok (.aload_n 0, 1) := by decide +kernel
theorem dX9_atLeast_1 : decode cX9_atLeast 1 = .ok (.iload_n 1, 1) := by decide +kernel
theorem dX9_atLeast_2 : decode cX9_atLeast 2 = .ok (.iload_n 2, 1) := by decide +kernel
theorem dX9_atLeast_3 : decode cX9_atLeast 3 = .ok (.invokevirtual 148, 3) := by decide +kernel
theorem dX9_atLeast_6 : decode cX9_atLeast 6 = .ok (.ifCond .ne 6, 3) := by decide +kernel
theorem dX9_atLeast_9 : decode cX9_atLeast 9 = .ok (.bipush (-11), 2) := by decide +kernel
theorem dX9_atLeast_11 : decode cX9_atLeast 11 = .ok (.ireturn, 1) := by decide +kernel
theorem dX9_atLeast_12 : decode cX9_atLeast 12 = .ok (.iload_n 3, 1) := by decide +kernel
theorem dX9_atLeast_13 : decode cX9_atLeast 13 = .ok (.invokestatic 64, 3) := by decide +kernel
theorem dX9_atLeast_16 : decode cX9_atLeast 16 = .ok (.ifCond .ne 6, 3) := by decide +kernel
theorem dX9_atLeast_19 : decode cX9_atLeast 19 = .ok (.bipush (-12), 2) := by decide +kernel
theorem dX9_atLeast_21 : decode cX9_atLeast 21 = .ok (.ireturn, 1) := by decide +kernel
theorem dX9_atLeast_22 : decode cX9_atLeast 22 = .ok (.iload_n 3, 1) := by decide +kernel
theorem dX9_atLeast_23 : decode cX9_atLeast 23 = .ok (.istore 4, 2) := by decide +kernel
theorem dX9_atLeast_25 : decode cX9_atLeast 25 = .ok (.iload 4, 2) := by decide +kernel
theorem dX9_atLeast_27 : decode cX9_atLeast 27 = .ok (.bipush 31, 2) := by decide +kernel
theorem dX9_atLeast_29 : decode cX9_atLeast 29 = .ok (.if_icmp .gt 23, 3) := by decide +kernel
theorem dX9_atLeast_32 : decode cX9_atLeast 32 = .ok (.aload_n 0, 1) := by decide +kernel
theorem dX9_atLeast_33 : decode cX9_atLeast 33 = .ok (.iload_n 1, 1) := by decide +kernel
theorem dX9_atLeast_34 : decode cX9_atLeast 34 = .ok (.iload_n 2, 1) := by decide +kernel
theorem dX9_atLeast_35 : decode cX9_atLeast 35 = .ok (.iload 4, 2) := by decide +kernel
theorem dX9_atLeast_37 : decode cX9_atLeast 37 = .ok (.invokevirtual 158, 3) := by decide +kernel
theorem dX9_atLeast_40 : decode cX9_atLeast 40 = .ok (.ifCond .le 6, 3) := by decide +kernel
theorem dX9_atLeast_43 : decode cX9_atLeast 43 = .ok (.iload 4, 2) := by decide +kernel
theorem dX9_atLeast_45 : decode cX9_atLeast 45 = .ok (.ireturn, 1) := by decide +kernel
theorem dX9_atLeast_46 : decode cX9_atLeast 46 = .ok (.iinc 4 1, 3) := by decide +kernel
theorem dX9_atLeast_49 : decode cX9_atLeast 49 = .ok (.goto (-24), 3) := by decide +kernel
theorem dX9_atLeast_52 : decode cX9_atLeast 52 = .ok (.bipush (-15), 2) := by decide +kernel
theorem dX9_atLeast_54 : decode cX9_atLeast 54 = .ok (.ireturn, 1) := by decide +kernel
theorem dX9_find_0 : decode cX9_find 0 = .ok (.iload_n 1, 1) := by decide +kernel
theorem dX9_find_1 : decode cX9_find 1 = .ok (.invokestatic 64, 3) := by decide +kernel
theorem dX9_find_4 : decode cX9_find 4 = .ok (.ifCond .ne 6, 3) := by decide +kernel
theorem dX9_find_7 : decode cX9_find 7 = .ok (.bipush (-12), 2) := by decide +kernel
theorem dX9_find_9 : decode cX9_find 9 = .ok (.ireturn, 1) := by decide +kernel
theorem dX9_find_10 : decode cX9_find 10 = .ok (.iconst 0, 1) := by decide +kernel
theorem dX9_find_11 : decode cX9_find 11 = .ok (.istore_n 3, 1) := by decide +kernel
theorem dX9_find_12 : decode cX9_find 12 = .ok (.iload_n 3, 1) := by decide +kernel
theorem dX9_find_13 : decode cX9_find 13 = .ok (.aload_n 0, 1) := by decide +kernel
theorem dX9_find_14 : decode cX9_find 14 = .ok (.getfield 7, 3) := by decide +kernel
theorem dX9_find_17 : decode cX9_find 17 = .ok (.iconst 0, 1) := by decide +kernel
theorem dX9_find_18 : decode cX9_find 18 = .ok (.iaload, 1) := by decide +kernel
theorem dX9_find_19 : decode cX9_find 19 = .ok (.if_icmp .ge 31, 3) := by decide +kernel
theorem dX9_find_22 : decode cX9_find 22 = .ok (.aload_n 0, 1) := by decide +kernel
theorem dX9_find_23 : decode cX9_find 23 = .ok (.iload_n 3, 1) := by decide +kernel
theorem dX9_find_24 : decode cX9_find 24 = .ok (.invokevirtual 86, 3) := by decide +kernel
theorem dX9_find_27 : decode cX9_find 27 = .ok (.iload_n 1, 1) := by decide +kernel
theorem dX9_find_28 : decode cX9_find 28 = .ok (.if_icmp .ne 16, 3) := by decide +kernel
theorem dX9_find_31 : decode cX9_find 31 = .ok (.aload_n 0, 1) := by decide +kernel
theorem dX9_find_32 : decode cX9_find 32 = .ok (.iconst 0, 1) := by decide +kernel
theorem dX9_find_33 : decode cX9_find 33 = .ok (.iload_n 3, 1) := by decide +kernel
theorem dX9_find_34 : decode cX9_find 34 = .ok (.iload_n 1, 1) := by decide +kernel
theorem dX9_find_35 : decode cX9_find 35 = .ok (.invokevirtual 158, 3) := by decide +kernel
theorem dX9_find_38 : decode cX9_find 38 = .ok (.iload_n 2, 1) := by decide +kernel
theorem dX9_find_39 : decode cX9_find 39 = .ok (.if_icmp .ne 5, 3) := by decide +kernel
theorem dX9_find_42 : decode cX9_find 42 = .ok (.iload_n 3, 1) := by decide +kernel
theorem dX9_find_43 : decode cX9_find 43 = .ok (.ireturn, 1) := by decide +kernel
theorem dX9_find_44 : decode cX9_find 44 = .ok (.iinc 3 1, 3) := by decide +kernel
theorem dX9_find_47 : decode cX9_find 47 = .ok (.goto (-35), 3) := by decide +kernel
theorem dX9_find_50 : decode cX9_find 50 = .ok (.bipush (-15), 2) := by decide +kernel
theorem dX9_find_52 : decode cX9_find 52 = .ok (.ireturn, 1) := by decide +kernel
theorem dX9_common_0 : decode cX9_common 0 = .ok (.aload_n 0, 1) := by decide +kernel
theorem dX9_common_1 : decode cX9_common 1 = .ok (.iload_n 1, 1) := by decide +kernel
theorem dX9_common_2 : decode cX9_common 2 = .ok (.iload_n 2, 1) := by decide +kernel
theorem dX9_common_3 : decode cX9_common 3 = .ok (.invokevirtual 148, 3) := by decide +kernel
theorem dX9_common_6 : decode cX9_common 6 = .ok (.ifCond .ne 6, 3) := by decide +kernel
theorem dX9_common_9 : decode cX9_common 9 = .ok (.bipush (-11), 2) := by decide +kernel
theorem dX9_common_11 : decode cX9_common 11 = .ok (.ireturn, 1) := by decide +kernel
theorem dX9_common_12 : decode cX9_common 12 = .ok (.iconst 0, 1) := by decide +kernel
theorem dX9_common_13 : decode cX9_common 13 = .ok (.istore 4, 2) := by decide +kernel
theorem dX9_common_15 : decode cX9_common 15 = .ok (.iload 4, 2) := by decide +kernel
theorem dX9_common_17 : decode cX9_common 17 = .ok (.bipush 31, 2) := by decide +kernel
theorem dX9_common_19 : decode cX9_common 19 = .ok (.if_icmp .gt 96, 3) := by decide +kernel
theorem dX9_common_22 : decode cX9_common 22 = .ok (.aload_n 0, 1) := by decide +kernel
theorem dX9_common_23 : decode cX9_common 23 = .ok (.iload_n 1, 1) := by decide +kernel
theorem dX9_common_24 : decode cX9_common 24 = .ok (.iload_n 2, 1) := by decide +kernel
theorem dX9_common_25 : decode cX9_common 25 = .ok (.iload 4, 2) := by decide +kernel
theorem dX9_common_27 : decode cX9_common 27 = .ok (.invokevirtual 158, 3) := by decide +kernel
theorem dX9_common_30 : decode cX9_common 30 = .ok (.istore 5, 2) := by decide +kernel
theorem dX9_common_32 : decode cX9_common 32 = .ok (.iload 5, 2) := by decide +kernel
theorem dX9_common_34 : decode cX9_common 34 = .ok (.ifCond .ne 6, 3) := by decide +kernel
theorem dX9_common_37 : decode cX9_common 37 = .ok (.goto 72, 3) := by decide +kernel
theorem dX9_common_40 : decode cX9_common 40 = .ok (.iconst 0, 1) := by decide +kernel
theorem dX9_common_41 : decode cX9_common 41 = .ok (.istore 6, 2) := by decide +kernel
theorem dX9_common_43 : decode cX9_common 43 = .ok (.iconst 0, 1) := by decide +kernel
theorem dX9_common_44 : decode cX9_common 44 = .ok (.istore 7, 2) := by decide +kernel
theorem dX9_common_46 : decode cX9_common 46 = .ok (.iload 7, 2) := by decide +kernel
theorem dX9_common_48 : decode cX9_common 48 = .ok (.bipush 31, 2) := by decide +kernel
theorem dX9_common_50 : decode cX9_common 50 = .ok (.if_icmp .gt 50, 3) := by decide +kernel
theorem dX9_common_53 : decode cX9_common 53 = .ok (.aload_n 0, 1) := by decide +kernel
theorem dX9_common_54 : decode cX9_common 54 = .ok (.iload_n 1, 1) := by decide +kernel
theorem dX9_common_55 : decode cX9_common 55 = .ok (.iload_n 2, 1) := by decide +kernel
theorem dX9_common_56 : decode cX9_common 56 = .ok (.iload 7, 2) := by decide +kernel
theorem dX9_common_58 : decode cX9_common 58 = .ok (.invokevirtual 158, 3) := by decide +kernel
theorem dX9_common_61 : decode cX9_common 61 = .ok (.istore 8, 2) := by decide +kernel
theorem dX9_common_63 : decode cX9_common 63 = .ok (.iload 6, 2) := by decide +kernel
theorem dX9_common_65 : decode cX9_common 65 = .ok (.iload 8, 2) := by decide +kernel
theorem dX9_common_67 : decode cX9_common 67 = .ok (.iload 5, 2) := by decide +kernel
theorem dX9_common_69 : decode cX9_common 69 = .ok (.if_icmp .gt 17, 3) := by decide +kernel
theorem dX9_common_72 : decode cX9_common 72 = .ok (.iload 8, 2) := by decide +kernel
theorem dX9_common_74 : decode cX9_common 74 = .ok (.iload 5, 2) := by decide +kernel
theorem dX9_common_76 : decode cX9_common 76 = .ok (.if_icmp .ne 14, 3) := by decide +kernel
theorem dX9_common_79 : decode cX9_common 79 = .ok (.iload 7, 2) := by decide +kernel
theorem dX9_common_81 : decode cX9_common 81 = .ok (.iload 4, 2) := by decide +kernel
theorem dX9_common_83 : decode cX9_common 83 = .ok (.if_icmp .ge 7, 3) := by decide +kernel
theorem dX9_common_86 : decode cX9_common 86 = .ok (.iconst 1, 1) := by decide +kernel
theorem dX9_common_87 : decode cX9_common 87 = .ok (.goto 4, 3) := by decide +kernel
theorem dX9_common_90 : decode cX9_common 90 = .ok (.iconst 0, 1) := by decide +kernel
theorem dX9_common_91 : decode cX9_common 91 = .ok (.iadd, 1) := by decide +kernel
theorem dX9_common_92 : decode cX9_common 92 = .ok (.istore 6, 2) := by decide +kernel
theorem dX9_common_94 : decode cX9_common 94 = .ok (.iinc 7 1, 3) := by decide +kernel
theorem dX9_common_97 : decode cX9_common 97 = .ok (.goto (-51), 3) := by decide +kernel
theorem dX9_common_100 : decode cX9_common 100 = .ok (.iload 6, 2) := by decide +kernel
theorem dX9_common_102 : decode cX9_common 102 = .ok (.iload_n 3, 1) := by decide +kernel
theorem dX9_common_103 : decode cX9_common 103 = .ok (.if_icmp .ne 6, 3) := by decide +kernel
theorem dX9_common_106 : decode cX9_common 106 = .ok (.iload 4, 2) := by decide +kernel
theorem dX9_common_108 : decode cX9_common 108 = .ok (.ireturn, 1) := by decide +kernel
theorem dX9_common_109 : decode cX9_common 109 = .ok (.iinc 4 1, 3) := by decide +kernel
theorem dX9_common_112 : decode cX9_common 112 = .ok (.goto (-97), 3) := by decide +kernel
theorem dX9_common_115 : decode cX9_common 115 = .ok (.bipush (-11), 2) := by decide +kernel
theorem dX9_common_117 : decode cX9_common 117 = .ok (.ireturn, 1) := by decide +kernel
theorem dX9_unlike_0 : decode cX9_unlike 0 = .ok (.iconst 0, 1) := by decide +kernel
theorem dX9_unlike_1 : decode cX9_unlike 1 = .ok (.istore_n 3, 1) := by decide +kernel
theorem dX9_unlike_2 : decode cX9_unlike 2 = .ok (.iconst 0, 1) := by decide +kernel
theorem dX9_unlike_3 : decode cX9_unlike 3 = .ok (.istore 4, 2) := by decide +kernel
theorem dX9_unlike_5 : decode cX9_unlike 5 = .ok (.iload 4, 2) := by decide +kernel
theorem dX9_unlike_7 : decode cX9_unlike 7 = .ok (.bipush 31, 2) := by decide +kernel
theorem dX9_unlike_9 : decode cX9_unlike 9 = .ok (.if_icmp .gt 28, 3) := by decide +kernel
theorem dX9_unlike_12 : decode cX9_unlike 12 = .ok (.iload_n 3, 1) := by decide +kernel
theorem dX9_unlike_13 : decode cX9_unlike 13 = .ok (.aload_n 0, 1) := by decide +kernel
theorem dX9_unlike_14 : decode cX9_unlike 14 = .ok (.iload_n 1, 1) := by decide +kernel
theorem dX9_unlike_15 : decode cX9_unlike 15 = .ok (.iload_n 2, 1) := by decide +kernel
theorem dX9_unlike_16 : decode cX9_unlike 16 = .ok (.iload 4, 2) := by decide +kernel
theorem dX9_unlike_18 : decode cX9_unlike 18 = .ok (.invokevirtual 158, 3) := by decide +kernel
theorem dX9_unlike_21 : decode cX9_unlike 21 = .ok (.ifCond .le 7, 3) := by decide +kernel
theorem dX9_unlike_24 : decode cX9_unlike 24 = .ok (.iconst 1, 1) := by decide +kernel
theorem dX9_unlike_25 : decode cX9_unlike 25 = .ok (.goto 4, 3) := by decide +kernel
theorem dX9_unlike_28 : decode cX9_unlike 28 = .ok (.iconst 0, 1) := by decide +kernel
theorem dX9_unlike_29 : decode cX9_unlike 29 = .ok (.iadd, 1) := by decide +kernel
theorem dX9_unlike_30 : decode cX9_unlike 30 = .ok (.istore_n 3, 1) := by decide +kernel
theorem dX9_unlike_31 : decode cX9_unlike 31 = .ok (.iinc 4 1, 3) := by decide +kernel
theorem dX9_unlike_34 : decode cX9_unlike 34 = .ok (.goto (-29), 3) := by decide +kernel
theorem dX9_unlike_37 : decode cX9_unlike 37 = .ok (.iload_n 3, 1) := by decide +kernel
theorem dX9_unlike_38 : decode cX9_unlike 38 = .ok (.ireturn, 1) := by decide +kernel
theorem dX9_sum_0 : decode cX9_sum 0 = .ok (.iconst 0, 1) := by decide +kernel
theorem dX9_sum_1 : decode cX9_sum 1 = .ok (.istore_n 3, 1) := by decide +kernel
theorem dX9_sum_2 : decode cX9_sum 2 = .ok (.iload_n 1, 1) := by decide +kernel
theorem dX9_sum_3 : decode cX9_sum 3 = .ok (.istore 4, 2) := by decide +kernel
theorem dX9_sum_5 : decode cX9_sum 5 = .ok (.iload 4, 2) := by decide +kernel
theorem dX9_sum_7 : decode cX9_sum 7 = .ok (.iload_n 2, 1) := by decide +kernel
theorem dX9_sum_8 : decode cX9_sum 8 = .ok (.if_icmp .ge 18, 3) := by decide +kernel
theorem dX9_sum_11 : decode cX9_sum 11 = .ok (.iload_n 3, 1) := by decide +kernel
theorem dX9_sum_12 : decode cX9_sum 12 = .ok (.aload_n 0, 1) := by decide +kernel
theorem dX9_sum_13 : decode cX9_sum 13 = .ok (.iload 4, 2) := by decide +kernel
theorem dX9_sum_15 : decode cX9_sum 15 = .ok (.invokevirtual 86, 3) := by decide +kernel
theorem dX9_sum_18 : decode cX9_sum 18 = .ok (.iadd, 1) := by decide +kernel
theorem dX9_sum_19 : decode cX9_sum 19 = .ok (.istore_n 3, 1) := by decide +kernel
theorem dX9_sum_20 : decode cX9_sum 20 = .ok (.iinc 4 1, 3) := by decide +kernel
theorem dX9_sum_23 : decode cX9_sum 23 = .ok (.goto (-18), 3) := by decide +kernel
theorem dX9_sum_26 : decode cX9_sum 26 = .ok (.iload_n 3, 1) := by decide +kernel
theorem dX9_sum_27 : decode cX9_sum 27 = .ok (.ireturn, 1) := by decide +kernel
theorem dX9_median_0 : decode cX9_median 0 = .ok (.iload_n 2, 1) := by decide +kernel
theorem dX9_median_1 : decode cX9_median 1 = .ok (.iload_n 1, 1) := by decide +kernel
theorem dX9_median_2 : decode cX9_median 2 = .ok (.isub, 1) := by decide +kernel
theorem dX9_median_3 : decode cX9_median 3 = .ok (.istore_n 3, 1) := by decide +kernel
theorem dX9_median_4 : decode cX9_median 4 = .ok (.aload_n 0, 1) := by decide +kernel
theorem dX9_median_5 : decode cX9_median 5 = .ok (.iload_n 1, 1) := by decide +kernel
theorem dX9_median_6 : decode cX9_median 6 = .ok (.iload_n 2, 1) := by decide +kernel
theorem dX9_median_7 : decode cX9_median 7 = .ok (.iload_n 3, 1) := by decide +kernel
theorem dX9_median_8 : decode cX9_median 8 = .ok (.iconst 2, 1) := by decide +kernel
theorem dX9_median_9 : decode cX9_median 9 = .ok (.irem, 1) := by decide +kernel
theorem dX9_median_10 : decode cX9_median 10 = .ok (.ifCond .ne 11, 3) := by decide +kernel
theorem dX9_median_13 : decode cX9_median 13 = .ok (.iload_n 3, 1) := by decide +kernel
theorem dX9_median_14 : decode cX9_median 14 = .ok (.iconst 2, 1) := by decide +kernel
theorem dX9_median_15 : decode cX9_median 15 = .ok (.idiv, 1) := by decide +kernel
theorem dX9_median_16 : decode cX9_median 16 = .ok (.iconst 1, 1) := by decide +kernel
theorem dX9_median_17 : decode cX9_median 17 = .ok (.isub, 1) := by decide +kernel
theorem dX9_median_18 : decode cX9_median 18 = .ok (.goto 6, 3) := by decide +kernel
theorem dX9_median_21 : decode cX9_median 21 = .ok (.iload_n 3, 1) := by decide +kernel
theorem dX9_median_22 : decode cX9_median 22 = .ok (.iconst 2, 1) := by decide +kernel
theorem dX9_median_23 : decode cX9_median 23 = .ok (.idiv, 1) := by decide +kernel
theorem dX9_median_24 : decode cX9_median 24 = .ok (.invokevirtual 155, 3) := by decide +kernel
theorem dX9_median_27 : decode cX9_median 27 = .ok (.ireturn, 1) := by decide +kernel
theorem dX9_bagOf_0 : decode cX9_bagOf 0 = .ok (.iload_n 1, 1) := by decide +kernel
theorem dX9_bagOf_1 : decode cX9_bagOf 1 = .ok (.iconst 0, 1) := by decide +kernel
theorem dX9_bagOf_2 : decode cX9_bagOf 2 = .ok (.aload_n 0, 1) := by decide +kernel
theorem dX9_bagOf_3 : decode cX9_bagOf 3 = .ok (.invokevirtual 164, 3) := by decide +kernel
theorem dX9_bagOf_6 : decode cX9_bagOf 6 = .ok (.iconst 1, 1) := by decide +kernel
theorem dX9_bagOf_7 : decode cX9_bagOf 7 = .ok (.isub, 1) := by decide +kernel
theorem dX9_bagOf_8 : decode cX9_bagOf 8 = .ok (.invokestatic 60, 3) := by decide +kernel
theorem dX9_bagOf_11 : decode cX9_bagOf 11 = .ok (.ifCond .ne 6, 3) := by decide +kernel
theorem dX9_bagOf_14 : decode cX9_bagOf 14 = .ok (.bipush (-11), 2) := by decide +kernel
theorem dX9_bagOf_16 : decode cX9_bagOf 16 = .ok (.ireturn, 1) := by decide +kernel
theorem dX9_bagOf_17 : decode cX9_bagOf 17 = .ok (.aload_n 0, 1) := by decide +kernel
theorem dX9_bagOf_18 : decode cX9_bagOf 18 = .ok (.iload_n 1, 1) := by decide +kernel
theorem dX9_bagOf_19 : decode cX9_bagOf 19 = .ok (.invokevirtual 167, 3) := by decide +kernel
theorem dX9_bagOf_22 : decode cX9_bagOf 22 = .ok (.istore_n 3, 1) := by decide +kernel
theorem dX9_bagOf_23 : decode cX9_bagOf 23 = .ok (.aload_n 0, 1) := by decide +kernel
theorem dX9_bagOf_24 : decode cX9_bagOf 24 = .ok (.iload_n 1, 1) := by decide +kernel
theorem dX9_bagOf_25 : decode cX9_bagOf 25 = .ok (.iconst 1, 1) := by decide +kernel
theorem dX9_bagOf_26 : decode cX9_bagOf 26 = .ok (.iadd, 1) := by decide +kernel
theorem dX9_bagOf_27 : decode cX9_bagOf 27 = .ok (.invokevirtual 167, 3) := by decide +kernel
theorem dX9_bagOf_30 : decode cX9_bagOf 30 = .ok (.istore 4, 2) := by decide +kernel
theorem dX9_bagOf_32 : decode cX9_bagOf 32 = .ok (.iload_n 2, 1) := by decide +kernel
theorem dX9_bagOf_33 : decode cX9_bagOf 33 = .ok (.tableswitch 84 0 5 #[39, 41, 46, 54, 62, 76], 39) := by decide +kernel
theorem dX9_bagOf_72 : decode cX9_bagOf 72 = .ok (.iload_n 3, 1) := by decide +kernel
theorem dX9_bagOf_73 : decode cX9_bagOf 73 = .ok (.ireturn, 1) := by decide +kernel
theorem dX9_bagOf_74 : decode cX9_bagOf 74 = .ok (.iload 4, 2) := by decide +kernel
theorem dX9_bagOf_76 : decode cX9_bagOf 76 = .ok (.iload_n 3, 1) := by decide +kernel
theorem dX9_bagOf_77 : decode cX9_bagOf 77 = .ok (.isub, 1) := by decide +kernel
theorem dX9_bagOf_78 : decode cX9_bagOf 78 = .ok (.ireturn, 1) := by decide +kernel
theorem dX9_bagOf_79 : decode cX9_bagOf 79 = .ok (.aload_n 0, 1) := by decide +kernel
theorem dX9_bagOf_80 : decode cX9_bagOf 80 = .ok (.iload_n 3, 1) := by decide +kernel
theorem dX9_bagOf_81 : decode cX9_bagOf 81 = .ok (.iload 4, 2) := by decide +kernel
theorem dX9_bagOf_83 : decode cX9_bagOf 83 = .ok (.invokevirtual 170, 3) := by decide +kernel
theorem dX9_bagOf_86 : decode cX9_bagOf 86 = .ok (.ireturn, 1) := by decide +kernel
theorem dX9_bagOf_87 : decode cX9_bagOf 87 = .ok (.aload_n 0, 1) := by decide +kernel
theorem dX9_bagOf_88 : decode cX9_bagOf 88 = .ok (.iload_n 3, 1) := by decide +kernel
theorem dX9_bagOf_89 : decode cX9_bagOf 89 = .ok (.iload 4, 2) := by decide +kernel
theorem dX9_bagOf_91 : decode cX9_bagOf 91 = .ok (.invokevirtual 173, 3) := by decide +kernel
theorem dX9_bagOf_94 : decode cX9_bagOf 94 = .ok (.ireturn, 1) := by decide +kernel
theorem dX9_bagOf_95 : decode cX9_bagOf 95 = .ok (.aload_n 0, 1) := by decide +kernel
theorem dX9_bagOf_96 : decode cX9_bagOf 96 = .ok (.iload_n 3, 1) := by decide +kernel
theorem dX9_bagOf_97 : decode cX9_bagOf 97 = .ok (.iload 4, 2) := by decide +kernel
theorem dX9_bagOf_99 : decode cX9_bagOf 99 = .ok (.iload 4, 2) := by decide +kernel
theorem dX9_bagOf_101 : decode cX9_bagOf 101 = .ok (.iload_n 3, 1) := by decide +kernel
theorem dX9_bagOf_102 : decode cX9_bagOf 102 = .ok (.isub, 1) := by decide +kernel
theorem dX9_bagOf_103 : decode cX9_bagOf 103 = .ok (.iconst 1, 1) := by decide +kernel
theorem dX9_bagOf_104 : decode cX9_bagOf 104 = .ok (.isub, 1) := by decide +kernel
theorem dX9_bagOf_105 : decode cX9_bagOf 105 = .ok (.invokevirtual 155, 3) := by decide +kernel
theorem dX9_bagOf_108 : decode cX9_bagOf 108 = .ok (.ireturn, 1) := by decide +kernel
theorem dX9_bagOf_109 : decode cX9_bagOf 109 = .ok (.aload_n 0, 1) := by decide +kernel
theorem dX9_bagOf_110 : decode cX9_bagOf 110 = .ok (.iload_n 3, 1) := by decide +kernel
theorem dX9_bagOf_111 : decode cX9_bagOf 111 = .ok (.iload 4, 2) := by decide +kernel
theorem dX9_bagOf_113 : decode cX9_bagOf 113 = .ok (.invokevirtual 176, 3) := by decide +kernel
theorem dX9_bagOf_116 : decode cX9_bagOf 116 = .ok (.ireturn, 1) := by decide +kernel
theorem dX9_bagOf_117 : decode cX9_bagOf 117 = .ok (.bipush (-12), 2) := by decide +kernel
theorem dX9_bagOf_119 : decode cX9_bagOf 119 = .ok (.ireturn, 1) := by decide +kernel
theorem dX9_bagAt_0 : decode cX9_bagAt 0 = .ok (.aload_n 0, 1) := by decide +kernel
theorem dX9_bagAt_1 : decode cX9_bagAt 1 = .ok (.iload_n 1, 1) := by decide +kernel
theorem dX9_bagAt_2 : decode cX9_bagAt 2 = .ok (.invokevirtual 89, 3) := by decide +kernel
theorem dX9_bagAt_5 : decode cX9_bagAt 5 = .ok (.ifCond .eq 13, 3) := by decide +kernel
theorem dX9_bagAt_8 : decode cX9_bagAt 8 = .ok (.aload_n 0, 1) := by decide +kernel
theorem dX9_bagAt_9 : decode cX9_bagAt 9 = .ok (.iload_n 1, 1) := by decide +kernel
theorem dX9_bagAt_10 : decode cX9_bagAt 10 = .ok (.invokevirtual 118, 3) := by decide +kernel
theorem dX9_bagAt_13 : decode cX9_bagAt 13 = .ok (.iconst 1, 1) := by decide +kernel
theorem dX9_bagAt_14 : decode cX9_bagAt 14 = .ok (.isub, 1) := by decide +kernel
theorem dX9_bagAt_15 : decode cX9_bagAt 15 = .ok (.goto 5, 3) := by decide +kernel
theorem dX9_bagAt_18 : decode cX9_bagAt 18 = .ok (.bipush (-11), 2) := by decide +kernel
theorem dX9_bagAt_20 : decode cX9_bagAt 20 = .ok (.ireturn, 1) := by decide +kernel
theorem dX9_sumOf_0 : decode cX9_sumOf 0 = .ok (.aload_n 0, 1) := by decide +kernel
theorem dX9_sumOf_1 : decode cX9_sumOf 1 = .ok (.aload_n 0, 1) := by decide +kernel
theorem dX9_sumOf_2 : decode cX9_sumOf 2 = .ok (.iload_n 1, 1) := by decide +kernel
theorem dX9_sumOf_3 : decode cX9_sumOf 3 = .ok (.invokevirtual 167, 3) := by decide +kernel
theorem dX9_sumOf_6 : decode cX9_sumOf 6 = .ok (.aload_n 0, 1) := by decide +kernel
theorem dX9_sumOf_7 : decode cX9_sumOf 7 = .ok (.iload_n 1, 1) := by decide +kernel
theorem dX9_sumOf_8 : decode cX9_sumOf 8 = .ok (.iconst 1, 1) := by decide +kernel
theorem dX9_sumOf_9 : decode cX9_sumOf 9 = .ok (.iadd, 1) := by decide +kernel
theorem dX9_sumOf_10 : decode cX9_sumOf 10 = .ok (.invokevirtual 167, 3) := by decide +kernel
theorem dX9_sumOf_13 : decode cX9_sumOf 13 = .ok (.invokevirtual 170, 3) := by decide +kernel
theorem dX9_sumOf_16 : decode cX9_sumOf 16 = .ok (.ireturn, 1) := by decide +kernel
theorem dX9_sizeOf_0 : decode cX9_sizeOf 0 = .ok (.aload_n 0, 1) := by decide +kernel
theorem dX9_sizeOf_1 : decode cX9_sizeOf 1 = .ok (.iload_n 1, 1) := by decide +kernel
theorem dX9_sizeOf_2 : decode cX9_sizeOf 2 = .ok (.iconst 1, 1) := by decide +kernel
theorem dX9_sizeOf_3 : decode cX9_sizeOf 3 = .ok (.iadd, 1) := by decide +kernel
theorem dX9_sizeOf_4 : decode cX9_sizeOf 4 = .ok (.invokevirtual 167, 3) := by decide +kernel
theorem dX9_sizeOf_7 : decode cX9_sizeOf 7 = .ok (.aload_n 0, 1) := by decide +kernel
theorem dX9_sizeOf_8 : decode cX9_sizeOf 8 = .ok (.iload_n 1, 1) := by decide +kernel
theorem dX9_sizeOf_9 : decode cX9_sizeOf 9 = .ok (.invokevirtual 167, 3) := by decide +kernel
theorem dX9_sizeOf_12 : decode cX9_sizeOf 12 = .ok (.isub, 1) := by decide +kernel
theorem dX9_sizeOf_13 : decode cX9_sizeOf 13 = .ok (.ireturn, 1) := by decide +kernel
theorem dX9_isAhead_0 : decode cX9_isAhead 0 = .ok (.aload_n 0, 1) := by decide +kernel
theorem dX9_isAhead_1 : decode cX9_isAhead 1 = .ok (.iload_n 1, 1) := by decide +kernel
theorem dX9_isAhead_2 : decode cX9_isAhead 2 = .ok (.invokevirtual 179, 3) := by decide +kernel
theorem dX9_isAhead_5 : decode cX9_isAhead 5 = .ok (.aload_n 0, 1) := by decide +kernel
theorem dX9_isAhead_6 : decode cX9_isAhead 6 = .ok (.iload_n 2, 1) := by decide +kernel
theorem dX9_isAhead_7 : decode cX9_isAhead 7 = .ok (.invokevirtual 179, 3) := by decide +kernel
theorem dX9_isAhead_10 : decode cX9_isAhead 10 = .ok (.if_icmp .eq 22, 3) := by decide +kernel
theorem dX9_isAhead_13 : decode cX9_isAhead 13 = .ok (.aload_n 0, 1) := by decide +kernel
theorem dX9_isAhead_14 : decode cX9_isAhead 14 = .ok (.iload_n 1, 1) := by decide +kernel
theorem dX9_isAhead_15 : decode cX9_isAhead 15 = .ok (.invokevirtual 179, 3) := by decide +kernel
theorem dX9_isAhead_18 : decode cX9_isAhead 18 = .ok (.aload_n 0, 1) := by decide +kernel
theorem dX9_isAhead_19 : decode cX9_isAhead 19 = .ok (.iload_n 2, 1) := by decide +kernel
theorem dX9_isAhead_20 : decode cX9_isAhead 20 = .ok (.invokevirtual 179, 3) := by decide +kernel
theorem dX9_isAhead_23 : decode cX9_isAhead 23 = .ok (.if_icmp .le 7, 3) := by decide +kernel
theorem dX9_isAhead_26 : decode cX9_isAhead 26 = .ok (.iconst 1, 1) := by decide +kernel
theorem dX9_isAhead_27 : decode cX9_isAhead 27 = .ok (.goto 4, 3) := by decide +kernel
theorem dX9_isAhead_30 : decode cX9_isAhead 30 = .ok (.iconst 0, 1) := by decide +kernel
theorem dX9_isAhead_31 : decode cX9_isAhead 31 = .ok (.ireturn, 1) := by decide +kernel
theorem dX9_isAhead_32 : decode cX9_isAhead 32 = .ok (.aload_n 0, 1) := by decide +kernel
theorem dX9_isAhead_33 : decode cX9_isAhead 33 = .ok (.iload_n 1, 1) := by decide +kernel
theorem dX9_isAhead_34 : decode cX9_isAhead 34 = .ok (.invokevirtual 182, 3) := by decide +kernel
theorem dX9_isAhead_37 : decode cX9_isAhead 37 = .ok (.aload_n 0, 1) := by decide +kernel
theorem dX9_isAhead_38 : decode cX9_isAhead 38 = .ok (.iload_n 2, 1) := by decide +kernel
theorem dX9_isAhead_39 : decode cX9_isAhead 39 = .ok (.invokevirtual 182, 3) := by decide +kernel
theorem dX9_isAhead_42 : decode cX9_isAhead 42 = .ok (.if_icmp .eq 24, 3) := by decide +kernel
theorem dX9_isAhead_45 : decode cX9_isAhead 45 = .ok (.aload_n 0, 1) := by decide +kernel
theorem dX9_isAhead_46 : decode cX9_isAhead 46 = .ok (.iload_n 1, 1) := by decide +kernel
theorem dX9_isAhead_47 : decode cX9_isAhead 47 = .ok (.invokevirtual 182, 3) := by decide +kernel
theorem dX9_isAhead_50 : decode cX9_isAhead 50 = .ok (.aload_n 0, 1) := by decide +kernel
theorem dX9_isAhead_51 : decode cX9_isAhead 51 = .ok (.iload_n 2, 1) := by decide +kernel
theorem dX9_isAhead_52 : decode cX9_isAhead 52 = .ok (.invokevirtual 182, 3) := by decide +kernel
theorem dX9_isAhead_55 : decode cX9_isAhead 55 = .ok (.if_icmp .ge 7, 3) := by decide +kernel
theorem dX9_isAhead_58 : decode cX9_isAhead 58 = .ok (.iconst 1, 1) := by decide +kernel
theorem dX9_isAhead_59 : decode cX9_isAhead 59 = .ok (.goto 17, 3) := by decide +kernel
theorem dX9_isAhead_62 : decode cX9_isAhead 62 = .ok (.iconst 0, 1) := by decide +kernel
theorem dX9_isAhead_63 : decode cX9_isAhead 63 = .ok (.goto 13, 3) := by decide +kernel
theorem dX9_isAhead_66 : decode cX9_isAhead 66 = .ok (.iload_n 1, 1) := by decide +kernel
theorem dX9_isAhead_67 : decode cX9_isAhead 67 = .ok (.iload_n 2, 1) := by decide +kernel
theorem dX9_isAhead_68 : decode cX9_isAhead 68 = .ok (.if_icmp .ge 7, 3) := by decide +kernel
theorem dX9_isAhead_71 : decode cX9_isAhead 71 = .ok (.iconst 1, 1) := by decide +kernel
theorem dX9_isAhead_72 : decode cX9_isAhead 72 = .ok (.goto 4, 3) := by decide +kernel
theorem dX9_isAhead_75 : decode cX9_isAhead 75 = .ok (.iconst 0, 1) := by decide +kernel
theorem dX9_isAhead_76 : decode cX9_isAhead 76 = .ok (.ireturn, 1) := by decide +kernel
theorem dX9_ranked_0 : decode cX9_ranked 0 = .ok (.aload_n 0, 1) := by decide +kernel
theorem dX9_ranked_1 : decode cX9_ranked 1 = .ok (.invokevirtual 164, 3) := by decide +kernel
theorem dX9_ranked_4 : decode cX9_ranked 4 = .ok (.istore_n 2, 1) := by decide +kernel
theorem dX9_ranked_5 : decode cX9_ranked 5 = .ok (.iconst 0, 1) := by decide +kernel
theorem dX9_ranked_6 : decode cX9_ranked 6 = .ok (.istore_n 3, 1) := by decide +kernel
theorem dX9_ranked_7 : decode cX9_ranked 7 = .ok (.iload_n 3, 1) := by decide +kernel
theorem dX9_ranked_8 : decode cX9_ranked 8 = .ok (.iload_n 2, 1) := by decide +kernel
theorem dX9_ranked_9 : decode cX9_ranked 9 = .ok (.if_icmp .ge 55, 3) := by decide +kernel
theorem dX9_ranked_12 : decode cX9_ranked 12 = .ok (.iconst 0, 1) := by decide +kernel
theorem dX9_ranked_13 : decode cX9_ranked 13 = .ok (.istore 4, 2) := by decide +kernel
theorem dX9_ranked_15 : decode cX9_ranked 15 = .ok (.iconst 0, 1) := by decide +kernel
theorem dX9_ranked_16 : decode cX9_ranked 16 = .ok (.istore 5, 2) := by decide +kernel
theorem dX9_ranked_18 : decode cX9_ranked 18 = .ok (.iload 5, 2) := by decide +kernel
theorem dX9_ranked_20 : decode cX9_ranked 20 = .ok (.iload_n 2, 1) := by decide +kernel
theorem dX9_ranked_21 : decode cX9_ranked 21 = .ok (.if_icmp .ge 29, 3) := by decide +kernel
theorem dX9_ranked_24 : decode cX9_ranked 24 = .ok (.iload 4, 2) := by decide +kernel
theorem dX9_ranked_26 : decode cX9_ranked 26 = .ok (.aload_n 0, 1) := by decide +kernel
theorem dX9_ranked_27 : decode cX9_ranked 27 = .ok (.iload 5, 2) := by decide +kernel
theorem dX9_ranked_29 : decode cX9_ranked 29 = .ok (.iload_n 3, 1) := by decide +kernel
theorem dX9_ranked_30 : decode cX9_ranked 30 = .ok (.invokevirtual 185, 3) := by decide +kernel
theorem dX9_ranked_33 : decode cX9_ranked 33 = .ok (.ifCond .eq 7, 3) := by decide +kernel
theorem dX9_ranked_36 : decode cX9_ranked 36 = .ok (.iconst 1, 1) := by decide +kernel
theorem dX9_ranked_37 : decode cX9_ranked 37 = .ok (.goto 4, 3) := by decide +kernel
theorem dX9_ranked_40 : decode cX9_ranked 40 = .ok (.iconst 0, 1) := by decide +kernel
theorem dX9_ranked_41 : decode cX9_ranked 41 = .ok (.iadd, 1) := by decide +kernel
theorem dX9_ranked_42 : decode cX9_ranked 42 = .ok (.istore 4, 2) := by decide +kernel
theorem dX9_ranked_44 : decode cX9_ranked 44 = .ok (.iinc 5 1, 3) := by decide +kernel
theorem dX9_ranked_47 : decode cX9_ranked 47 = .ok (.goto (-29), 3) := by decide +kernel
theorem dX9_ranked_50 : decode cX9_ranked 50 = .ok (.iload 4, 2) := by decide +kernel
theorem dX9_ranked_52 : decode cX9_ranked 52 = .ok (.iload_n 1, 1) := by decide +kernel
theorem dX9_ranked_53 : decode cX9_ranked 53 = .ok (.if_icmp .ne 5, 3) := by decide +kernel
theorem dX9_ranked_56 : decode cX9_ranked 56 = .ok (.iload_n 3, 1) := by decide +kernel
theorem dX9_ranked_57 : decode cX9_ranked 57 = .ok (.ireturn, 1) := by decide +kernel
theorem dX9_ranked_58 : decode cX9_ranked 58 = .ok (.iinc 3 1, 3) := by decide +kernel
theorem dX9_ranked_61 : decode cX9_ranked 61 = .ok (.goto (-54), 3) := by decide +kernel
theorem dX9_ranked_64 : decode cX9_ranked 64 = .ok (.bipush (-11), 2) := by decide +kernel
theorem dX9_ranked_66 : decode cX9_ranked 66 = .ok (.ireturn, 1) := by decide +kernel
theorem dX9_writes_0 : decode cX9_writes 0 = .ok (.aload_n 0, 1) := by decide +kernel
theorem dX9_writes_1 : decode cX9_writes 1 = .ok (.getfield 25, 3) := by decide +kernel
theorem dX9_writes_4 : decode cX9_writes 4 = .ok (.aload_n 0, 1) := by decide +kernel
theorem dX9_writes_5 : decode cX9_writes 5 = .ok (.getfield 188, 3) := by decide +kernel
theorem dX9_writes_8 : decode cX9_writes 8 = .ok (.iload_n 1, 1) := by decide +kernel
theorem dX9_writes_9 : decode cX9_writes 9 = .ok (.i2c, 1) := by decide +kernel
theorem dX9_writes_10 : decode cX9_writes 10 = .ok (.castore, 1) := by decide +kernel
theorem dX9_writes_11 : decode cX9_writes 11 = .ok (.aload_n 0, 1) := by decide +kernel
theorem dX9_writes_12 : decode cX9_writes 12 = .ok (.dup, 1) := by decide +kernel
theorem dX9_writes_13 : decode cX9_writes 13 = .ok (.getfield 188, 3) := by decide +kernel
theorem dX9_writes_16 : decode cX9_writes 16 = .ok (.iconst 1, 1) := by decide +kernel
theorem dX9_writes_17 : decode cX9_writes 17 = .ok (.iadd, 1) := by decide +kernel
theorem dX9_writes_18 : decode cX9_writes 18 = .ok (.putfield 188, 3) := by decide +kernel
theorem dX9_writes_21 : decode cX9_writes 21 = .ok (.return_, 1) := by decide +kernel
theorem dX9_tell_0 : decode cX9_tell 0 = .ok (.aload_n 0, 1) := by decide +kernel
theorem dX9_tell_1 : decode cX9_tell 1 = .ok (.iconst 0, 1) := by decide +kernel
theorem dX9_tell_2 : decode cX9_tell 2 = .ok (.putfield 188, 3) := by decide +kernel
theorem dX9_tell_5 : decode cX9_tell 5 = .ok (.iconst 0, 1) := by decide +kernel
theorem dX9_tell_6 : decode cX9_tell 6 = .ok (.istore_n 1, 1) := by decide +kernel
theorem dX9_tell_7 : decode cX9_tell 7 = .ok (.iload_n 1, 1) := by decide +kernel
theorem dX9_tell_8 : decode cX9_tell 8 = .ok (.aload_n 0, 1) := by decide +kernel
theorem dX9_tell_9 : decode cX9_tell 9 = .ok (.getfield 7, 3) := by decide +kernel
theorem dX9_tell_12 : decode cX9_tell 12 = .ok (.iconst 0, 1) := by decide +kernel
theorem dX9_tell_13 : decode cX9_tell 13 = .ok (.iaload, 1) := by decide +kernel
theorem dX9_tell_14 : decode cX9_tell 14 = .ok (.if_icmp .ge 63, 3) := by decide +kernel
theorem dX9_tell_17 : decode cX9_tell 17 = .ok (.iload_n 1, 1) := by decide +kernel
theorem dX9_tell_18 : decode cX9_tell 18 = .ok (.ifCond .le 17, 3) := by decide +kernel
theorem dX9_tell_21 : decode cX9_tell 21 = .ok (.aload_n 0, 1) := by decide +kernel
theorem dX9_tell_22 : decode cX9_tell 22 = .ok (.iload_n 1, 1) := by decide +kernel
theorem dX9_tell_23 : decode cX9_tell 23 = .ok (.invokevirtual 115, 3) := by decide +kernel
theorem dX9_tell_26 : decode cX9_tell 26 = .ok (.ifCond .eq 9, 3) := by decide +kernel
theorem dX9_tell_29 : decode cX9_tell 29 = .ok (.aload_n 0, 1) := by decide +kernel
theorem dX9_tell_30 : decode cX9_tell 30 = .ok (.bipush 124, 2) := by decide +kernel
theorem dX9_tell_32 : decode cX9_tell 32 = .ok (.invokevirtual 191, 3) := by decide +kernel
theorem dX9_tell_35 : decode cX9_tell 35 = .ok (.aload_n 0, 1) := by decide +kernel
theorem dX9_tell_36 : decode cX9_tell 36 = .ok (.aload_n 0, 1) := by decide +kernel
theorem dX9_tell_37 : decode cX9_tell 37 = .ok (.iload_n 1, 1) := by decide +kernel
theorem dX9_tell_38 : decode cX9_tell 38 = .ok (.invokevirtual 86, 3) := by decide +kernel
theorem dX9_tell_41 : decode cX9_tell 41 = .ok (.bipush 10, 2) := by decide +kernel
theorem dX9_tell_43 : decode cX9_tell 43 = .ok (.if_icmp .ge 14, 3) := by decide +kernel
theorem dX9_tell_46 : decode cX9_tell 46 = .ok (.bipush 48, 2) := by decide +kernel
theorem dX9_tell_48 : decode cX9_tell 48 = .ok (.aload_n 0, 1) := by decide +kernel
theorem dX9_tell_49 : decode cX9_tell 49 = .ok (.iload_n 1, 1) := by decide +kernel
theorem dX9_tell_50 : decode cX9_tell 50 = .ok (.invokevirtual 86, 3) := by decide +kernel
theorem dX9_tell_53 : decode cX9_tell 53 = .ok (.iadd, 1) := by decide +kernel
theorem dX9_tell_54 : decode cX9_tell 54 = .ok (.goto 14, 3) := by decide +kernel
theorem dX9_tell_57 : decode cX9_tell 57 = .ok (.bipush 97, 2) := by decide +kernel
theorem dX9_tell_59 : decode cX9_tell 59 = .ok (.aload_n 0, 1) := by decide +kernel
theorem dX9_tell_60 : decode cX9_tell 60 = .ok (.iload_n 1, 1) := by decide +kernel
theorem dX9_tell_61 : decode cX9_tell 61 = .ok (.invokevirtual 86, 3) := by decide +kernel
theorem dX9_tell_64 : decode cX9_tell 64 = .ok (.iadd, 1) := by decide +kernel
theorem dX9_tell_65 : decode cX9_tell 65 = .ok (.bipush 10, 2) := by decide +kernel
theorem dX9_tell_67 : decode cX9_tell 67 = .ok (.isub, 1) := by decide +kernel
theorem dX9_tell_68 : decode cX9_tell 68 = .ok (.invokevirtual 191, 3) := by decide +kernel
theorem dX9_tell_71 : decode cX9_tell 71 = .ok (.iinc 1 1, 3) := by decide +kernel
theorem dX9_tell_74 : decode cX9_tell 74 = .ok (.goto (-67), 3) := by decide +kernel
theorem dX9_tell_77 : decode cX9_tell 77 = .ok (.aload_n 0, 1) := by decide +kernel
theorem dX9_tell_78 : decode cX9_tell 78 = .ok (.getfield 188, 3) := by decide +kernel
theorem dX9_tell_81 : decode cX9_tell 81 = .ok (.ireturn, 1) := by decide +kernel
theorem dX9_tellRow_0 : decode cX9_tellRow 0 = .ok (.iload_n 1, 1) := by decide +kernel
theorem dX9_tellRow_1 : decode cX9_tellRow 1 = .ok (.invokestatic 124, 3) := by decide +kernel
theorem dX9_tellRow_4 : decode cX9_tellRow 4 = .ok (.ifCond .ne 6, 3) := by decide +kernel
theorem dX9_tellRow_7 : decode cX9_tellRow 7 = .ok (.bipush (-11), 2) := by decide +kernel
theorem dX9_tellRow_9 : decode cX9_tellRow 9 = .ok (.ireturn, 1) := by decide +kernel
theorem dX9_tellRow_10 : decode cX9_tellRow 10 = .ok (.aload_n 0, 1) := by decide +kernel
theorem dX9_tellRow_11 : decode cX9_tellRow 11 = .ok (.invokevirtual 127, 3) := by decide +kernel
theorem dX9_tellRow_14 : decode cX9_tellRow 14 = .ok (.aload_n 0, 1) := by decide +kernel
theorem dX9_tellRow_15 : decode cX9_tellRow 15 = .ok (.iconst 0, 1) := by decide +kernel
theorem dX9_tellRow_16 : decode cX9_tellRow 16 = .ok (.putfield 188, 3) := by decide +kernel
theorem dX9_tellRow_19 : decode cX9_tellRow 19 = .ok (.iconst 0, 1) := by decide +kernel
theorem dX9_tellRow_20 : decode cX9_tellRow 20 = .ok (.istore_n 2, 1) := by decide +kernel
theorem dX9_tellRow_21 : decode cX9_tellRow 21 = .ok (.iload_n 2, 1) := by decide +kernel
theorem dX9_tellRow_22 : decode cX9_tellRow 22 = .ok (.aload_n 0, 1) := by decide +kernel
theorem dX9_tellRow_23 : decode cX9_tellRow 23 = .ok (.getfield 7, 3) := by decide +kernel
theorem dX9_tellRow_26 : decode cX9_tellRow 26 = .ok (.iconst 0, 1) := by decide +kernel
theorem dX9_tellRow_27 : decode cX9_tellRow 27 = .ok (.iaload, 1) := by decide +kernel
theorem dX9_tellRow_28 : decode cX9_tellRow 28 = .ok (.if_icmp .ge 39, 3) := by decide +kernel
theorem dX9_tellRow_31 : decode cX9_tellRow 31 = .ok (.iload_n 2, 1) := by decide +kernel
theorem dX9_tellRow_32 : decode cX9_tellRow 32 = .ok (.ifCond .le 16, 3) := by decide +kernel
theorem dX9_tellRow_35 : decode cX9_tellRow 35 = .ok (.iload_n 2, 1) := by decide +kernel
theorem dX9_tellRow_36 : decode cX9_tellRow 36 = .ok (.bipush 8, 2) := by decide +kernel
theorem dX9_tellRow_38 : decode cX9_tellRow 38 = .ok (.irem, 1) := by decide +kernel
theorem dX9_tellRow_39 : decode cX9_tellRow 39 = .ok (.ifCond .ne 9, 3) := by decide +kernel
theorem dX9_tellRow_42 : decode cX9_tellRow 42 = .ok (.aload_n 0, 1) := by decide +kernel
theorem dX9_tellRow_43 : decode cX9_tellRow 43 = .ok (.bipush 32, 2) := by decide +kernel
theorem dX9_tellRow_45 : decode cX9_tellRow 45 = .ok (.invokevirtual 191, 3) := by decide +kernel
theorem dX9_tellRow_48 : decode cX9_tellRow 48 = .ok (.aload_n 0, 1) := by decide +kernel
theorem dX9_tellRow_49 : decode cX9_tellRow 49 = .ok (.bipush 48, 2) := by decide +kernel
theorem dX9_tellRow_51 : decode cX9_tellRow 51 = .ok (.aload_n 0, 1) := by decide +kernel
theorem dX9_tellRow_52 : decode cX9_tellRow 52 = .ok (.iload_n 1, 1) := by decide +kernel
theorem dX9_tellRow_53 : decode cX9_tellRow 53 = .ok (.iload_n 2, 1) := by decide +kernel
theorem dX9_tellRow_54 : decode cX9_tellRow 54 = .ok (.invokevirtual 130, 3) := by decide +kernel
theorem dX9_tellRow_57 : decode cX9_tellRow 57 = .ok (.iadd, 1) := by decide +kernel
theorem dX9_tellRow_58 : decode cX9_tellRow 58 = .ok (.invokevirtual 191, 3) := by decide +kernel
theorem dX9_tellRow_61 : decode cX9_tellRow 61 = .ok (.iinc 2 1, 3) := by decide +kernel
theorem dX9_tellRow_64 : decode cX9_tellRow 64 = .ok (.goto (-43), 3) := by decide +kernel
theorem dX9_tellRow_67 : decode cX9_tellRow 67 = .ok (.aload_n 0, 1) := by decide +kernel
theorem dX9_tellRow_68 : decode cX9_tellRow 68 = .ok (.getfield 188, 3) := by decide +kernel
theorem dX9_tellRow_71 : decode cX9_tellRow 71 = .ok (.ireturn, 1) := by decide +kernel
theorem dX9_character_0 : decode cX9_character 0 = .ok (.iload_n 1, 1) := by decide +kernel
theorem dX9_character_1 : decode cX9_character 1 = .ok (.iconst 0, 1) := by decide +kernel
theorem dX9_character_2 : decode cX9_character 2 = .ok (.aload_n 0, 1) := by decide +kernel
theorem dX9_character_3 : decode cX9_character 3 = .ok (.getfield 188, 3) := by decide +kernel
theorem dX9_character_6 : decode cX9_character 6 = .ok (.iconst 1, 1) := by decide +kernel
theorem dX9_character_7 : decode cX9_character 7 = .ok (.isub, 1) := by decide +kernel
theorem dX9_character_8 : decode cX9_character 8 = .ok (.invokestatic 60, 3) := by decide +kernel
theorem dX9_character_11 : decode cX9_character 11 = .ok (.ifCond .eq 12, 3) := by decide +kernel
theorem dX9_character_14 : decode cX9_character 14 = .ok (.aload_n 0, 1) := by decide +kernel
theorem dX9_character_15 : decode cX9_character 15 = .ok (.getfield 25, 3) := by decide +kernel
theorem dX9_character_18 : decode cX9_character 18 = .ok (.iload_n 1, 1) := by decide +kernel
theorem dX9_character_19 : decode cX9_character 19 = .ok (.caload, 1) := by decide +kernel
theorem dX9_character_20 : decode cX9_character 20 = .ok (.goto 5, 3) := by decide +kernel
theorem dX9_character_23 : decode cX9_character 23 = .ok (.bipush (-11), 2) := by decide +kernel
theorem dX9_character_25 : decode cX9_character 25 = .ok (.ireturn, 1) := by decide +kernel
theorem dX9_ones_0 : decode cX9_ones 0 = .ok (.aload_n 0, 1) := by decide +kernel
theorem dX9_ones_1 : decode cX9_ones 1 = .ok (.invokevirtual 127, 3) := by decide +kernel
theorem dX9_ones_4 : decode cX9_ones 4 = .ok (.iconst 0, 1) := by decide +kernel
theorem dX9_ones_5 : decode cX9_ones 5 = .ok (.istore_n 1, 1) := by decide +kernel
theorem dX9_ones_6 : decode cX9_ones 6 = .ok (.iconst 0, 1) := by decide +kernel
theorem dX9_ones_7 : decode cX9_ones 7 = .ok (.istore_n 2, 1) := by decide +kernel
theorem dX9_ones_8 : decode cX9_ones 8 = .ok (.iload_n 2, 1) := by decide +kernel
theorem dX9_ones_9 : decode cX9_ones 9 = .ok (.iconst 5, 1) := by decide +kernel
theorem dX9_ones_10 : decode cX9_ones 10 = .ok (.if_icmp .ge 24, 3) := by decide +kernel
theorem dX9_ones_13 : decode cX9_ones 13 = .ok (.iload_n 1, 1) := by decide +kernel
theorem dX9_ones_14 : decode cX9_ones 14 = .ok (.aload_n 0, 1) := by decide +kernel
theorem dX9_ones_15 : decode cX9_ones 15 = .ok (.iload_n 2, 1) := by decide +kernel
theorem dX9_ones_16 : decode cX9_ones 16 = .ok (.iconst 1, 1) := by decide +kernel
theorem dX9_ones_17 : decode cX9_ones 17 = .ok (.aload_n 0, 1) := by decide +kernel
theorem dX9_ones_18 : decode cX9_ones 18 = .ok (.getfield 7, 3) := by decide +kernel
theorem dX9_ones_21 : decode cX9_ones 21 = .ok (.iconst 0, 1) := by decide +kernel
theorem dX9_ones_22 : decode cX9_ones 22 = .ok (.iaload, 1) := by decide +kernel
theorem dX9_ones_23 : decode cX9_ones 23 = .ok (.invokevirtual 135, 3) := by decide +kernel
theorem dX9_ones_26 : decode cX9_ones 26 = .ok (.iadd, 1) := by decide +kernel
theorem dX9_ones_27 : decode cX9_ones 27 = .ok (.istore_n 1, 1) := by decide +kernel
theorem dX9_ones_28 : decode cX9_ones 28 = .ok (.iinc 2 1, 3) := by decide +kernel
theorem dX9_ones_31 : decode cX9_ones 31 = .ok (.goto (-23), 3) := by decide +kernel
theorem dX9_ones_34 : decode cX9_ones 34 = .ok (.iload_n 1, 1) := by decide +kernel
theorem dX9_ones_35 : decode cX9_ones 35 = .ok (.ireturn, 1) := by decide +kernel
theorem dX9_account_0 : decode cX9_account 0 = .ok (.iload_n 1, 1) := by decide +kernel
theorem dX9_account_1 : decode cX9_account 1 = .ok (.tableswitch 136 0 10 #[59, 66, 78, 85, 92, 97, 102, 114, 121, 126, 131], 59) := by decide +kernel
theorem dX9_account_60 : decode cX9_account 60 = .ok (.aload_n 0, 1) := by decide +kernel
theorem dX9_account_61 : decode cX9_account 61 = .ok (.getfield 7, 3) := by decide +kernel
theorem dX9_account_64 : decode cX9_account 64 = .ok (.iconst 0, 1) := by decide +kernel
theorem dX9_account_65 : decode cX9_account 65 = .ok (.iaload, 1) := by decide +kernel
theorem dX9_account_66 : decode cX9_account 66 = .ok (.ireturn, 1) := by decide +kernel
theorem dX9_account_67 : decode cX9_account 67 = .ok (.aload_n 0, 1) := by decide +kernel
theorem dX9_account_68 : decode cX9_account 68 = .ok (.iconst 0, 1) := by decide +kernel
theorem dX9_account_69 : decode cX9_account 69 = .ok (.aload_n 0, 1) := by decide +kernel
theorem dX9_account_70 : decode cX9_account 70 = .ok (.getfield 7, 3) := by decide +kernel
theorem dX9_account_73 : decode cX9_account 73 = .ok (.iconst 0, 1) := by decide +kernel
theorem dX9_account_74 : decode cX9_account 74 = .ok (.iaload, 1) := by decide +kernel
theorem dX9_account_75 : decode cX9_account 75 = .ok (.invokevirtual 170, 3) := by decide +kernel
theorem dX9_account_78 : decode cX9_account 78 = .ok (.ireturn, 1) := by decide +kernel
theorem dX9_account_79 : decode cX9_account 79 = .ok (.aload_n 0, 1) := by decide +kernel
theorem dX9_account_80 : decode cX9_account 80 = .ok (.getfield 7, 3) := by decide +kernel
theorem dX9_account_83 : decode cX9_account 83 = .ok (.iconst 1, 1) := by decide +kernel
theorem dX9_account_84 : decode cX9_account 84 = .ok (.iaload, 1) := by decide +kernel
theorem dX9_account_85 : decode cX9_account 85 = .ok (.ireturn, 1) := by decide +kernel
theorem dX9_account_86 : decode cX9_account 86 = .ok (.aload_n 0, 1) := by decide +kernel
theorem dX9_account_87 : decode cX9_account 87 = .ok (.getfield 7, 3) := by decide +kernel
theorem dX9_account_90 : decode cX9_account 90 = .ok (.iconst 2, 1) := by decide +kernel
theorem dX9_account_91 : decode cX9_account 91 = .ok (.iaload, 1) := by decide +kernel
theorem dX9_account_92 : decode cX9_account 92 = .ok (.ireturn, 1) := by decide +kernel
theorem dX9_account_93 : decode cX9_account 93 = .ok (.aload_n 0, 1) := by decide +kernel
theorem dX9_account_94 : decode cX9_account 94 = .ok (.invokevirtual 164, 3) := by decide +kernel
theorem dX9_account_97 : decode cX9_account 97 = .ok (.ireturn, 1) := by decide +kernel
theorem dX9_account_98 : decode cX9_account 98 = .ok (.aload_n 0, 1) := by decide +kernel
theorem dX9_account_99 : decode cX9_account 99 = .ok (.invokevirtual 104, 3) := by decide +kernel
theorem dX9_account_102 : decode cX9_account 102 = .ok (.ireturn, 1) := by decide +kernel
theorem dX9_account_103 : decode cX9_account 103 = .ok (.aload_n 0, 1) := by decide +kernel
theorem dX9_account_104 : decode cX9_account 104 = .ok (.iconst 0, 1) := by decide +kernel
theorem dX9_account_105 : decode cX9_account 105 = .ok (.aload_n 0, 1) := by decide +kernel
theorem dX9_account_106 : decode cX9_account 106 = .ok (.getfield 7, 3) := by decide +kernel
theorem dX9_account_109 : decode cX9_account 109 = .ok (.iconst 0, 1) := by decide +kernel
theorem dX9_account_110 : decode cX9_account 110 = .ok (.iaload, 1) := by decide +kernel
theorem dX9_account_111 : decode cX9_account 111 = .ok (.invokevirtual 176, 3) := by decide +kernel
theorem dX9_account_114 : decode cX9_account 114 = .ok (.ireturn, 1) := by decide +kernel
theorem dX9_account_115 : decode cX9_account 115 = .ok (.aload_n 0, 1) := by decide +kernel
theorem dX9_account_116 : decode cX9_account 116 = .ok (.getfield 7, 3) := by decide +kernel
theorem dX9_account_119 : decode cX9_account 119 = .ok (.iconst 3, 1) := by decide +kernel
theorem dX9_account_120 : decode cX9_account 120 = .ok (.iaload, 1) := by decide +kernel
theorem dX9_account_121 : decode cX9_account 121 = .ok (.ireturn, 1) := by decide +kernel
theorem dX9_account_122 : decode cX9_account 122 = .ok (.aload_n 0, 1) := by decide +kernel
theorem dX9_account_123 : decode cX9_account 123 = .ok (.invokevirtual 195, 3) := by decide +kernel
theorem dX9_account_126 : decode cX9_account 126 = .ok (.ireturn, 1) := by decide +kernel
theorem dX9_account_127 : decode cX9_account 127 = .ok (.aload_n 0, 1) := by decide +kernel
theorem dX9_account_128 : decode cX9_account 128 = .ok (.getfield 198, 3) := by decide +kernel
theorem dX9_account_131 : decode cX9_account 131 = .ok (.ireturn, 1) := by decide +kernel
theorem dX9_account_132 : decode cX9_account 132 = .ok (.aload_n 0, 1) := by decide +kernel
theorem dX9_account_133 : decode cX9_account 133 = .ok (.getfield 48, 3) := by decide +kernel
theorem dX9_account_136 : decode cX9_account 136 = .ok (.ireturn, 1) := by decide +kernel
theorem dX9_account_137 : decode cX9_account 137 = .ok (.bipush (-12), 2) := by decide +kernel
theorem dX9_account_139 : decode cX9_account 139 = .ok (.ireturn, 1) := by decide +kernel
theorem dX9_isBalanced_0 : decode cX9_isBalanced 0 = .ok (.aload_n 0, 1) := by decide +kernel
theorem dX9_isBalanced_1 : decode cX9_isBalanced 1 = .ok (.invokevirtual 127, 3) := by decide +kernel
theorem dX9_isBalanced_4 : decode cX9_isBalanced 4 = .ok (.aload_n 0, 1) := by decide +kernel
theorem dX9_isBalanced_5 : decode cX9_isBalanced 5 = .ok (.getfield 7, 3) := by decide +kernel
theorem dX9_isBalanced_8 : decode cX9_isBalanced 8 = .ok (.iconst 0, 1) := by decide +kernel
theorem dX9_isBalanced_9 : decode cX9_isBalanced 9 = .ok (.iaload, 1) := by decide +kernel
theorem dX9_isBalanced_10 : decode cX9_isBalanced 10 = .ok (.aload_n 0, 1) := by decide +kernel
theorem dX9_isBalanced_11 : decode cX9_isBalanced 11 = .ok (.getfield 7, 3) := by decide +kernel
theorem dX9_isBalanced_14 : decode cX9_isBalanced 14 = .ok (.iconst 1, 1) := by decide +kernel
theorem dX9_isBalanced_15 : decode cX9_isBalanced 15 = .ok (.iaload, 1) := by decide +kernel
theorem dX9_isBalanced_16 : decode cX9_isBalanced 16 = .ok (.aload_n 0, 1) := by decide +kernel
theorem dX9_isBalanced_17 : decode cX9_isBalanced 17 = .ok (.getfield 7, 3) := by decide +kernel
theorem dX9_isBalanced_20 : decode cX9_isBalanced 20 = .ok (.iconst 2, 1) := by decide +kernel
theorem dX9_isBalanced_21 : decode cX9_isBalanced 21 = .ok (.iaload, 1) := by decide +kernel
theorem dX9_isBalanced_22 : decode cX9_isBalanced 22 = .ok (.isub, 1) := by decide +kernel
theorem dX9_isBalanced_23 : decode cX9_isBalanced 23 = .ok (.if_icmp .ne 7, 3) := by decide +kernel
theorem dX9_isBalanced_26 : decode cX9_isBalanced 26 = .ok (.iconst 1, 1) := by decide +kernel
theorem dX9_isBalanced_27 : decode cX9_isBalanced 27 = .ok (.goto 4, 3) := by decide +kernel
theorem dX9_isBalanced_30 : decode cX9_isBalanced 30 = .ok (.iconst 0, 1) := by decide +kernel
theorem dX9_isBalanced_31 : decode cX9_isBalanced 31 = .ok (.istore_n 1, 1) := by decide +kernel
theorem dX9_isBalanced_32 : decode cX9_isBalanced 32 = .ok (.iconst 0, 1) := by decide +kernel
theorem dX9_isBalanced_33 : decode cX9_isBalanced 33 = .ok (.istore_n 2, 1) := by decide +kernel
theorem dX9_isBalanced_34 : decode cX9_isBalanced 34 = .ok (.iconst 0, 1) := by decide +kernel
theorem dX9_isBalanced_35 : decode cX9_isBalanced 35 = .ok (.istore_n 3, 1) := by decide +kernel
theorem dX9_isBalanced_36 : decode cX9_isBalanced 36 = .ok (.iload_n 3, 1) := by decide +kernel
theorem dX9_isBalanced_37 : decode cX9_isBalanced 37 = .ok (.aload_n 0, 1) := by decide +kernel
theorem dX9_isBalanced_38 : decode cX9_isBalanced 38 = .ok (.getfield 7, 3) := by decide +kernel
theorem dX9_isBalanced_41 : decode cX9_isBalanced 41 = .ok (.iconst 0, 1) := by decide +kernel
theorem dX9_isBalanced_42 : decode cX9_isBalanced 42 = .ok (.iaload, 1) := by decide +kernel
theorem dX9_isBalanced_43 : decode cX9_isBalanced 43 = .ok (.if_icmp .ge 59, 3) := by decide +kernel
theorem dX9_isBalanced_46 : decode cX9_isBalanced 46 = .ok (.iload_n 1, 1) := by decide +kernel
theorem dX9_isBalanced_47 : decode cX9_isBalanced 47 = .ok (.ifCond .eq 47, 3) := by decide +kernel
theorem dX9_isBalanced_50 : decode cX9_isBalanced 50 = .ok (.aload_n 0, 1) := by decide +kernel
theorem dX9_isBalanced_51 : decode cX9_isBalanced 51 = .ok (.iload_n 3, 1) := by decide +kernel
theorem dX9_isBalanced_52 : decode cX9_isBalanced 52 = .ok (.invokevirtual 142, 3) := by decide +kernel
theorem dX9_isBalanced_55 : decode cX9_isBalanced 55 = .ok (.aload_n 0, 1) := by decide +kernel
theorem dX9_isBalanced_56 : decode cX9_isBalanced 56 = .ok (.iload_n 3, 1) := by decide +kernel
theorem dX9_isBalanced_57 : decode cX9_isBalanced 57 = .ok (.invokevirtual 86, 3) := by decide +kernel
theorem dX9_isBalanced_60 : decode cX9_isBalanced 60 = .ok (.if_icmp .ne 34, 3) := by decide +kernel
theorem dX9_isBalanced_63 : decode cX9_isBalanced 63 = .ok (.aload_n 0, 1) := by decide +kernel
theorem dX9_isBalanced_64 : decode cX9_isBalanced 64 = .ok (.iconst 0, 1) := by decide +kernel
theorem dX9_isBalanced_65 : decode cX9_isBalanced 65 = .ok (.aload_n 0, 1) := by decide +kernel
theorem dX9_isBalanced_66 : decode cX9_isBalanced 66 = .ok (.getfield 7, 3) := by decide +kernel
theorem dX9_isBalanced_69 : decode cX9_isBalanced 69 = .ok (.iconst 0, 1) := by decide +kernel
theorem dX9_isBalanced_70 : decode cX9_isBalanced 70 = .ok (.iaload, 1) := by decide +kernel
theorem dX9_isBalanced_71 : decode cX9_isBalanced 71 = .ok (.iload_n 3, 1) := by decide +kernel
theorem dX9_isBalanced_72 : decode cX9_isBalanced 72 = .ok (.invokevirtual 155, 3) := by decide +kernel
theorem dX9_isBalanced_75 : decode cX9_isBalanced 75 = .ok (.aload_n 0, 1) := by decide +kernel
theorem dX9_isBalanced_76 : decode cX9_isBalanced 76 = .ok (.iconst 0, 1) := by decide +kernel
theorem dX9_isBalanced_77 : decode cX9_isBalanced 77 = .ok (.aload_n 0, 1) := by decide +kernel
theorem dX9_isBalanced_78 : decode cX9_isBalanced 78 = .ok (.getfield 7, 3) := by decide +kernel
theorem dX9_isBalanced_81 : decode cX9_isBalanced 81 = .ok (.iconst 0, 1) := by decide +kernel
theorem dX9_isBalanced_82 : decode cX9_isBalanced 82 = .ok (.iaload, 1) := by decide +kernel
theorem dX9_isBalanced_83 : decode cX9_isBalanced 83 = .ok (.iload_n 3, 1) := by decide +kernel
theorem dX9_isBalanced_84 : decode cX9_isBalanced 84 = .ok (.invokevirtual 161, 3) := by decide +kernel
theorem dX9_isBalanced_87 : decode cX9_isBalanced 87 = .ok (.if_icmp .ne 7, 3) := by decide +kernel
theorem dX9_isBalanced_90 : decode cX9_isBalanced 90 = .ok (.iconst 1, 1) := by decide +kernel
theorem dX9_isBalanced_91 : decode cX9_isBalanced 91 = .ok (.goto 4, 3) := by decide +kernel
theorem dX9_isBalanced_94 : decode cX9_isBalanced 94 = .ok (.iconst 0, 1) := by decide +kernel
theorem dX9_isBalanced_95 : decode cX9_isBalanced 95 = .ok (.istore_n 1, 1) := by decide +kernel
theorem dX9_isBalanced_96 : decode cX9_isBalanced 96 = .ok (.iinc 3 1, 3) := by decide +kernel
theorem dX9_isBalanced_99 : decode cX9_isBalanced 99 = .ok (.goto (-63), 3) := by decide +kernel
theorem dX9_isBalanced_102 : decode cX9_isBalanced 102 = .ok (.iconst 0, 1) := by decide +kernel
theorem dX9_isBalanced_103 : decode cX9_isBalanced 103 = .ok (.istore_n 3, 1) := by decide +kernel
theorem dX9_isBalanced_104 : decode cX9_isBalanced 104 = .ok (.iload_n 3, 1) := by decide +kernel
theorem dX9_isBalanced_105 : decode cX9_isBalanced 105 = .ok (.aload_n 0, 1) := by decide +kernel
theorem dX9_isBalanced_106 : decode cX9_isBalanced 106 = .ok (.invokevirtual 164, 3) := by decide +kernel
theorem dX9_isBalanced_109 : decode cX9_isBalanced 109 = .ok (.if_icmp .ge 17, 3) := by decide +kernel
theorem dX9_isBalanced_112 : decode cX9_isBalanced 112 = .ok (.iload_n 2, 1) := by decide +kernel
theorem dX9_isBalanced_113 : decode cX9_isBalanced 113 = .ok (.aload_n 0, 1) := by decide +kernel
theorem dX9_isBalanced_114 : decode cX9_isBalanced 114 = .ok (.iload_n 3, 1) := by decide +kernel
theorem dX9_isBalanced_115 : decode cX9_isBalanced 115 = .ok (.invokevirtual 182, 3) := by decide +kernel
theorem dX9_isBalanced_118 : decode cX9_isBalanced 118 = .ok (.iadd, 1) := by decide +kernel
theorem dX9_isBalanced_119 : decode cX9_isBalanced 119 = .ok (.istore_n 2, 1) := by decide +kernel
theorem dX9_isBalanced_120 : decode cX9_isBalanced 120 = .ok (.iinc 3 1, 3) := by decide +kernel
theorem dX9_isBalanced_123 : decode cX9_isBalanced 123 = .ok (.goto (-19), 3) := by decide +kernel
theorem dX9_isBalanced_126 : decode cX9_isBalanced 126 = .ok (.iload_n 1, 1) := by decide +kernel
theorem dX9_isBalanced_127 : decode cX9_isBalanced 127 = .ok (.ifCond .eq 17, 3) := by decide +kernel
theorem dX9_isBalanced_130 : decode cX9_isBalanced 130 = .ok (.iload_n 2, 1) := by decide +kernel
theorem dX9_isBalanced_131 : decode cX9_isBalanced 131 = .ok (.aload_n 0, 1) := by decide +kernel
theorem dX9_isBalanced_132 : decode cX9_isBalanced 132 = .ok (.getfield 7, 3) := by decide +kernel
theorem dX9_isBalanced_135 : decode cX9_isBalanced 135 = .ok (.iconst 0, 1) := by decide +kernel
theorem dX9_isBalanced_136 : decode cX9_isBalanced 136 = .ok (.iaload, 1) := by decide +kernel
theorem dX9_isBalanced_137 : decode cX9_isBalanced 137 = .ok (.if_icmp .ne 7, 3) := by decide +kernel
theorem dX9_isBalanced_140 : decode cX9_isBalanced 140 = .ok (.iconst 1, 1) := by decide +kernel
theorem dX9_isBalanced_141 : decode cX9_isBalanced 141 = .ok (.goto 4, 3) := by decide +kernel
theorem dX9_isBalanced_144 : decode cX9_isBalanced 144 = .ok (.iconst 0, 1) := by decide +kernel
theorem dX9_isBalanced_145 : decode cX9_isBalanced 145 = .ok (.ireturn, 1) := by decide +kernel
theorem dX9_meanWeight_0 : decode cX9_meanWeight 0 = .ok (.aload_n 0, 1) := by decide +kernel
theorem dX9_meanWeight_1 : decode cX9_meanWeight 1 = .ok (.getfield 7, 3) := by decide +kernel
theorem dX9_meanWeight_4 : decode cX9_meanWeight 4 = .ok (.iconst 0, 1) := by decide +kernel
theorem dX9_meanWeight_5 : decode cX9_meanWeight 5 = .ok (.iaload, 1) := by decide +kernel
theorem dX9_meanWeight_6 : decode cX9_meanWeight 6 = .ok (.ifCond .ne 7, 3) := by decide +kernel
theorem dX9_meanWeight_9 : decode cX9_meanWeight 9 = .ok (.dconst 0, 1) := by decide +kernel
theorem dX9_meanWeight_10 : decode cX9_meanWeight 10 = .ok (.goto 23, 3) := by decide +kernel
theorem dX9_meanWeight_13 : decode cX9_meanWeight 13 = .ok (.aload_n 0, 1) := by decide +kernel
theorem dX9_meanWeight_14 : decode cX9_meanWeight 14 = .ok (.iconst 0, 1) := by decide +kernel
theorem dX9_meanWeight_15 : decode cX9_meanWeight 15 = .ok (.aload_n 0, 1) := by decide +kernel
theorem dX9_meanWeight_16 : decode cX9_meanWeight 16 = .ok (.getfield 7, 3) := by decide +kernel
theorem dX9_meanWeight_19 : decode cX9_meanWeight 19 = .ok (.iconst 0, 1) := by decide +kernel
theorem dX9_meanWeight_20 : decode cX9_meanWeight 20 = .ok (.iaload, 1) := by decide +kernel
theorem dX9_meanWeight_21 : decode cX9_meanWeight 21 = .ok (.invokevirtual 170, 3) := by decide +kernel
theorem dX9_meanWeight_24 : decode cX9_meanWeight 24 = .ok (.i2d, 1) := by decide +kernel
theorem dX9_meanWeight_25 : decode cX9_meanWeight 25 = .ok (.aload_n 0, 1) := by decide +kernel
theorem dX9_meanWeight_26 : decode cX9_meanWeight 26 = .ok (.getfield 7, 3) := by decide +kernel
theorem dX9_meanWeight_29 : decode cX9_meanWeight 29 = .ok (.iconst 0, 1) := by decide +kernel
theorem dX9_meanWeight_30 : decode cX9_meanWeight 30 = .ok (.iaload, 1) := by decide +kernel
theorem dX9_meanWeight_31 : decode cX9_meanWeight 31 = .ok (.i2d, 1) := by decide +kernel
theorem dX9_meanWeight_32 : decode cX9_meanWeight 32 = .ok (.ddiv, 1) := by decide +kernel
theorem dX9_meanWeight_33 : decode cX9_meanWeight 33 = .ok (.dreturn, 1) := by decide +kernel
theorem dX9_oneShare_0 : decode cX9_oneShare 0 = .ok (.iload_n 1, 1) := by decide +kernel
theorem dX9_oneShare_1 : decode cX9_oneShare 1 = .ok (.invokestatic 124, 3) := by decide +kernel
theorem dX9_oneShare_4 : decode cX9_oneShare 4 = .ok (.ifCond .eq 12, 3) := by decide +kernel
theorem dX9_oneShare_7 : decode cX9_oneShare 7 = .ok (.aload_n 0, 1) := by decide +kernel
theorem dX9_oneShare_8 : decode cX9_oneShare 8 = .ok (.getfield 7, 3) := by decide +kernel
theorem dX9_oneShare_11 : decode cX9_oneShare 11 = .ok (.iconst 0, 1) := by decide +kernel
theorem dX9_oneShare_12 : decode cX9_oneShare 12 = .ok (.iaload, 1) := by decide +kernel
theorem dX9_oneShare_13 : decode cX9_oneShare 13 = .ok (.ifCond .ne 5, 3) := by decide +kernel
theorem dX9_oneShare_16 : decode cX9_oneShare 16 = .ok (.fconst 0, 1) := by decide +kernel
theorem dX9_oneShare_17 : decode cX9_oneShare 17 = .ok (.freturn, 1) := by decide +kernel
theorem dX9_oneShare_18 : decode cX9_oneShare 18 = .ok (.aload_n 0, 1) := by decide +kernel
theorem dX9_oneShare_19 : decode cX9_oneShare 19 = .ok (.invokevirtual 127, 3) := by decide +kernel
theorem dX9_oneShare_22 : decode cX9_oneShare 22 = .ok (.aload_n 0, 1) := by decide +kernel
theorem dX9_oneShare_23 : decode cX9_oneShare 23 = .ok (.iload_n 1, 1) := by decide +kernel
theorem dX9_oneShare_24 : decode cX9_oneShare 24 = .ok (.iconst 1, 1) := by decide +kernel
theorem dX9_oneShare_25 : decode cX9_oneShare 25 = .ok (.aload_n 0, 1) := by decide +kernel
theorem dX9_oneShare_26 : decode cX9_oneShare 26 = .ok (.getfield 7, 3) := by decide +kernel
theorem dX9_oneShare_29 : decode cX9_oneShare 29 = .ok (.iconst 0, 1) := by decide +kernel
theorem dX9_oneShare_30 : decode cX9_oneShare 30 = .ok (.iaload, 1) := by decide +kernel
theorem dX9_oneShare_31 : decode cX9_oneShare 31 = .ok (.invokevirtual 135, 3) := by decide +kernel
theorem dX9_oneShare_34 : decode cX9_oneShare 34 = .ok (.i2f, 1) := by decide +kernel
theorem dX9_oneShare_35 : decode cX9_oneShare 35 = .ok (.aload_n 0, 1) := by decide +kernel
theorem dX9_oneShare_36 : decode cX9_oneShare 36 = .ok (.getfield 7, 3) := by decide +kernel
theorem dX9_oneShare_39 : decode cX9_oneShare 39 = .ok (.iconst 0, 1) := by decide +kernel
theorem dX9_oneShare_40 : decode cX9_oneShare 40 = .ok (.iaload, 1) := by decide +kernel
theorem dX9_oneShare_41 : decode cX9_oneShare 41 = .ok (.i2f, 1) := by decide +kernel
theorem dX9_oneShare_42 : decode cX9_oneShare 42 = .ok (.fdiv, 1) := by decide +kernel
theorem dX9_oneShare_43 : decode cX9_oneShare 43 = .ok (.freturn, 1) := by decide +kernel
theorem dX9_append_0 : decode cX9_append 0 = .ok (.iload_n 1, 1) := by decide +kernel
theorem dX9_append_1 : decode cX9_append 1 = .ok (.bipush 32, 2) := by decide +kernel
theorem dX9_append_3 : decode cX9_append 3 = .ok (.bipush 126, 2) := by decide +kernel
theorem dX9_append_5 : decode cX9_append 5 = .ok (.invokestatic 60, 3) := by decide +kernel
theorem dX9_append_8 : decode cX9_append 8 = .ok (.ifCond .ne 6, 3) := by decide +kernel
theorem dX9_append_11 : decode cX9_append 11 = .ok (.bipush (-12), 2) := by decide +kernel
theorem dX9_append_13 : decode cX9_append 13 = .ok (.ireturn, 1) := by decide +kernel
theorem dX9_append_14 : decode cX9_append 14 = .ok (.aload_n 0, 1) := by decide +kernel
theorem dX9_append_15 : decode cX9_append 15 = .ok (.getfield 198, 3) := by decide +kernel
theorem dX9_append_18 : decode cX9_append 18 = .ok (.bipush 60, 2) := by decide +kernel
theorem dX9_append_20 : decode cX9_append 20 = .ok (.if_icmp .ne 6, 3) := by decide +kernel
theorem dX9_append_23 : decode cX9_append 23 = .ok (.bipush (-13), 2) := by decide +kernel
theorem dX9_append_25 : decode cX9_append 25 = .ok (.ireturn, 1) := by decide +kernel
theorem dX9_append_26 : decode cX9_append 26 = .ok (.aload_n 0, 1) := by decide +kernel
theorem dX9_append_27 : decode cX9_append 27 = .ok (.getfield 29, 3) := by decide +kernel
theorem dX9_append_30 : decode cX9_append 30 = .ok (.aload_n 0, 1) := by decide +kernel
theorem dX9_append_31 : decode cX9_append 31 = .ok (.getfield 198, 3) := by decide +kernel
theorem dX9_append_34 : decode cX9_append 34 = .ok (.iload_n 1, 1) := by decide +kernel
theorem dX9_append_35 : decode cX9_append 35 = .ok (.i2c, 1) := by decide +kernel
theorem dX9_append_36 : decode cX9_append 36 = .ok (.castore, 1) := by decide +kernel
theorem dX9_append_37 : decode cX9_append 37 = .ok (.aload_n 0, 1) := by decide +kernel
theorem dX9_append_38 : decode cX9_append 38 = .ok (.dup, 1) := by decide +kernel
theorem dX9_append_39 : decode cX9_append 39 = .ok (.getfield 198, 3) := by decide +kernel
theorem dX9_append_42 : decode cX9_append 42 = .ok (.iconst 1, 1) := by decide +kernel
theorem dX9_append_43 : decode cX9_append 43 = .ok (.iadd, 1) := by decide +kernel
theorem dX9_append_44 : decode cX9_append 44 = .ok (.putfield 198, 3) := by decide +kernel
theorem dX9_append_47 : decode cX9_append 47 = .ok (.aload_n 0, 1) := by decide +kernel
theorem dX9_append_48 : decode cX9_append 48 = .ok (.getfield 198, 3) := by decide +kernel
theorem dX9_append_51 : decode cX9_append 51 = .ok (.ireturn, 1) := by decide +kernel
theorem dX9_sign_0 : decode cX9_sign 0 = .ok (.aload_n 0, 1) := by decide +kernel
theorem dX9_sign_1 : decode cX9_sign 1 = .ok (.getfield 201, 3) := by decide +kernel
theorem dX9_sign_4 : decode cX9_sign 4 = .ok (.aload_n 0, 1) := by decide +kernel
theorem dX9_sign_5 : decode cX9_sign 5 = .ok (.getfield 198, 3) := by decide +kernel
theorem dX9_sign_8 : decode cX9_sign 8 = .ok (.if_icmp .ge 15, 3) := by decide +kernel
theorem dX9_sign_11 : decode cX9_sign 11 = .ok (.aload_n 0, 1) := by decide +kernel
theorem dX9_sign_12 : decode cX9_sign 12 = .ok (.getfield 29, 3) := by decide +kernel
theorem dX9_sign_15 : decode cX9_sign 15 = .ok (.aload_n 0, 1) := by decide +kernel
theorem dX9_sign_16 : decode cX9_sign 16 = .ok (.getfield 201, 3) := by decide +kernel
theorem dX9_sign_19 : decode cX9_sign 19 = .ok (.caload, 1) := by decide +kernel
theorem dX9_sign_20 : decode cX9_sign 20 = .ok (.goto 4, 3) := by decide +kernel
theorem dX9_sign_23 : decode cX9_sign 23 = .ok (.iconst (-1), 1) := by decide +kernel
theorem dX9_sign_24 : decode cX9_sign 24 = .ok (.ireturn, 1) := by decide +kernel
theorem dX9_reads_0 : decode cX9_reads 0 = .ok (.aload_n 0, 1) := by decide +kernel
theorem dX9_reads_1 : decode cX9_reads 1 = .ok (.invokevirtual 204, 3) := by decide +kernel
theorem dX9_reads_4 : decode cX9_reads 4 = .ok (.iload_n 1, 1) := by decide +kernel
theorem dX9_reads_5 : decode cX9_reads 5 = .ok (.if_icmp .eq 5, 3) := by decide +kernel
theorem dX9_reads_8 : decode cX9_reads 8 = .ok (.iconst 0, 1) := by decide +kernel
theorem dX9_reads_9 : decode cX9_reads 9 = .ok (.ireturn, 1) := by decide +kernel
theorem dX9_reads_10 : decode cX9_reads 10 = .ok (.aload_n 0, 1) := by decide +kernel
theorem dX9_reads_11 : decode cX9_reads 11 = .ok (.dup, 1) := by decide +kernel
theorem dX9_reads_12 : decode cX9_reads 12 = .ok (.getfield 201, 3) := by decide +kernel
theorem dX9_reads_15 : decode cX9_reads 15 = .ok (.iconst 1, 1) := by decide +kernel
theorem dX9_reads_16 : decode cX9_reads 16 = .ok (.iadd, 1) := by decide +kernel
theorem dX9_reads_17 : decode cX9_reads 17 = .ok (.putfield 201, 3) := by decide +kernel
theorem dX9_reads_20 : decode cX9_reads 20 = .ok (.iconst 1, 1) := by decide +kernel
theorem dX9_reads_21 : decode cX9_reads 21 = .ok (.ireturn, 1) := by decide +kernel
theorem dX9_readsDigit_0 : decode cX9_readsDigit 0 = .ok (.aload_n 0, 1) := by decide +kernel
theorem dX9_readsDigit_1 : decode cX9_readsDigit 1 = .ok (.invokevirtual 204, 3) := by decide +kernel
theorem dX9_readsDigit_4 : decode cX9_readsDigit 4 = .ok (.bipush 48, 2) := by decide +kernel
theorem dX9_readsDigit_6 : decode cX9_readsDigit 6 = .ok (.bipush 57, 2) := by decide +kernel
theorem dX9_readsDigit_8 : decode cX9_readsDigit 8 = .ok (.invokestatic 60, 3) := by decide +kernel
theorem dX9_readsDigit_11 : decode cX9_readsDigit 11 = .ok (.ifCond .ne 5, 3) := by decide +kernel
theorem dX9_readsDigit_14 : decode cX9_readsDigit 14 = .ok (.iconst 0, 1) := by decide +kernel
theorem dX9_readsDigit_15 : decode cX9_readsDigit 15 = .ok (.ireturn, 1) := by decide +kernel
theorem dX9_readsDigit_16 : decode cX9_readsDigit 16 = .ok (.aload_n 0, 1) := by decide +kernel
theorem dX9_readsDigit_17 : decode cX9_readsDigit 17 = .ok (.getfield 32, 3) := by decide +kernel
theorem dX9_readsDigit_20 : decode cX9_readsDigit 20 = .ok (.iload_n 1, 1) := by decide +kernel
theorem dX9_readsDigit_21 : decode cX9_readsDigit 21 = .ok (.aload_n 0, 1) := by decide +kernel
theorem dX9_readsDigit_22 : decode cX9_readsDigit 22 = .ok (.invokevirtual 204, 3) := by decide +kernel
theorem dX9_readsDigit_25 : decode cX9_readsDigit 25 = .ok (.bipush 48, 2) := by decide +kernel
theorem dX9_readsDigit_27 : decode cX9_readsDigit 27 = .ok (.isub, 1) := by decide +kernel
theorem dX9_readsDigit_28 : decode cX9_readsDigit 28 = .ok (.iastore, 1) := by decide +kernel
theorem dX9_readsDigit_29 : decode cX9_readsDigit 29 = .ok (.aload_n 0, 1) := by decide +kernel
theorem dX9_readsDigit_30 : decode cX9_readsDigit 30 = .ok (.dup, 1) := by decide +kernel
theorem dX9_readsDigit_31 : decode cX9_readsDigit 31 = .ok (.getfield 201, 3) := by decide +kernel
theorem dX9_readsDigit_34 : decode cX9_readsDigit 34 = .ok (.iconst 1, 1) := by decide +kernel
theorem dX9_readsDigit_35 : decode cX9_readsDigit 35 = .ok (.iadd, 1) := by decide +kernel
theorem dX9_readsDigit_36 : decode cX9_readsDigit 36 = .ok (.putfield 201, 3) := by decide +kernel
theorem dX9_readsDigit_39 : decode cX9_readsDigit 39 = .ok (.iconst 1, 1) := by decide +kernel
theorem dX9_readsDigit_40 : decode cX9_readsDigit 40 = .ok (.ireturn, 1) := by decide +kernel
theorem dX9_readsNumber_0 : decode cX9_readsNumber 0 = .ok (.aload_n 0, 1) := by decide +kernel
theorem dX9_readsNumber_1 : decode cX9_readsNumber 1 = .ok (.bipush 32, 2) := by decide +kernel
theorem dX9_readsNumber_3 : decode cX9_readsNumber 3 = .ok (.invokevirtual 207, 3) := by decide +kernel
theorem dX9_readsNumber_6 : decode cX9_readsNumber 6 = .ok (.ifCond .eq 11, 3) := by decide +kernel
theorem dX9_readsNumber_9 : decode cX9_readsNumber 9 = .ok (.aload_n 0, 1) := by decide +kernel
theorem dX9_readsNumber_10 : decode cX9_readsNumber 10 = .ok (.iload_n 1, 1) := by decide +kernel
theorem dX9_readsNumber_11 : decode cX9_readsNumber 11 = .ok (.invokevirtual 210, 3) := by decide +kernel
theorem dX9_readsNumber_14 : decode cX9_readsNumber 14 = .ok (.ifCond .ne 5, 3) := by decide +kernel
theorem dX9_readsNumber_17 : decode cX9_readsNumber 17 = .ok (.iconst 0, 1) := by decide +kernel
theorem dX9_readsNumber_18 : decode cX9_readsNumber 18 = .ok (.ireturn, 1) := by decide +kernel
theorem dX9_readsNumber_19 : decode cX9_readsNumber 19 = .ok (.aload_n 0, 1) := by decide +kernel
theorem dX9_readsNumber_20 : decode cX9_readsNumber 20 = .ok (.getfield 32, 3) := by decide +kernel
theorem dX9_readsNumber_23 : decode cX9_readsNumber 23 = .ok (.iload_n 1, 1) := by decide +kernel
theorem dX9_readsNumber_24 : decode cX9_readsNumber 24 = .ok (.iaload, 1) := by decide +kernel
theorem dX9_readsNumber_25 : decode cX9_readsNumber 25 = .ok (.istore_n 2, 1) := by decide +kernel
theorem dX9_readsNumber_26 : decode cX9_readsNumber 26 = .ok (.aload_n 0, 1) := by decide +kernel
theorem dX9_readsNumber_27 : decode cX9_readsNumber 27 = .ok (.iload_n 1, 1) := by decide +kernel
theorem dX9_readsNumber_28 : decode cX9_readsNumber 28 = .ok (.invokevirtual 210, 3) := by decide +kernel
theorem dX9_readsNumber_31 : decode cX9_readsNumber 31 = .ok (.ifCond .eq 16, 3) := by decide +kernel
theorem dX9_readsNumber_34 : decode cX9_readsNumber 34 = .ok (.aload_n 0, 1) := by decide +kernel
theorem dX9_readsNumber_35 : decode cX9_readsNumber 35 = .ok (.getfield 32, 3) := by decide +kernel
theorem dX9_readsNumber_38 : decode cX9_readsNumber 38 = .ok (.iload_n 1, 1) := by decide +kernel
theorem dX9_readsNumber_39 : decode cX9_readsNumber 39 = .ok (.dup2, 1) := by decide +kernel
theorem dX9_readsNumber_40 : decode cX9_readsNumber 40 = .ok (.iaload, 1) := by decide +kernel
theorem dX9_readsNumber_41 : decode cX9_readsNumber 41 = .ok (.bipush 10, 2) := by decide +kernel
theorem dX9_readsNumber_43 : decode cX9_readsNumber 43 = .ok (.iload_n 2, 1) := by decide +kernel
theorem dX9_readsNumber_44 : decode cX9_readsNumber 44 = .ok (.imul, 1) := by decide +kernel
theorem dX9_readsNumber_45 : decode cX9_readsNumber 45 = .ok (.iadd, 1) := by decide +kernel
theorem dX9_readsNumber_46 : decode cX9_readsNumber 46 = .ok (.iastore, 1) := by decide +kernel
theorem dX9_readsNumber_47 : decode cX9_readsNumber 47 = .ok (.iconst 1, 1) := by decide +kernel
theorem dX9_readsNumber_48 : decode cX9_readsNumber 48 = .ok (.ireturn, 1) := by decide +kernel
theorem dX9_readsOrder_0 : decode cX9_readsOrder 0 = .ok (.aload_n 0, 1) := by decide +kernel
theorem dX9_readsOrder_1 : decode cX9_readsOrder 1 = .ok (.aload_n 0, 1) := by decide +kernel
theorem dX9_readsOrder_2 : decode cX9_readsOrder 2 = .ok (.invokevirtual 204, 3) := by decide +kernel
theorem dX9_readsOrder_5 : decode cX9_readsOrder 5 = .ok (.putfield 213, 3) := by decide +kernel
theorem dX9_readsOrder_8 : decode cX9_readsOrder 8 = .ok (.aload_n 0, 1) := by decide +kernel
theorem dX9_readsOrder_9 : decode cX9_readsOrder 9 = .ok (.dup, 1) := by decide +kernel
theorem dX9_readsOrder_10 : decode cX9_readsOrder 10 = .ok (.getfield 201, 3) := by decide +kernel
theorem dX9_readsOrder_13 : decode cX9_readsOrder 13 = .ok (.iconst 1, 1) := by decide +kernel
theorem dX9_readsOrder_14 : decode cX9_readsOrder 14 = .ok (.iadd, 1) := by decide +kernel
theorem dX9_readsOrder_15 : decode cX9_readsOrder 15 = .ok (.putfield 201, 3) := by decide +kernel
theorem dX9_readsOrder_18 : decode cX9_readsOrder 18 = .ok (.aload_n 0, 1) := by decide +kernel
theorem dX9_readsOrder_19 : decode cX9_readsOrder 19 = .ok (.getfield 213, 3) := by decide +kernel
theorem dX9_readsOrder_22 : decode cX9_readsOrder 22 = .ok (.tableswitch 309 99 115 #[259, 309, 309, 309, 309, 309, 114, 309, 309, 309, 218, 309, 145, 82, 309, 309, 177], 82) := by decide +kernel
theorem dX9_readsOrder_104 : decode cX9_readsOrder 104 = .ok (.aload_n 0, 1) := by decide +kernel
theorem dX9_readsOrder_105 : decode cX9_readsOrder 105 = .ok (.bipush 117, 2) := by decide +kernel
theorem dX9_readsOrder_107 : decode cX9_readsOrder 107 = .ok (.invokevirtual 207, 3) := by decide +kernel
theorem dX9_readsOrder_110 : decode cX9_readsOrder 110 = .ok (.ifCond .eq 24, 3) := by decide +kernel
theorem dX9_readsOrder_113 : decode cX9_readsOrder 113 = .ok (.aload_n 0, 1) := by decide +kernel
theorem dX9_readsOrder_114 : decode cX9_readsOrder 114 = .ok (.bipush 116, 2) := by decide +kernel
theorem dX9_readsOrder_116 : decode cX9_readsOrder 116 = .ok (.invokevirtual 207, 3) := by decide +kernel
theorem dX9_readsOrder_119 : decode cX9_readsOrder 119 = .ok (.ifCond .eq 15, 3) := by decide +kernel
theorem dX9_readsOrder_122 : decode cX9_readsOrder 122 = .ok (.aload_n 0, 1) := by decide +kernel
theorem dX9_readsOrder_123 : decode cX9_readsOrder 123 = .ok (.iconst 0, 1) := by decide +kernel
theorem dX9_readsOrder_124 : decode cX9_readsOrder 124 = .ok (.invokevirtual 216, 3) := by decide +kernel
theorem dX9_readsOrder_127 : decode cX9_readsOrder 127 = .ok (.ifCond .eq 7, 3) := by decide +kernel
theorem dX9_readsOrder_130 : decode cX9_readsOrder 130 = .ok (.iconst 1, 1) := by decide +kernel
theorem dX9_readsOrder_131 : decode cX9_readsOrder 131 = .ok (.goto 4, 3) := by decide +kernel
theorem dX9_readsOrder_134 : decode cX9_readsOrder 134 = .ok (.iconst 0, 1) := by decide +kernel
theorem dX9_readsOrder_135 : decode cX9_readsOrder 135 = .ok (.ireturn, 1) := by decide +kernel
theorem dX9_readsOrder_136 : decode cX9_readsOrder 136 = .ok (.aload_n 0, 1) := by decide +kernel
theorem dX9_readsOrder_137 : decode cX9_readsOrder 137 = .ok (.bipush 110, 2) := by decide +kernel
theorem dX9_readsOrder_139 : decode cX9_readsOrder 139 = .ok (.invokevirtual 207, 3) := by decide +kernel
theorem dX9_readsOrder_142 : decode cX9_readsOrder 142 = .ok (.ifCond .eq 23, 3) := by decide +kernel
theorem dX9_readsOrder_145 : decode cX9_readsOrder 145 = .ok (.aload_n 0, 1) := by decide +kernel
theorem dX9_readsOrder_146 : decode cX9_readsOrder 146 = .ok (.iconst 0, 1) := by decide +kernel
theorem dX9_readsOrder_147 : decode cX9_readsOrder 147 = .ok (.invokevirtual 216, 3) := by decide +kernel
theorem dX9_readsOrder_150 : decode cX9_readsOrder 150 = .ok (.ifCond .eq 15, 3) := by decide +kernel
theorem dX9_readsOrder_153 : decode cX9_readsOrder 153 = .ok (.aload_n 0, 1) := by decide +kernel
theorem dX9_readsOrder_154 : decode cX9_readsOrder 154 = .ok (.iconst 1, 1) := by decide +kernel
theorem dX9_readsOrder_155 : decode cX9_readsOrder 155 = .ok (.invokevirtual 216, 3) := by decide +kernel
theorem dX9_readsOrder_158 : decode cX9_readsOrder 158 = .ok (.ifCond .eq 7, 3) := by decide +kernel
theorem dX9_readsOrder_161 : decode cX9_readsOrder 161 = .ok (.iconst 1, 1) := by decide +kernel
theorem dX9_readsOrder_162 : decode cX9_readsOrder 162 = .ok (.goto 4, 3) := by decide +kernel
theorem dX9_readsOrder_165 : decode cX9_readsOrder 165 = .ok (.iconst 0, 1) := by decide +kernel
theorem dX9_readsOrder_166 : decode cX9_readsOrder 166 = .ok (.ireturn, 1) := by decide +kernel
theorem dX9_readsOrder_167 : decode cX9_readsOrder 167 = .ok (.aload_n 0, 1) := by decide +kernel
theorem dX9_readsOrder_168 : decode cX9_readsOrder 168 = .ok (.bipush 117, 2) := by decide +kernel
theorem dX9_readsOrder_170 : decode cX9_readsOrder 170 = .ok (.invokevirtual 207, 3) := by decide +kernel
theorem dX9_readsOrder_173 : decode cX9_readsOrder 173 = .ok (.ifCond .eq 24, 3) := by decide +kernel
theorem dX9_readsOrder_176 : decode cX9_readsOrder 176 = .ok (.aload_n 0, 1) := by decide +kernel
theorem dX9_readsOrder_177 : decode cX9_readsOrder 177 = .ok (.bipush 116, 2) := by decide +kernel
theorem dX9_readsOrder_179 : decode cX9_readsOrder 179 = .ok (.invokevirtual 207, 3) := by decide +kernel
theorem dX9_readsOrder_182 : decode cX9_readsOrder 182 = .ok (.ifCond .eq 15, 3) := by decide +kernel
theorem dX9_readsOrder_185 : decode cX9_readsOrder 185 = .ok (.aload_n 0, 1) := by decide +kernel
theorem dX9_readsOrder_186 : decode cX9_readsOrder 186 = .ok (.iconst 0, 1) := by decide +kernel
theorem dX9_readsOrder_187 : decode cX9_readsOrder 187 = .ok (.invokevirtual 216, 3) := by decide +kernel
theorem dX9_readsOrder_190 : decode cX9_readsOrder 190 = .ok (.ifCond .eq 7, 3) := by decide +kernel
theorem dX9_readsOrder_193 : decode cX9_readsOrder 193 = .ok (.iconst 1, 1) := by decide +kernel
theorem dX9_readsOrder_194 : decode cX9_readsOrder 194 = .ok (.goto 4, 3) := by decide +kernel
theorem dX9_readsOrder_197 : decode cX9_readsOrder 197 = .ok (.iconst 0, 1) := by decide +kernel
theorem dX9_readsOrder_198 : decode cX9_readsOrder 198 = .ok (.ireturn, 1) := by decide +kernel
theorem dX9_readsOrder_199 : decode cX9_readsOrder 199 = .ok (.aload_n 0, 1) := by decide +kernel
theorem dX9_readsOrder_200 : decode cX9_readsOrder 200 = .ok (.bipush 119, 2) := by decide +kernel
theorem dX9_readsOrder_202 : decode cX9_readsOrder 202 = .ok (.invokevirtual 207, 3) := by decide +kernel
theorem dX9_readsOrder_205 : decode cX9_readsOrder 205 = .ok (.ifCond .eq 33, 3) := by decide +kernel
theorem dX9_readsOrder_208 : decode cX9_readsOrder 208 = .ok (.aload_n 0, 1) := by decide +kernel
theorem dX9_readsOrder_209 : decode cX9_readsOrder 209 = .ok (.bipush 97, 2) := by decide +kernel
theorem dX9_readsOrder_211 : decode cX9_readsOrder 211 = .ok (.invokevirtual 207, 3) := by decide +kernel
theorem dX9_readsOrder_214 : decode cX9_readsOrder 214 = .ok (.ifCond .eq 24, 3) := by decide +kernel
theorem dX9_readsOrder_217 : decode cX9_readsOrder 217 = .ok (.aload_n 0, 1) := by decide +kernel
theorem dX9_readsOrder_218 : decode cX9_readsOrder 218 = .ok (.bipush 112, 2) := by decide +kernel
theorem dX9_readsOrder_220 : decode cX9_readsOrder 220 = .ok (.invokevirtual 207, 3) := by decide +kernel
theorem dX9_readsOrder_223 : decode cX9_readsOrder 223 = .ok (.ifCond .eq 15, 3) := by decide +kernel
theorem dX9_readsOrder_226 : decode cX9_readsOrder 226 = .ok (.aload_n 0, 1) := by decide +kernel
theorem dX9_readsOrder_227 : decode cX9_readsOrder 227 = .ok (.iconst 0, 1) := by decide +kernel
theorem dX9_readsOrder_228 : decode cX9_readsOrder 228 = .ok (.invokevirtual 216, 3) := by decide +kernel
theorem dX9_readsOrder_231 : decode cX9_readsOrder 231 = .ok (.ifCond .eq 7, 3) := by decide +kernel
theorem dX9_readsOrder_234 : decode cX9_readsOrder 234 = .ok (.iconst 1, 1) := by decide +kernel
theorem dX9_readsOrder_235 : decode cX9_readsOrder 235 = .ok (.goto 4, 3) := by decide +kernel
theorem dX9_readsOrder_238 : decode cX9_readsOrder 238 = .ok (.iconst 0, 1) := by decide +kernel
theorem dX9_readsOrder_239 : decode cX9_readsOrder 239 = .ok (.ireturn, 1) := by decide +kernel
theorem dX9_readsOrder_240 : decode cX9_readsOrder 240 = .ok (.aload_n 0, 1) := by decide +kernel
theorem dX9_readsOrder_241 : decode cX9_readsOrder 241 = .ok (.bipush 97, 2) := by decide +kernel
theorem dX9_readsOrder_243 : decode cX9_readsOrder 243 = .ok (.invokevirtual 207, 3) := by decide +kernel
theorem dX9_readsOrder_246 : decode cX9_readsOrder 246 = .ok (.ifCond .eq 33, 3) := by decide +kernel
theorem dX9_readsOrder_249 : decode cX9_readsOrder 249 = .ok (.aload_n 0, 1) := by decide +kernel
theorem dX9_readsOrder_250 : decode cX9_readsOrder 250 = .ok (.bipush 114, 2) := by decide +kernel
theorem dX9_readsOrder_252 : decode cX9_readsOrder 252 = .ok (.invokevirtual 207, 3) := by decide +kernel
theorem dX9_readsOrder_255 : decode cX9_readsOrder 255 = .ok (.ifCond .eq 24, 3) := by decide +kernel
theorem dX9_readsOrder_258 : decode cX9_readsOrder 258 = .ok (.aload_n 0, 1) := by decide +kernel
theorem dX9_readsOrder_259 : decode cX9_readsOrder 259 = .ok (.bipush 107, 2) := by decide +kernel
theorem dX9_readsOrder_261 : decode cX9_readsOrder 261 = .ok (.invokevirtual 207, 3) := by decide +kernel
theorem dX9_readsOrder_264 : decode cX9_readsOrder 264 = .ok (.ifCond .eq 15, 3) := by decide +kernel
theorem dX9_readsOrder_267 : decode cX9_readsOrder 267 = .ok (.aload_n 0, 1) := by decide +kernel
theorem dX9_readsOrder_268 : decode cX9_readsOrder 268 = .ok (.iconst 0, 1) := by decide +kernel
theorem dX9_readsOrder_269 : decode cX9_readsOrder 269 = .ok (.invokevirtual 216, 3) := by decide +kernel
theorem dX9_readsOrder_272 : decode cX9_readsOrder 272 = .ok (.ifCond .eq 7, 3) := by decide +kernel
theorem dX9_readsOrder_275 : decode cX9_readsOrder 275 = .ok (.iconst 1, 1) := by decide +kernel
theorem dX9_readsOrder_276 : decode cX9_readsOrder 276 = .ok (.goto 4, 3) := by decide +kernel
theorem dX9_readsOrder_279 : decode cX9_readsOrder 279 = .ok (.iconst 0, 1) := by decide +kernel
theorem dX9_readsOrder_280 : decode cX9_readsOrder 280 = .ok (.ireturn, 1) := by decide +kernel
theorem dX9_readsOrder_281 : decode cX9_readsOrder 281 = .ok (.aload_n 0, 1) := by decide +kernel
theorem dX9_readsOrder_282 : decode cX9_readsOrder 282 = .ok (.bipush 108, 2) := by decide +kernel
theorem dX9_readsOrder_284 : decode cX9_readsOrder 284 = .ok (.invokevirtual 207, 3) := by decide +kernel
theorem dX9_readsOrder_287 : decode cX9_readsOrder 287 = .ok (.ifCond .eq 42, 3) := by decide +kernel
theorem dX9_readsOrder_290 : decode cX9_readsOrder 290 = .ok (.aload_n 0, 1) := by decide +kernel
theorem dX9_readsOrder_291 : decode cX9_readsOrder 291 = .ok (.bipush 101, 2) := by decide +kernel
theorem dX9_readsOrder_293 : decode cX9_readsOrder 293 = .ok (.invokevirtual 207, 3) := by decide +kernel
theorem dX9_readsOrder_296 : decode cX9_readsOrder 296 = .ok (.ifCond .eq 33, 3) := by decide +kernel
theorem dX9_readsOrder_299 : decode cX9_readsOrder 299 = .ok (.aload_n 0, 1) := by decide +kernel
theorem dX9_readsOrder_300 : decode cX9_readsOrder 300 = .ok (.bipush 97, 2) := by decide +kernel
theorem dX9_readsOrder_302 : decode cX9_readsOrder 302 = .ok (.invokevirtual 207, 3) := by decide +kernel
theorem dX9_readsOrder_305 : decode cX9_readsOrder 305 = .ok (.ifCond .eq 24, 3) := by decide +kernel
theorem dX9_readsOrder_308 : decode cX9_readsOrder 308 = .ok (.aload_n 0, 1) := by decide +kernel
theorem dX9_readsOrder_309 : decode cX9_readsOrder 309 = .ok (.bipush 114, 2) := by decide +kernel
theorem dX9_readsOrder_311 : decode cX9_readsOrder 311 = .ok (.invokevirtual 207, 3) := by decide +kernel
theorem dX9_readsOrder_314 : decode cX9_readsOrder 314 = .ok (.ifCond .eq 15, 3) := by decide +kernel
theorem dX9_readsOrder_317 : decode cX9_readsOrder 317 = .ok (.aload_n 0, 1) := by decide +kernel
theorem dX9_readsOrder_318 : decode cX9_readsOrder 318 = .ok (.iconst 0, 1) := by decide +kernel
theorem dX9_readsOrder_319 : decode cX9_readsOrder 319 = .ok (.invokevirtual 216, 3) := by decide +kernel
theorem dX9_readsOrder_322 : decode cX9_readsOrder 322 = .ok (.ifCond .eq 7, 3) := by decide +kernel
theorem dX9_readsOrder_325 : decode cX9_readsOrder 325 = .ok (.iconst 1, 1) := by decide +kernel
theorem dX9_readsOrder_326 : decode cX9_readsOrder 326 = .ok (.goto 4, 3) := by decide +kernel
theorem dX9_readsOrder_329 : decode cX9_readsOrder 329 = .ok (.iconst 0, 1) := by decide +kernel
theorem dX9_readsOrder_330 : decode cX9_readsOrder 330 = .ok (.ireturn, 1) := by decide +kernel
theorem dX9_readsOrder_331 : decode cX9_readsOrder 331 = .ok (.aload_n 0, 1) := by decide +kernel
theorem dX9_readsOrder_332 : decode cX9_readsOrder 332 = .ok (.dup, 1) := by decide +kernel
theorem dX9_readsOrder_333 : decode cX9_readsOrder 333 = .ok (.getfield 201, 3) := by decide +kernel
theorem dX9_readsOrder_336 : decode cX9_readsOrder 336 = .ok (.iconst 1, 1) := by decide +kernel
theorem dX9_readsOrder_337 : decode cX9_readsOrder 337 = .ok (.isub, 1) := by decide +kernel
theorem dX9_readsOrder_338 : decode cX9_readsOrder 338 = .ok (.putfield 201, 3) := by decide +kernel
theorem dX9_readsOrder_341 : decode cX9_readsOrder 341 = .ok (.iconst 0, 1) := by decide +kernel
theorem dX9_readsOrder_342 : decode cX9_readsOrder 342 = .ok (.ireturn, 1) := by decide +kernel
theorem dX9_readsAll_0 : decode cX9_readsAll 0 = .ok (.aload_n 0, 1) := by decide +kernel
theorem dX9_readsAll_1 : decode cX9_readsAll 1 = .ok (.iconst 0, 1) := by decide +kernel
theorem dX9_readsAll_2 : decode cX9_readsAll 2 = .ok (.putfield 201, 3) := by decide +kernel
theorem dX9_readsAll_5 : decode cX9_readsAll 5 = .ok (.iconst 1, 1) := by decide +kernel
theorem dX9_readsAll_6 : decode cX9_readsAll 6 = .ok (.istore_n 1, 1) := by decide +kernel
theorem dX9_readsAll_7 : decode cX9_readsAll 7 = .ok (.iload_n 1, 1) := by decide +kernel
theorem dX9_readsAll_8 : decode cX9_readsAll 8 = .ok (.ifCond .eq 22, 3) := by decide +kernel
theorem dX9_readsAll_11 : decode cX9_readsAll 11 = .ok (.aload_n 0, 1) := by decide +kernel
theorem dX9_readsAll_12 : decode cX9_readsAll 12 = .ok (.invokevirtual 219, 3) := by decide +kernel
theorem dX9_readsAll_15 : decode cX9_readsAll 15 = .ok (.ifCond .ne 5, 3) := by decide +kernel
theorem dX9_readsAll_18 : decode cX9_readsAll 18 = .ok (.iconst 0, 1) := by decide +kernel
theorem dX9_readsAll_19 : decode cX9_readsAll 19 = .ok (.ireturn, 1) := by decide +kernel
theorem dX9_readsAll_20 : decode cX9_readsAll 20 = .ok (.aload_n 0, 1) := by decide +kernel
theorem dX9_readsAll_21 : decode cX9_readsAll 21 = .ok (.bipush 59, 2) := by decide +kernel
theorem dX9_readsAll_23 : decode cX9_readsAll 23 = .ok (.invokevirtual 207, 3) := by decide +kernel
theorem dX9_readsAll_26 : decode cX9_readsAll 26 = .ok (.istore_n 1, 1) := by decide +kernel
theorem dX9_readsAll_27 : decode cX9_readsAll 27 = .ok (.goto (-20), 3) := by decide +kernel
theorem dX9_readsAll_30 : decode cX9_readsAll 30 = .ok (.aload_n 0, 1) := by decide +kernel
theorem dX9_readsAll_31 : decode cX9_readsAll 31 = .ok (.getfield 201, 3) := by decide +kernel
theorem dX9_readsAll_34 : decode cX9_readsAll 34 = .ok (.aload_n 0, 1) := by decide +kernel
theorem dX9_readsAll_35 : decode cX9_readsAll 35 = .ok (.getfield 198, 3) := by decide +kernel
theorem dX9_readsAll_38 : decode cX9_readsAll 38 = .ok (.if_icmp .ne 7, 3) := by decide +kernel
theorem dX9_readsAll_41 : decode cX9_readsAll 41 = .ok (.iconst 1, 1) := by decide +kernel
theorem dX9_readsAll_42 : decode cX9_readsAll 42 = .ok (.goto 4, 3) := by decide +kernel
theorem dX9_readsAll_45 : decode cX9_readsAll 45 = .ok (.iconst 0, 1) := by decide +kernel
theorem dX9_readsAll_46 : decode cX9_readsAll 46 = .ok (.ireturn, 1) := by decide +kernel
theorem dX9_notNow_0 : decode cX9_notNow 0 = .ok (.aload_n 0, 1) := by decide +kernel
theorem dX9_notNow_1 : decode cX9_notNow 1 = .ok (.getfield 32, 3) := by decide +kernel
theorem dX9_notNow_4 : decode cX9_notNow 4 = .ok (.iconst 0, 1) := by decide +kernel
theorem dX9_notNow_5 : decode cX9_notNow 5 = .ok (.iaload, 1) := by decide +kernel
theorem dX9_notNow_6 : decode cX9_notNow 6 = .ok (.istore_n 1, 1) := by decide +kernel
theorem dX9_notNow_7 : decode cX9_notNow 7 = .ok (.aload_n 0, 1) := by decide +kernel
theorem dX9_notNow_8 : decode cX9_notNow 8 = .ok (.getfield 213, 3) := by decide +kernel
theorem dX9_notNow_11 : decode cX9_notNow 11 = .ok (.lookupswitch 86 #[(105, 53), (111, 65), (112, 41), (115, 80)], 41) := by decide +kernel
theorem dX9_notNow_52 : decode cX9_notNow 52 = .ok (.aload_n 0, 1) := by decide +kernel
theorem dX9_notNow_53 : decode cX9_notNow 53 = .ok (.aload_n 0, 1) := by decide +kernel
theorem dX9_notNow_54 : decode cX9_notNow 54 = .ok (.getfield 7, 3) := by decide +kernel
theorem dX9_notNow_57 : decode cX9_notNow 57 = .ok (.iconst 0, 1) := by decide +kernel
theorem dX9_notNow_58 : decode cX9_notNow 58 = .ok (.iaload, 1) := by decide +kernel
theorem dX9_notNow_59 : decode cX9_notNow 59 = .ok (.iload_n 1, 1) := by decide +kernel
theorem dX9_notNow_60 : decode cX9_notNow 60 = .ok (.invokevirtual 72, 3) := by decide +kernel
theorem dX9_notNow_63 : decode cX9_notNow 63 = .ok (.ireturn, 1) := by decide +kernel
theorem dX9_notNow_64 : decode cX9_notNow 64 = .ok (.aload_n 0, 1) := by decide +kernel
theorem dX9_notNow_65 : decode cX9_notNow 65 = .ok (.iload_n 1, 1) := by decide +kernel
theorem dX9_notNow_66 : decode cX9_notNow 66 = .ok (.aload_n 0, 1) := by decide +kernel
theorem dX9_notNow_67 : decode cX9_notNow 67 = .ok (.getfield 32, 3) := by decide +kernel
theorem dX9_notNow_70 : decode cX9_notNow 70 = .ok (.iconst 1, 1) := by decide +kernel
theorem dX9_notNow_71 : decode cX9_notNow 71 = .ok (.iaload, 1) := by decide +kernel
theorem dX9_notNow_72 : decode cX9_notNow 72 = .ok (.invokevirtual 72, 3) := by decide +kernel
theorem dX9_notNow_75 : decode cX9_notNow 75 = .ok (.ireturn, 1) := by decide +kernel
theorem dX9_notNow_76 : decode cX9_notNow 76 = .ok (.aload_n 0, 1) := by decide +kernel
theorem dX9_notNow_77 : decode cX9_notNow 77 = .ok (.iload_n 1, 1) := by decide +kernel
theorem dX9_notNow_78 : decode cX9_notNow 78 = .ok (.invokevirtual 89, 3) := by decide +kernel
theorem dX9_notNow_81 : decode cX9_notNow 81 = .ok (.ifCond .eq 7, 3) := by decide +kernel
theorem dX9_notNow_84 : decode cX9_notNow 84 = .ok (.iconst 0, 1) := by decide +kernel
theorem dX9_notNow_85 : decode cX9_notNow 85 = .ok (.goto 5, 3) := by decide +kernel
theorem dX9_notNow_88 : decode cX9_notNow 88 = .ok (.bipush (-11), 2) := by decide +kernel
theorem dX9_notNow_90 : decode cX9_notNow 90 = .ok (.ireturn, 1) := by decide +kernel
theorem dX9_notNow_91 : decode cX9_notNow 91 = .ok (.aload_n 0, 1) := by decide +kernel
theorem dX9_notNow_92 : decode cX9_notNow 92 = .ok (.iload_n 1, 1) := by decide +kernel
theorem dX9_notNow_93 : decode cX9_notNow 93 = .ok (.invokevirtual 95, 3) := by decide +kernel
theorem dX9_notNow_96 : decode cX9_notNow 96 = .ok (.ireturn, 1) := by decide +kernel
theorem dX9_notNow_97 : decode cX9_notNow 97 = .ok (.aload_n 0, 1) := by decide +kernel
theorem dX9_notNow_98 : decode cX9_notNow 98 = .ok (.iload_n 1, 1) := by decide +kernel
theorem dX9_notNow_99 : decode cX9_notNow 99 = .ok (.aload_n 0, 1) := by decide +kernel
theorem dX9_notNow_100 : decode cX9_notNow 100 = .ok (.getfield 213, 3) := by decide +kernel
theorem dX9_notNow_103 : decode cX9_notNow 103 = .ok (.bipush 109, 2) := by decide +kernel
theorem dX9_notNow_105 : decode cX9_notNow 105 = .ok (.if_icmp .ne 7, 3) := by decide +kernel
theorem dX9_notNow_108 : decode cX9_notNow 108 = .ok (.iconst 1, 1) := by decide +kernel
theorem dX9_notNow_109 : decode cX9_notNow 109 = .ok (.goto 4, 3) := by decide +kernel
theorem dX9_notNow_112 : decode cX9_notNow 112 = .ok (.iconst 0, 1) := by decide +kernel
theorem dX9_notNow_113 : decode cX9_notNow 113 = .ok (.invokevirtual 108, 3) := by decide +kernel
theorem dX9_notNow_116 : decode cX9_notNow 116 = .ok (.ireturn, 1) := by decide +kernel
theorem dX9_doesNow_0 : decode cX9_doesNow 0 = .ok (.aload_n 0, 1) := by decide +kernel
theorem dX9_doesNow_1 : decode cX9_doesNow 1 = .ok (.getfield 32, 3) := by decide +kernel
theorem dX9_doesNow_4 : decode cX9_doesNow 4 = .ok (.iconst 0, 1) := by decide +kernel
theorem dX9_doesNow_5 : decode cX9_doesNow 5 = .ok (.iaload, 1) := by decide +kernel
theorem dX9_doesNow_6 : decode cX9_doesNow 6 = .ok (.istore_n 1, 1) := by decide +kernel
theorem dX9_doesNow_7 : decode cX9_doesNow 7 = .ok (.aload_n 0, 1) := by decide +kernel
theorem dX9_doesNow_8 : decode cX9_doesNow 8 = .ok (.getfield 213, 3) := by decide +kernel
theorem dX9_doesNow_11 : decode cX9_doesNow 11 = .ok (.lookupswitch 87 #[(105, 55), (111, 69), (112, 41), (115, 78)], 41) := by decide +kernel
theorem dX9_doesNow_52 : decode cX9_doesNow 52 = .ok (.aload_n 0, 1) := by decide +kernel
theorem dX9_doesNow_53 : decode cX9_doesNow 53 = .ok (.aload_n 0, 1) := by decide +kernel
theorem dX9_doesNow_54 : decode cX9_doesNow 54 = .ok (.getfield 7, 3) := by decide +kernel
theorem dX9_doesNow_57 : decode cX9_doesNow 57 = .ok (.iconst 0, 1) := by decide +kernel
theorem dX9_doesNow_58 : decode cX9_doesNow 58 = .ok (.iaload, 1) := by decide +kernel
theorem dX9_doesNow_59 : decode cX9_doesNow 59 = .ok (.iload_n 1, 1) := by decide +kernel
theorem dX9_doesNow_60 : decode cX9_doesNow 60 = .ok (.invokevirtual 82, 3) := by decide +kernel
theorem dX9_doesNow_63 : decode cX9_doesNow 63 = .ok (.goto 55, 3) := by decide +kernel
theorem dX9_doesNow_66 : decode cX9_doesNow 66 = .ok (.aload_n 0, 1) := by decide +kernel
theorem dX9_doesNow_67 : decode cX9_doesNow 67 = .ok (.iload_n 1, 1) := by decide +kernel
theorem dX9_doesNow_68 : decode cX9_doesNow 68 = .ok (.aload_n 0, 1) := by decide +kernel
theorem dX9_doesNow_69 : decode cX9_doesNow 69 = .ok (.getfield 32, 3) := by decide +kernel
theorem dX9_doesNow_72 : decode cX9_doesNow 72 = .ok (.iconst 1, 1) := by decide +kernel
theorem dX9_doesNow_73 : decode cX9_doesNow 73 = .ok (.iaload, 1) := by decide +kernel
theorem dX9_doesNow_74 : decode cX9_doesNow 74 = .ok (.invokevirtual 82, 3) := by decide +kernel
theorem dX9_doesNow_77 : decode cX9_doesNow 77 = .ok (.goto 41, 3) := by decide +kernel
theorem dX9_doesNow_80 : decode cX9_doesNow 80 = .ok (.aload_n 0, 1) := by decide +kernel
theorem dX9_doesNow_81 : decode cX9_doesNow 81 = .ok (.iload_n 1, 1) := by decide +kernel
theorem dX9_doesNow_82 : decode cX9_doesNow 82 = .ok (.invokevirtual 92, 3) := by decide +kernel
theorem dX9_doesNow_85 : decode cX9_doesNow 85 = .ok (.pop, 1) := by decide +kernel
theorem dX9_doesNow_86 : decode cX9_doesNow 86 = .ok (.goto 32, 3) := by decide +kernel
theorem dX9_doesNow_89 : decode cX9_doesNow 89 = .ok (.aload_n 0, 1) := by decide +kernel
theorem dX9_doesNow_90 : decode cX9_doesNow 90 = .ok (.iload_n 1, 1) := by decide +kernel
theorem dX9_doesNow_91 : decode cX9_doesNow 91 = .ok (.invokevirtual 98, 3) := by decide +kernel
theorem dX9_doesNow_94 : decode cX9_doesNow 94 = .ok (.pop, 1) := by decide +kernel
theorem dX9_doesNow_95 : decode cX9_doesNow 95 = .ok (.goto 23, 3) := by decide +kernel
theorem dX9_doesNow_98 : decode cX9_doesNow 98 = .ok (.aload_n 0, 1) := by decide +kernel
theorem dX9_doesNow_99 : decode cX9_doesNow 99 = .ok (.iload_n 1, 1) := by decide +kernel
theorem dX9_doesNow_100 : decode cX9_doesNow 100 = .ok (.aload_n 0, 1) := by decide +kernel
theorem dX9_doesNow_101 : decode cX9_doesNow 101 = .ok (.getfield 213, 3) := by decide +kernel
theorem dX9_doesNow_104 : decode cX9_doesNow 104 = .ok (.bipush 109, 2) := by decide +kernel
theorem dX9_doesNow_106 : decode cX9_doesNow 106 = .ok (.if_icmp .ne 7, 3) := by decide +kernel
theorem dX9_doesNow_109 : decode cX9_doesNow 109 = .ok (.iconst 1, 1) := by decide +kernel
theorem dX9_doesNow_110 : decode cX9_doesNow 110 = .ok (.goto 4, 3) := by decide +kernel
theorem dX9_doesNow_113 : decode cX9_doesNow 113 = .ok (.iconst 0, 1) := by decide +kernel
theorem dX9_doesNow_114 : decode cX9_doesNow 114 = .ok (.invokevirtual 112, 3) := by decide +kernel
theorem dX9_doesNow_117 : decode cX9_doesNow 117 = .ok (.pop, 1) := by decide +kernel
theorem dX9_doesNow_118 : decode cX9_doesNow 118 = .ok (.return_, 1) := by decide +kernel
theorem dX9_doesAll_0 : decode cX9_doesAll 0 = .ok (.aload_n 0, 1) := by decide +kernel
theorem dX9_doesAll_1 : decode cX9_doesAll 1 = .ok (.iconst 0, 1) := by decide +kernel
theorem dX9_doesAll_2 : decode cX9_doesAll 2 = .ok (.putfield 223, 3) := by decide +kernel
theorem dX9_doesAll_5 : decode cX9_doesAll 5 = .ok (.aload_n 0, 1) := by decide +kernel
theorem dX9_doesAll_6 : decode cX9_doesAll 6 = .ok (.iconst 0, 1) := by decide +kernel
theorem dX9_doesAll_7 : decode cX9_doesAll 7 = .ok (.putfield 201, 3) := by decide +kernel
theorem dX9_doesAll_10 : decode cX9_doesAll 10 = .ok (.iconst 1, 1) := by decide +kernel
theorem dX9_doesAll_11 : decode cX9_doesAll 11 = .ok (.istore_n 1, 1) := by decide +kernel
theorem dX9_doesAll_12 : decode cX9_doesAll 12 = .ok (.iload_n 1, 1) := by decide +kernel
theorem dX9_doesAll_13 : decode cX9_doesAll 13 = .ok (.ifCond .eq 41, 3) := by decide +kernel
theorem dX9_doesAll_16 : decode cX9_doesAll 16 = .ok (.aload_n 0, 1) := by decide +kernel
theorem dX9_doesAll_17 : decode cX9_doesAll 17 = .ok (.invokevirtual 219, 3) := by decide +kernel
theorem dX9_doesAll_20 : decode cX9_doesAll 20 = .ok (.pop, 1) := by decide +kernel
theorem dX9_doesAll_21 : decode cX9_doesAll 21 = .ok (.aload_n 0, 1) := by decide +kernel
theorem dX9_doesAll_22 : decode cX9_doesAll 22 = .ok (.invokevirtual 226, 3) := by decide +kernel
theorem dX9_doesAll_25 : decode cX9_doesAll 25 = .ok (.ifCond .eq 5, 3) := by decide +kernel
theorem dX9_doesAll_28 : decode cX9_doesAll 28 = .ok (.iconst 0, 1) := by decide +kernel
theorem dX9_doesAll_29 : decode cX9_doesAll 29 = .ok (.ireturn, 1) := by decide +kernel
theorem dX9_doesAll_30 : decode cX9_doesAll 30 = .ok (.aload_n 0, 1) := by decide +kernel
theorem dX9_doesAll_31 : decode cX9_doesAll 31 = .ok (.invokevirtual 229, 3) := by decide +kernel
theorem dX9_doesAll_34 : decode cX9_doesAll 34 = .ok (.aload_n 0, 1) := by decide +kernel
theorem dX9_doesAll_35 : decode cX9_doesAll 35 = .ok (.dup, 1) := by decide +kernel
theorem dX9_doesAll_36 : decode cX9_doesAll 36 = .ok (.getfield 223, 3) := by decide +kernel
theorem dX9_doesAll_39 : decode cX9_doesAll 39 = .ok (.iconst 1, 1) := by decide +kernel
theorem dX9_doesAll_40 : decode cX9_doesAll 40 = .ok (.iadd, 1) := by decide +kernel
theorem dX9_doesAll_41 : decode cX9_doesAll 41 = .ok (.putfield 223, 3) := by decide +kernel
theorem dX9_doesAll_44 : decode cX9_doesAll 44 = .ok (.aload_n 0, 1) := by decide +kernel
theorem dX9_doesAll_45 : decode cX9_doesAll 45 = .ok (.bipush 59, 2) := by decide +kernel
theorem dX9_doesAll_47 : decode cX9_doesAll 47 = .ok (.invokevirtual 207, 3) := by decide +kernel
theorem dX9_doesAll_50 : decode cX9_doesAll 50 = .ok (.istore_n 1, 1) := by decide +kernel
theorem dX9_doesAll_51 : decode cX9_doesAll 51 = .ok (.goto (-39), 3) := by decide +kernel
theorem dX9_doesAll_54 : decode cX9_doesAll 54 = .ok (.iconst 1, 1) := by decide +kernel
theorem dX9_doesAll_55 : decode cX9_doesAll 55 = .ok (.ireturn, 1) := by decide +kernel
theorem dX9_run_0 : decode cX9_run 0 = .ok (.aload_n 0, 1) := by decide +kernel
theorem dX9_run_1 : decode cX9_run 1 = .ok (.invokevirtual 232, 3) := by decide +kernel
theorem dX9_run_4 : decode cX9_run 4 = .ok (.ifCond .ne 17, 3) := by decide +kernel
theorem dX9_run_7 : decode cX9_run 7 = .ok (.aload_n 0, 1) := by decide +kernel
theorem dX9_run_8 : decode cX9_run 8 = .ok (.iconst 0, 1) := by decide +kernel
theorem dX9_run_9 : decode cX9_run 9 = .ok (.putfield 198, 3) := by decide +kernel
theorem dX9_run_12 : decode cX9_run 12 = .ok (.sipush (-1000), 3) := by decide +kernel
theorem dX9_run_15 : decode cX9_run 15 = .ok (.aload_n 0, 1) := by decide +kernel
theorem dX9_run_16 : decode cX9_run 16 = .ok (.getfield 201, 3) := by decide +kernel
theorem dX9_run_19 : decode cX9_run 19 = .ok (.isub, 1) := by decide +kernel
theorem dX9_run_20 : decode cX9_run 20 = .ok (.ireturn, 1) := by decide +kernel
theorem dX9_run_21 : decode cX9_run 21 = .ok (.aload_n 0, 1) := by decide +kernel
theorem dX9_run_22 : decode cX9_run 22 = .ok (.invokevirtual 54, 3) := by decide +kernel
theorem dX9_run_25 : decode cX9_run 25 = .ok (.aload_n 0, 1) := by decide +kernel
theorem dX9_run_26 : decode cX9_run 26 = .ok (.invokevirtual 235, 3) := by decide +kernel
theorem dX9_run_29 : decode cX9_run 29 = .ok (.istore_n 1, 1) := by decide +kernel
theorem dX9_run_30 : decode cX9_run 30 = .ok (.aload_n 0, 1) := by decide +kernel
theorem dX9_run_31 : decode cX9_run 31 = .ok (.iconst 0, 1) := by decide +kernel
theorem dX9_run_32 : decode cX9_run 32 = .ok (.putfield 198, 3) := by decide +kernel
theorem dX9_run_35 : decode cX9_run 35 = .ok (.iload_n 1, 1) := by decide +kernel
theorem dX9_run_36 : decode cX9_run 36 = .ok (.ifCond .eq 12, 3) := by decide +kernel
theorem dX9_run_39 : decode cX9_run 39 = .ok (.aload_n 0, 1) := by decide +kernel
theorem dX9_run_40 : decode cX9_run 40 = .ok (.invokevirtual 57, 3) := by decide +kernel
theorem dX9_run_43 : decode cX9_run 43 = .ok (.aload_n 0, 1) := by decide +kernel
theorem dX9_run_44 : decode cX9_run 44 = .ok (.getfield 223, 3) := by decide +kernel
theorem dX9_run_47 : decode cX9_run 47 = .ok (.ireturn, 1) := by decide +kernel
theorem dX9_run_48 : decode cX9_run 48 = .ok (.aload_n 0, 1) := by decide +kernel
theorem dX9_run_49 : decode cX9_run 49 = .ok (.invokevirtual 238, 3) := by decide +kernel
theorem dX9_run_52 : decode cX9_run 52 = .ok (.aload_n 0, 1) := by decide +kernel
theorem dX9_run_53 : decode cX9_run 53 = .ok (.iconst 4, 1) := by decide +kernel
theorem dX9_run_54 : decode cX9_run 54 = .ok (.putfield 42, 3) := by decide +kernel
theorem dX9_run_57 : decode cX9_run 57 = .ok (.aload_n 0, 1) := by decide +kernel
theorem dX9_run_58 : decode cX9_run 58 = .ok (.aload_n 0, 1) := by decide +kernel
theorem dX9_run_59 : decode cX9_run 59 = .ok (.getfield 223, 3) := by decide +kernel
theorem dX9_run_62 : decode cX9_run 62 = .ok (.putfield 45, 3) := by decide +kernel
theorem dX9_run_65 : decode cX9_run 65 = .ok (.bipush (-14), 2) := by decide +kernel
theorem dX9_run_67 : decode cX9_run 67 = .ok (.ireturn, 1) := by decide +kernel
theorem dX9_undo_0 : decode cX9_undo 0 = .ok (.aload_n 0, 1) := by decide +kernel
theorem dX9_undo_1 : decode cX9_undo 1 = .ok (.getfield 48, 3) := by decide +kernel
theorem dX9_undo_4 : decode cX9_undo 4 = .ok (.ifCond .ne 6, 3) := by decide +kernel
theorem dX9_undo_7 : decode cX9_undo 7 = .ok (.bipush (-15), 2) := by decide +kernel
theorem dX9_undo_9 : decode cX9_undo 9 = .ok (.ireturn, 1) := by decide +kernel
theorem dX9_undo_10 : decode cX9_undo 10 = .ok (.aload_n 0, 1) := by decide +kernel
theorem dX9_undo_11 : decode cX9_undo 11 = .ok (.dup, 1) := by decide +kernel
theorem dX9_undo_12 : decode cX9_undo 12 = .ok (.getfield 48, 3) := by decide +kernel
theorem dX9_undo_15 : decode cX9_undo 15 = .ok (.iconst 1, 1) := by decide +kernel
theorem dX9_undo_16 : decode cX9_undo 16 = .ok (.isub, 1) := by decide +kernel
theorem dX9_undo_17 : decode cX9_undo 17 = .ok (.putfield 48, 3) := by decide +kernel
theorem dX9_undo_20 : decode cX9_undo 20 = .ok (.aload_n 0, 1) := by decide +kernel
theorem dX9_undo_21 : decode cX9_undo 21 = .ok (.getfield 51, 3) := by decide +kernel
theorem dX9_undo_24 : decode cX9_undo 24 = .ok (.aload_n 0, 1) := by decide +kernel
theorem dX9_undo_25 : decode cX9_undo 25 = .ok (.getfield 48, 3) := by decide +kernel
theorem dX9_undo_28 : decode cX9_undo 28 = .ok (.iadd, 1) := by decide +kernel
theorem dX9_undo_29 : decode cX9_undo 29 = .ok (.bipush 8, 2) := by decide +kernel
theorem dX9_undo_31 : decode cX9_undo 31 = .ok (.irem, 1) := by decide +kernel
theorem dX9_undo_32 : decode cX9_undo 32 = .ok (.istore_n 1, 1) := by decide +kernel
theorem dX9_undo_33 : decode cX9_undo 33 = .ok (.iconst 0, 1) := by decide +kernel
theorem dX9_undo_34 : decode cX9_undo 34 = .ok (.istore_n 2, 1) := by decide +kernel
theorem dX9_undo_35 : decode cX9_undo 35 = .ok (.iload_n 2, 1) := by decide +kernel
theorem dX9_undo_36 : decode cX9_undo 36 = .ok (.sipush 132, 3) := by decide +kernel
theorem dX9_undo_39 : decode cX9_undo 39 = .ok (.if_icmp .ge 27, 3) := by decide +kernel
theorem dX9_undo_42 : decode cX9_undo 42 = .ok (.aload_n 0, 1) := by decide +kernel
theorem dX9_undo_43 : decode cX9_undo 43 = .ok (.getfield 7, 3) := by decide +kernel
theorem dX9_undo_46 : decode cX9_undo 46 = .ok (.iload_n 2, 1) := by decide +kernel
theorem dX9_undo_47 : decode cX9_undo 47 = .ok (.aload_n 0, 1) := by decide +kernel
theorem dX9_undo_48 : decode cX9_undo 48 = .ok (.getfield 13, 3) := by decide +kernel
theorem dX9_undo_51 : decode cX9_undo 51 = .ok (.sipush 132, 3) := by decide +kernel
theorem dX9_undo_54 : decode cX9_undo 54 = .ok (.iload_n 1, 1) := by decide +kernel
theorem dX9_undo_55 : decode cX9_undo 55 = .ok (.imul, 1) := by decide +kernel
theorem dX9_undo_56 : decode cX9_undo 56 = .ok (.iload_n 2, 1) := by decide +kernel
theorem dX9_undo_57 : decode cX9_undo 57 = .ok (.iadd, 1) := by decide +kernel
theorem dX9_undo_58 : decode cX9_undo 58 = .ok (.iaload, 1) := by decide +kernel
theorem dX9_undo_59 : decode cX9_undo 59 = .ok (.iastore, 1) := by decide +kernel
theorem dX9_undo_60 : decode cX9_undo 60 = .ok (.iinc 2 1, 3) := by decide +kernel
theorem dX9_undo_63 : decode cX9_undo 63 = .ok (.goto (-28), 3) := by decide +kernel
theorem dX9_undo_66 : decode cX9_undo 66 = .ok (.aload_n 0, 1) := by decide +kernel
theorem dX9_undo_67 : decode cX9_undo 67 = .ok (.getfield 48, 3) := by decide +kernel
theorem dX9_undo_70 : decode cX9_undo 70 = .ok (.ireturn, 1) := by decide +kernel
theorem dX9_save_0 : decode cX9_save 0 = .ok (.iconst 0, 1) := by decide +kernel
theorem dX9_save_1 : decode cX9_save 1 = .ok (.istore_n 1, 1) := by decide +kernel
theorem dX9_save_2 : decode cX9_save 2 = .ok (.iload_n 1, 1) := by decide +kernel
theorem dX9_save_3 : decode cX9_save 3 = .ok (.sipush 132, 3) := by decide +kernel
theorem dX9_save_6 : decode cX9_save 6 = .ok (.if_icmp .ge 21, 3) := by decide +kernel
theorem dX9_save_9 : decode cX9_save 9 = .ok (.aload_n 0, 1) := by decide +kernel
theorem dX9_save_10 : decode cX9_save 10 = .ok (.getfield 16, 3) := by decide +kernel
theorem dX9_save_13 : decode cX9_save 13 = .ok (.iload_n 1, 1) := by decide +kernel
theorem dX9_save_14 : decode cX9_save 14 = .ok (.aload_n 0, 1) := by decide +kernel
theorem dX9_save_15 : decode cX9_save 15 = .ok (.getfield 7, 3) := by decide +kernel
theorem dX9_save_18 : decode cX9_save 18 = .ok (.iload_n 1, 1) := by decide +kernel
theorem dX9_save_19 : decode cX9_save 19 = .ok (.iaload, 1) := by decide +kernel
theorem dX9_save_20 : decode cX9_save 20 = .ok (.iastore, 1) := by decide +kernel
theorem dX9_save_21 : decode cX9_save 21 = .ok (.iinc 1 1, 3) := by decide +kernel
theorem dX9_save_24 : decode cX9_save 24 = .ok (.goto (-22), 3) := by decide +kernel
theorem dX9_save_27 : decode cX9_save 27 = .ok (.aload_n 0, 1) := by decide +kernel
theorem dX9_save_28 : decode cX9_save 28 = .ok (.iconst 1, 1) := by decide +kernel
theorem dX9_save_29 : decode cX9_save 29 = .ok (.putfield 241, 3) := by decide +kernel
theorem dX9_save_32 : decode cX9_save 32 = .ok (.aload_n 0, 1) := by decide +kernel
theorem dX9_save_33 : decode cX9_save 33 = .ok (.getfield 7, 3) := by decide +kernel
theorem dX9_save_36 : decode cX9_save 36 = .ok (.iconst 0, 1) := by decide +kernel
theorem dX9_save_37 : decode cX9_save 37 = .ok (.iaload, 1) := by decide +kernel
theorem dX9_save_38 : decode cX9_save 38 = .ok (.ireturn, 1) := by decide +kernel
theorem dX9_restore_0 : decode cX9_restore 0 = .ok (.aload_n 0, 1) := by decide +kernel
theorem dX9_restore_1 : decode cX9_restore 1 = .ok (.getfield 241, 3) := by decide +kernel
theorem dX9_restore_4 : decode cX9_restore 4 = .ok (.ifCond .ne 6, 3) := by decide +kernel
theorem dX9_restore_7 : decode cX9_restore 7 = .ok (.bipush (-15), 2) := by decide +kernel
theorem dX9_restore_9 : decode cX9_restore 9 = .ok (.ireturn, 1) := by decide +kernel
theorem dX9_restore_10 : decode cX9_restore 10 = .ok (.iconst 0, 1) := by decide +kernel
theorem dX9_restore_11 : decode cX9_restore 11 = .ok (.istore_n 1, 1) := by decide +kernel
theorem dX9_restore_12 : decode cX9_restore 12 = .ok (.iload_n 1, 1) := by decide +kernel
theorem dX9_restore_13 : decode cX9_restore 13 = .ok (.sipush 132, 3) := by decide +kernel
theorem dX9_restore_16 : decode cX9_restore 16 = .ok (.if_icmp .ge 21, 3) := by decide +kernel
theorem dX9_restore_19 : decode cX9_restore 19 = .ok (.aload_n 0, 1) := by decide +kernel
theorem dX9_restore_20 : decode cX9_restore 20 = .ok (.getfield 7, 3) := by decide +kernel
theorem dX9_restore_23 : decode cX9_restore 23 = .ok (.iload_n 1, 1) := by decide +kernel
theorem dX9_restore_24 : decode cX9_restore 24 = .ok (.aload_n 0, 1) := by decide +kernel
theorem dX9_restore_25 : decode cX9_restore 25 = .ok (.getfield 16, 3) := by decide +kernel
theorem dX9_restore_28 : decode cX9_restore 28 = .ok (.iload_n 1, 1) := by decide +kernel
theorem dX9_restore_29 : decode cX9_restore 29 = .ok (.iaload, 1) := by decide +kernel
theorem dX9_restore_30 : decode cX9_restore 30 = .ok (.iastore, 1) := by decide +kernel
theorem dX9_restore_31 : decode cX9_restore 31 = .ok (.iinc 1 1, 3) := by decide +kernel
theorem dX9_restore_34 : decode cX9_restore 34 = .ok (.goto (-22), 3) := by decide +kernel
theorem dX9_restore_37 : decode cX9_restore 37 = .ok (.aload_n 0, 1) := by decide +kernel
theorem dX9_restore_38 : decode cX9_restore 38 = .ok (.iconst 0, 1) := by decide +kernel
theorem dX9_restore_39 : decode cX9_restore 39 = .ok (.putfield 48, 3) := by decide +kernel
theorem dX9_restore_42 : decode cX9_restore 42 = .ok (.aload_n 0, 1) := by decide +kernel
theorem dX9_restore_43 : decode cX9_restore 43 = .ok (.iconst 0, 1) := by decide +kernel
theorem dX9_restore_44 : decode cX9_restore 44 = .ok (.putfield 51, 3) := by decide +kernel
theorem dX9_restore_47 : decode cX9_restore 47 = .ok (.aload_n 0, 1) := by decide +kernel
theorem dX9_restore_48 : decode cX9_restore 48 = .ok (.getfield 7, 3) := by decide +kernel
theorem dX9_restore_51 : decode cX9_restore 51 = .ok (.iconst 0, 1) := by decide +kernel
theorem dX9_restore_52 : decode cX9_restore 52 = .ok (.iaload, 1) := by decide +kernel
theorem dX9_restore_53 : decode cX9_restore 53 = .ok (.ireturn, 1) := by decide +kernel
theorem dJ13_bitCount_95d88_0 : decode cJ13_bitCount_95d88 0 = .ok (.lload_n 0, 1) := by decide +kernel
theorem dJ13_bitCount_95d88_1 : decode cJ13_bitCount_95d88 1 = .ok (.lload_n 0, 1) := by decide +kernel
theorem dJ13_bitCount_95d88_2 : decode cJ13_bitCount_95d88 2 = .ok (.iconst 1, 1) := by decide +kernel
theorem dJ13_bitCount_95d88_3 : decode cJ13_bitCount_95d88 3 = .ok (.lushr, 1) := by decide +kernel
theorem dJ13_bitCount_95d88_4 : decode cJ13_bitCount_95d88 4 = .ok (.ldc2_w 314, 3) := by decide +kernel
theorem dJ13_bitCount_95d88_7 : decode cJ13_bitCount_95d88 7 = .ok (.land, 1) := by decide +kernel
theorem dJ13_bitCount_95d88_8 : decode cJ13_bitCount_95d88 8 = .ok (.lsub, 1) := by decide +kernel
theorem dJ13_bitCount_95d88_9 : decode cJ13_bitCount_95d88 9 = .ok (.lstore_n 0, 1) := by decide +kernel
theorem dJ13_bitCount_95d88_10 : decode cJ13_bitCount_95d88 10 = .ok (.lload_n 0, 1) := by decide +kernel
theorem dJ13_bitCount_95d88_11 : decode cJ13_bitCount_95d88 11 = .ok (.ldc2_w 316, 3) := by decide +kernel
theorem dJ13_bitCount_95d88_14 : decode cJ13_bitCount_95d88 14 = .ok (.land, 1) := by decide +kernel
theorem dJ13_bitCount_95d88_15 : decode cJ13_bitCount_95d88 15 = .ok (.lload_n 0, 1) := by decide +kernel
theorem dJ13_bitCount_95d88_16 : decode cJ13_bitCount_95d88 16 = .ok (.iconst 2, 1) := by decide +kernel
theorem dJ13_bitCount_95d88_17 : decode cJ13_bitCount_95d88 17 = .ok (.lushr, 1) := by decide +kernel
theorem dJ13_bitCount_95d88_18 : decode cJ13_bitCount_95d88 18 = .ok (.ldc2_w 316, 3) := by decide +kernel
theorem dJ13_bitCount_95d88_21 : decode cJ13_bitCount_95d88 21 = .ok (.land, 1) := by decide +kernel
theorem dJ13_bitCount_95d88_22 : decode cJ13_bitCount_95d88 22 = .ok (.ladd, 1) := by decide +kernel
theorem dJ13_bitCount_95d88_23 : decode cJ13_bitCount_95d88 23 = .ok (.lstore_n 0, 1) := by decide +kernel
theorem dJ13_bitCount_95d88_24 : decode cJ13_bitCount_95d88 24 = .ok (.lload_n 0, 1) := by decide +kernel
theorem dJ13_bitCount_95d88_25 : decode cJ13_bitCount_95d88 25 = .ok (.lload_n 0, 1) := by decide +kernel
theorem dJ13_bitCount_95d88_26 : decode cJ13_bitCount_95d88 26 = .ok (.iconst 4, 1) := by decide +kernel
theorem dJ13_bitCount_95d88_27 : decode cJ13_bitCount_95d88 27 = .ok (.lushr, 1) := by decide +kernel
theorem dJ13_bitCount_95d88_28 : decode cJ13_bitCount_95d88 28 = .ok (.ladd, 1) := by decide +kernel
theorem dJ13_bitCount_95d88_29 : decode cJ13_bitCount_95d88 29 = .ok (.ldc2_w 318, 3) := by decide +kernel
theorem dJ13_bitCount_95d88_32 : decode cJ13_bitCount_95d88 32 = .ok (.land, 1) := by decide +kernel
theorem dJ13_bitCount_95d88_33 : decode cJ13_bitCount_95d88 33 = .ok (.lstore_n 0, 1) := by decide +kernel
theorem dJ13_bitCount_95d88_34 : decode cJ13_bitCount_95d88 34 = .ok (.lload_n 0, 1) := by decide +kernel
theorem dJ13_bitCount_95d88_35 : decode cJ13_bitCount_95d88 35 = .ok (.lload_n 0, 1) := by decide +kernel
theorem dJ13_bitCount_95d88_36 : decode cJ13_bitCount_95d88 36 = .ok (.bipush 8, 2) := by decide +kernel
theorem dJ13_bitCount_95d88_38 : decode cJ13_bitCount_95d88 38 = .ok (.lushr, 1) := by decide +kernel
theorem dJ13_bitCount_95d88_39 : decode cJ13_bitCount_95d88 39 = .ok (.ladd, 1) := by decide +kernel
theorem dJ13_bitCount_95d88_40 : decode cJ13_bitCount_95d88 40 = .ok (.lstore_n 0, 1) := by decide +kernel
theorem dJ13_bitCount_95d88_41 : decode cJ13_bitCount_95d88 41 = .ok (.lload_n 0, 1) := by decide +kernel
theorem dJ13_bitCount_95d88_42 : decode cJ13_bitCount_95d88 42 = .ok (.lload_n 0, 1) := by decide +kernel
theorem dJ13_bitCount_95d88_43 : decode cJ13_bitCount_95d88 43 = .ok (.bipush 16, 2) := by decide +kernel
theorem dJ13_bitCount_95d88_45 : decode cJ13_bitCount_95d88 45 = .ok (.lushr, 1) := by decide +kernel
theorem dJ13_bitCount_95d88_46 : decode cJ13_bitCount_95d88 46 = .ok (.ladd, 1) := by decide +kernel
theorem dJ13_bitCount_95d88_47 : decode cJ13_bitCount_95d88 47 = .ok (.lstore_n 0, 1) := by decide +kernel
theorem dJ13_bitCount_95d88_48 : decode cJ13_bitCount_95d88 48 = .ok (.lload_n 0, 1) := by decide +kernel
theorem dJ13_bitCount_95d88_49 : decode cJ13_bitCount_95d88 49 = .ok (.lload_n 0, 1) := by decide +kernel
theorem dJ13_bitCount_95d88_50 : decode cJ13_bitCount_95d88 50 = .ok (.bipush 32, 2) := by decide +kernel
theorem dJ13_bitCount_95d88_52 : decode cJ13_bitCount_95d88 52 = .ok (.lushr, 1) := by decide +kernel
theorem dJ13_bitCount_95d88_53 : decode cJ13_bitCount_95d88 53 = .ok (.ladd, 1) := by decide +kernel
theorem dJ13_bitCount_95d88_54 : decode cJ13_bitCount_95d88 54 = .ok (.lstore_n 0, 1) := by decide +kernel
theorem dJ13_bitCount_95d88_55 : decode cJ13_bitCount_95d88 55 = .ok (.lload_n 0, 1) := by decide +kernel
theorem dJ13_bitCount_95d88_56 : decode cJ13_bitCount_95d88 56 = .ok (.l2i, 1) := by decide +kernel
theorem dJ13_bitCount_95d88_57 : decode cJ13_bitCount_95d88 57 = .ok (.bipush 127, 2) := by decide +kernel
theorem dJ13_bitCount_95d88_59 : decode cJ13_bitCount_95d88 59 = .ok (.iand, 1) := by decide +kernel
theorem dJ13_bitCount_95d88_60 : decode cJ13_bitCount_95d88 60 = .ok (.ireturn, 1) := by decide +kernel
theorem dJ0_length_8abf5_0 : decode cJ0_length_8abf5 0 = .ok (.aload_n 0, 1) := by decide +kernel
theorem dJ0_length_8abf5_1 : decode cJ0_length_8abf5 1 = .ok (.getfield 9, 3) := by decide +kernel
theorem dJ0_length_8abf5_4 : decode cJ0_length_8abf5 4 = .ok (.arraylength, 1) := by decide +kernel
theorem dJ0_length_8abf5_5 : decode cJ0_length_8abf5 5 = .ok (.aload_n 0, 1) := by decide +kernel
theorem dJ0_length_8abf5_6 : decode cJ0_length_8abf5 6 = .ok (.invokevirtual 335, 3) := by decide +kernel
theorem dJ0_length_8abf5_9 : decode cJ0_length_8abf5 9 = .ok (.ishr, 1) := by decide +kernel
theorem dJ0_length_8abf5_10 : decode cJ0_length_8abf5 10 = .ok (.ireturn, 1) := by decide +kernel
theorem dJ0_isEmpty_aae02_0 : decode cJ0_isEmpty_aae02 0 = .ok (.aload_n 0, 1) := by decide +kernel
theorem dJ0_isEmpty_aae02_1 : decode cJ0_isEmpty_aae02 1 = .ok (.getfield 9, 3) := by decide +kernel
theorem dJ0_isEmpty_aae02_4 : decode cJ0_isEmpty_aae02 4 = .ok (.arraylength, 1) := by decide +kernel
theorem dJ0_isEmpty_aae02_5 : decode cJ0_isEmpty_aae02 5 = .ok (.ifCond .ne 7, 3) := by decide +kernel
theorem dJ0_isEmpty_aae02_8 : decode cJ0_isEmpty_aae02 8 = .ok (.iconst 1, 1) := by decide +kernel
theorem dJ0_isEmpty_aae02_9 : decode cJ0_isEmpty_aae02 9 = .ok (.goto 4, 3) := by decide +kernel
theorem dJ0_isEmpty_aae02_12 : decode cJ0_isEmpty_aae02 12 = .ok (.iconst 0, 1) := by decide +kernel
theorem dJ0_isEmpty_aae02_13 : decode cJ0_isEmpty_aae02 13 = .ok (.ireturn, 1) := by decide +kernel
theorem dJ0_charAt_5068e_0 : decode cJ0_charAt_5068e 0 = .ok (.aload_n 0, 1) := by decide +kernel
theorem dJ0_charAt_5068e_1 : decode cJ0_charAt_5068e 1 = .ok (.invokevirtual 492, 3) := by decide +kernel
theorem dJ0_charAt_5068e_4 : decode cJ0_charAt_5068e 4 = .ok (.ifCond .eq 12, 3) := by decide +kernel
theorem dJ0_charAt_5068e_7 : decode cJ0_charAt_5068e 7 = .ok (.aload_n 0, 1) := by decide +kernel
theorem dJ0_charAt_5068e_8 : decode cJ0_charAt_5068e 8 = .ok (.getfield 9, 3) := by decide +kernel
theorem dJ0_charAt_5068e_11 : decode cJ0_charAt_5068e 11 = .ok (.iload_n 1, 1) := by decide +kernel
theorem dJ0_charAt_5068e_12 : decode cJ0_charAt_5068e 12 = .ok (.invokestatic 495, 3) := by decide +kernel
theorem dJ0_charAt_5068e_15 : decode cJ0_charAt_5068e 15 = .ok (.ireturn, 1) := by decide +kernel
theorem dJ0_charAt_5068e_16 : decode cJ0_charAt_5068e 16 = .ok (.aload_n 0, 1) := by decide +kernel
theorem dJ0_charAt_5068e_17 : decode cJ0_charAt_5068e 17 = .ok (.getfield 9, 3) := by decide +kernel
theorem dJ0_charAt_5068e_20 : decode cJ0_charAt_5068e 20 = .ok (.iload_n 1, 1) := by decide +kernel
theorem dJ0_charAt_5068e_21 : decode cJ0_charAt_5068e 21 = .ok (.invokestatic 498, 3) := by decide +kernel
theorem dJ0_charAt_5068e_24 : decode cJ0_charAt_5068e 24 = .ok (.ireturn, 1) := by decide +kernel
theorem dJ0_coder_7d493_0 : decode cJ0_coder_7d493 0 = .ok (.getstatic 38, 3) := by decide +kernel
theorem dJ0_coder_7d493_3 : decode cJ0_coder_7d493 3 = .ok (.ifCond .eq 10, 3) := by decide +kernel
theorem dJ0_coder_7d493_6 : decode cJ0_coder_7d493 6 = .ok (.aload_n 0, 1) := by decide +kernel
theorem dJ0_coder_7d493_7 : decode cJ0_coder_7d493 7 = .ok (.getfield 15, 3) := by decide +kernel
theorem dJ0_coder_7d493_10 : decode cJ0_coder_7d493 10 = .ok (.goto 4, 3) := by decide +kernel
theorem dJ0_coder_7d493_13 : decode cJ0_coder_7d493 13 = .ok (.iconst 1, 1) := by decide +kernel
theorem dJ0_coder_7d493_14 : decode cJ0_coder_7d493 14 = .ok (.ireturn, 1) := by decide +kernel
theorem dJ0_isLatin1_aae02_0 : decode cJ0_isLatin1_aae02 0 = .ok (.getstatic 38, 3) := by decide +kernel
theorem dJ0_isLatin1_aae02_3 : decode cJ0_isLatin1_aae02 3 = .ok (.ifCond .eq 14, 3) := by decide +kernel
theorem dJ0_isLatin1_aae02_6 : decode cJ0_isLatin1_aae02 6 = .ok (.aload_n 0, 1) := by decide +kernel
theorem dJ0_isLatin1_aae02_7 : decode cJ0_isLatin1_aae02 7 = .ok (.getfield 15, 3) := by decide +kernel
theorem dJ0_isLatin1_aae02_10 : decode cJ0_isLatin1_aae02 10 = .ok (.ifCond .ne 7, 3) := by decide +kernel
theorem dJ0_isLatin1_aae02_13 : decode cJ0_isLatin1_aae02 13 = .ok (.iconst 1, 1) := by decide +kernel
theorem dJ0_isLatin1_aae02_14 : decode cJ0_isLatin1_aae02 14 = .ok (.goto 4, 3) := by decide +kernel
theorem dJ0_isLatin1_aae02_17 : decode cJ0_isLatin1_aae02 17 = .ok (.iconst 0, 1) := by decide +kernel
theorem dJ0_isLatin1_aae02_18 : decode cJ0_isLatin1_aae02 18 = .ok (.ireturn, 1) := by decide +kernel
theorem dJ0_checkIndex_df160_0 : decode cJ0_checkIndex_df160 0 = .ok (.iload_n 0, 1) := by decide +kernel
theorem dJ0_checkIndex_df160_1 : decode cJ0_checkIndex_df160 1 = .ok (.iload_n 1, 1) := by decide +kernel
theorem dJ0_checkIndex_df160_2 : decode cJ0_checkIndex_df160 2 = .ok (.getstatic 1053, 3) := by decide +kernel
theorem dJ0_checkIndex_df160_5 : decode cJ0_checkIndex_df160 5 = .ok (.invokestatic 1059, 3) := by decide +kernel
theorem dJ0_checkIndex_df160_8 : decode cJ0_checkIndex_df160 8 = .ok (.pop, 1) := by decide +kernel
theorem dJ0_checkIndex_df160_9 : decode cJ0_checkIndex_df160 9 = .ok (.return_, 1) := by decide +kernel
theorem dJ1_charAt_3b067_0 : decode cJ1_charAt_3b067 0 = .ok (.iload_n 1, 1) := by decide +kernel
theorem dJ1_charAt_3b067_1 : decode cJ1_charAt_3b067 1 = .ok (.aload_n 0, 1) := by decide +kernel
theorem dJ1_charAt_3b067_2 : decode cJ1_charAt_3b067 2 = .ok (.arraylength, 1) := by decide +kernel
theorem dJ1_charAt_3b067_3 : decode cJ1_charAt_3b067 3 = .ok (.invokestatic 9, 3) := by decide +kernel
theorem dJ1_charAt_3b067_6 : decode cJ1_charAt_3b067 6 = .ok (.aload_n 0, 1) := by decide +kernel
theorem dJ1_charAt_3b067_7 : decode cJ1_charAt_3b067 7 = .ok (.iload_n 1, 1) := by decide +kernel
theorem dJ1_charAt_3b067_8 : decode cJ1_charAt_3b067 8 = .ok (.baload, 1) := by decide +kernel
theorem dJ1_charAt_3b067_9 : decode cJ1_charAt_3b067 9 = .ok (.sipush 255, 3) := by decide +kernel
theorem dJ1_charAt_3b067_12 : decode cJ1_charAt_3b067 12 = .ok (.iand, 1) := by decide +kernel
theorem dJ1_charAt_3b067_13 : decode cJ1_charAt_3b067 13 = .ok (.i2c, 1) := by decide +kernel
theorem dJ1_charAt_3b067_14 : decode cJ1_charAt_3b067 14 = .ok (.ireturn, 1) := by decide +kernel
theorem dJ2_getChar_3b067_0 : decode cJ2_getChar_3b067 0 = .ok (.getstatic 44, 3) := by decide +kernel
theorem dJ2_getChar_3b067_3 : decode cJ2_getChar_3b067 3 = .ok (.ifCond .ne 25, 3) := by decide +kernel
theorem dJ2_getChar_3b067_6 : decode cJ2_getChar_3b067 6 = .ok (.iload_n 1, 1) := by decide +kernel
theorem dJ2_getChar_3b067_7 : decode cJ2_getChar_3b067 7 = .ok (.ifCond .lt 11, 3) := by decide +kernel
theorem dJ2_getChar_3b067_10 : decode cJ2_getChar_3b067 10 = .ok (.iload_n 1, 1) := by decide +kernel
theorem dJ2_getChar_3b067_11 : decode cJ2_getChar_3b067 11 = .ok (.aload_n 0, 1) := by decide +kernel
theorem dJ2_getChar_3b067_12 : decode cJ2_getChar_3b067 12 = .ok (.invokestatic 48, 3) := by decide +kernel
theorem dJ2_getChar_3b067_15 : decode cJ2_getChar_3b067 15 = .ok (.if_icmp .lt 13, 3) := by decide +kernel
theorem dJ2_getChar_3b067_18 : decode cJ2_getChar_3b067 18 = .ok (.new 52, 3) := by decide +kernel
theorem dJ2_getChar_3b067_21 : decode cJ2_getChar_3b067 21 = .ok (.dup, 1) := by decide +kernel
theorem dJ2_getChar_3b067_22 : decode cJ2_getChar_3b067 22 = .ok (.ldc 54, 2) := by decide +kernel
theorem dJ2_getChar_3b067_24 : decode cJ2_getChar_3b067 24 = .ok (.invokespecial 56, 3) := by decide +kernel
theorem dJ2_getChar_3b067_27 : decode cJ2_getChar_3b067 27 = .ok (.athrow, 1) := by decide +kernel
theorem dJ2_getChar_3b067_28 : decode cJ2_getChar_3b067 28 = .ok (.iload_n 1, 1) := by decide +kernel
theorem dJ2_getChar_3b067_29 : decode cJ2_getChar_3b067 29 = .ok (.iconst 1, 1) := by decide +kernel
theorem dJ2_getChar_3b067_30 : decode cJ2_getChar_3b067 30 = .ok (.ishl, 1) := by decide +kernel
theorem dJ2_getChar_3b067_31 : decode cJ2_getChar_3b067 31 = .ok (.istore_n 1, 1) := by decide +kernel
theorem dJ2_getChar_3b067_32 : decode cJ2_getChar_3b067 32 = .ok (.aload_n 0, 1) := by decide +kernel
theorem dJ2_getChar_3b067_33 : decode cJ2_getChar_3b067 33 = .ok (.iload_n 1, 1) := by decide +kernel
theorem dJ2_getChar_3b067_34 : decode cJ2_getChar_3b067 34 = .ok (.iinc 1 1, 3) := by decide +kernel
theorem dJ2_getChar_3b067_37 : decode cJ2_getChar_3b067 37 = .ok (.baload, 1) := by decide +kernel
theorem dJ2_getChar_3b067_38 : decode cJ2_getChar_3b067 38 = .ok (.sipush 255, 3) := by decide +kernel
theorem dJ2_getChar_3b067_41 : decode cJ2_getChar_3b067 41 = .ok (.iand, 1) := by decide +kernel
theorem dJ2_getChar_3b067_42 : decode cJ2_getChar_3b067 42 = .ok (.getstatic 59, 3) := by decide +kernel
theorem dJ2_getChar_3b067_45 : decode cJ2_getChar_3b067 45 = .ok (.ishl, 1) := by decide +kernel
theorem dJ2_getChar_3b067_46 : decode cJ2_getChar_3b067 46 = .ok (.aload_n 0, 1) := by decide +kernel
theorem dJ2_getChar_3b067_47 : decode cJ2_getChar_3b067 47 = .ok (.iload_n 1, 1) := by decide +kernel
theorem dJ2_getChar_3b067_48 : decode cJ2_getChar_3b067 48 = .ok (.baload, 1) := by decide +kernel
theorem dJ2_getChar_3b067_49 : decode cJ2_getChar_3b067 49 = .ok (.sipush 255, 3) := by decide +kernel
theorem dJ2_getChar_3b067_52 : decode cJ2_getChar_3b067 52 = .ok (.iand, 1) := by decide +kernel
theorem dJ2_getChar_3b067_53 : decode cJ2_getChar_3b067 53 = .ok (.getstatic 63, 3) := by decide +kernel
theorem dJ2_getChar_3b067_56 : decode cJ2_getChar_3b067 56 = .ok (.ishl, 1) := by decide +kernel
theorem dJ2_getChar_3b067_57 : decode cJ2_getChar_3b067 57 = .ok (.ior, 1) := by decide +kernel
theorem dJ2_getChar_3b067_58 : decode cJ2_getChar_3b067 58 = .ok (.i2c, 1) := by decide +kernel
theorem dJ2_getChar_3b067_59 : decode cJ2_getChar_3b067 59 = .ok (.ireturn, 1) := by decide +kernel
theorem dJ2_length_9d52b_0 : decode cJ2_length_9d52b 0 = .ok (.aload_n 0, 1) := by decide +kernel
theorem dJ2_length_9d52b_1 : decode cJ2_length_9d52b 1 = .ok (.arraylength, 1) := by decide +kernel
theorem dJ2_length_9d52b_2 : decode cJ2_length_9d52b 2 = .ok (.iconst 1, 1) := by decide +kernel
theorem dJ2_length_9d52b_3 : decode cJ2_length_9d52b 3 = .ok (.ishr, 1) := by decide +kernel
theorem dJ2_length_9d52b_4 : decode cJ2_length_9d52b 4 = .ok (.ireturn, 1) := by decide +kernel
theorem dJ2_charAt_3b067_0 : decode cJ2_charAt_3b067 0 = .ok (.iload_n 1, 1) := by decide +kernel
theorem dJ2_charAt_3b067_1 : decode cJ2_charAt_3b067 1 = .ok (.aload_n 0, 1) := by decide +kernel
theorem dJ2_charAt_3b067_2 : decode cJ2_charAt_3b067 2 = .ok (.invokestatic 67, 3) := by decide +kernel
theorem dJ2_charAt_3b067_5 : decode cJ2_charAt_3b067 5 = .ok (.aload_n 0, 1) := by decide +kernel
theorem dJ2_charAt_3b067_6 : decode cJ2_charAt_3b067 6 = .ok (.iload_n 1, 1) := by decide +kernel
theorem dJ2_charAt_3b067_7 : decode cJ2_charAt_3b067 7 = .ok (.invokestatic 71, 3) := by decide +kernel
theorem dJ2_charAt_3b067_10 : decode cJ2_charAt_3b067 10 = .ok (.ireturn, 1) := by decide +kernel
theorem dJ2_checkIndex_2214a_0 : decode cJ2_checkIndex_2214a 0 = .ok (.iload_n 0, 1) := by decide +kernel
theorem dJ2_checkIndex_2214a_1 : decode cJ2_checkIndex_2214a 1 = .ok (.aload_n 1, 1) := by decide +kernel
theorem dJ2_checkIndex_2214a_2 : decode cJ2_checkIndex_2214a 2 = .ok (.invokestatic 48, 3) := by decide +kernel
theorem dJ2_checkIndex_2214a_5 : decode cJ2_checkIndex_2214a 5 = .ok (.invokestatic 414, 3) := by decide +kernel
theorem dJ2_checkIndex_2214a_8 : decode cJ2_checkIndex_2214a 8 = .ok (.return_, 1) := by decide +kernel
theorem dJ3_checkIndex_8e157_0 : decode cJ3_checkIndex_8e157 0 = .ok (.iload_n 0, 1) := by decide +kernel
theorem dJ3_checkIndex_8e157_1 : decode cJ3_checkIndex_8e157 1 = .ok (.ifCond .lt 8, 3) := by decide +kernel
theorem dJ3_checkIndex_8e157_4 : decode cJ3_checkIndex_8e157 4 = .ok (.iload_n 0, 1) := by decide +kernel
theorem dJ3_checkIndex_8e157_5 : decode cJ3_checkIndex_8e157 5 = .ok (.iload_n 1, 1) := by decide +kernel
theorem dJ3_checkIndex_8e157_6 : decode cJ3_checkIndex_8e157 6 = .ok (.if_icmp .lt 10, 3) := by decide +kernel
theorem dJ3_checkIndex_8e157_9 : decode cJ3_checkIndex_8e157 9 = .ok (.aload_n 2, 1) := by decide +kernel
theorem dJ3_checkIndex_8e157_10 : decode cJ3_checkIndex_8e157 10 = .ok (.iload_n 0, 1) := by decide +kernel
theorem dJ3_checkIndex_8e157_11 : decode cJ3_checkIndex_8e157 11 = .ok (.iload_n 1, 1) := by decide +kernel
theorem dJ3_checkIndex_8e157_12 : decode cJ3_checkIndex_8e157 12 = .ok (.invokestatic 95, 3) := by decide +kernel
theorem dJ3_checkIndex_8e157_15 : decode cJ3_checkIndex_8e157 15 = .ok (.athrow, 1) := by decide +kernel
theorem dJ3_checkIndex_8e157_16 : decode cJ3_checkIndex_8e157 16 = .ok (.iload_n 0, 1) := by decide +kernel
theorem dJ3_checkIndex_8e157_17 : decode cJ3_checkIndex_8e157 17 = .ok (.ireturn, 1) := by decide +kernel
theorem dL_law_0 : decode cL_law 0 = .ok (.new 7, 3) := by decide +kernel
theorem dL_law_3 : decode cL_law 3 = .ok (.dup, 1) := by decide +kernel
theorem dL_law_4 : decode cL_law 4 = .ok (.invokespecial 9, 3) := by decide +kernel
theorem dL_law_7 : decode cL_law 7 = .ok (.astore_n 1, 1) := by decide +kernel
theorem dL_law_8 : decode cL_law 8 = .ok (.new 10, 3) := by decide +kernel
theorem dL_law_11 : decode cL_law 11 = .ok (.dup, 1) := by decide +kernel
theorem dL_law_12 : decode cL_law 12 = .ok (.invokespecial 12, 3) := by decide +kernel
theorem dL_law_15 : decode cL_law 15 = .ok (.astore_n 2, 1) := by decide +kernel
theorem dL_law_16 : decode cL_law 16 = .ok (.iconst 0, 1) := by decide +kernel
theorem dL_law_17 : decode cL_law 17 = .ok (.istore_n 3, 1) := by decide +kernel
theorem dL_law_18 : decode cL_law 18 = .ok (.iload_n 3, 1) := by decide +kernel
theorem dL_law_19 : decode cL_law 19 = .ok (.aload_n 0, 1) := by decide +kernel
theorem dL_law_20 : decode cL_law 20 = .ok (.arraylength, 1) := by decide +kernel
theorem dL_law_21 : decode cL_law 21 = .ok (.iconst 4, 1) := by decide +kernel
theorem dL_law_22 : decode cL_law 22 = .ok (.isub, 1) := by decide +kernel
theorem dL_law_23 : decode cL_law 23 = .ok (.if_icmp .gt 1312, 3) := by decide +kernel
theorem dL_law_26 : decode cL_law 26 = .ok (.aload_n 0, 1) := by decide +kernel
theorem dL_law_27 : decode cL_law 27 = .ok (.iload_n 3, 1) := by decide +kernel
theorem dL_law_28 : decode cL_law 28 = .ok (.iaload, 1) := by decide +kernel
theorem dL_law_29 : decode cL_law 29 = .ok (.bipush 63, 2) := by decide +kernel
theorem dL_law_31 : decode cL_law 31 = .ok (.iand, 1) := by decide +kernel
theorem dL_law_32 : decode cL_law 32 = .ok (.tableswitch 1297 0 35 #[160, 183, 216, 239, 262, 311, 334, 357, 390, 414, 473, 532, 591, 624, 667, 710, 753, 796, 839, 872, 915, 948, 971, 994, 1017, 1030, 1043, 1066, 1089, 1128, 1151, 1164, 1205, 1258, 1271, 1284], 160) := by decide +kernel
theorem dL_law_192 : decode cL_law 192 = .ok (.aload_n 1, 1) := by decide +kernel
theorem dL_law_193 : decode cL_law 193 = .ok (.aload_n 0, 1) := by decide +kernel
theorem dL_law_194 : decode cL_law 194 = .ok (.iload_n 3, 1) := by decide +kernel
theorem dL_law_195 : decode cL_law 195 = .ok (.iconst 1, 1) := by decide +kernel
theorem dL_law_196 : decode cL_law 196 = .ok (.iadd, 1) := by decide +kernel
theorem dL_law_197 : decode cL_law 197 = .ok (.iaload, 1) := by decide +kernel
theorem dL_law_198 : decode cL_law 198 = .ok (.invokevirtual 13, 3) := by decide +kernel
theorem dL_law_201 : decode cL_law 201 = .ok (.aload_n 2, 1) := by decide +kernel
theorem dL_law_202 : decode cL_law 202 = .ok (.aload_n 0, 1) := by decide +kernel
theorem dL_law_203 : decode cL_law 203 = .ok (.iload_n 3, 1) := by decide +kernel
theorem dL_law_204 : decode cL_law 204 = .ok (.iconst 1, 1) := by decide +kernel
theorem dL_law_205 : decode cL_law 205 = .ok (.iadd, 1) := by decide +kernel
theorem dL_law_206 : decode cL_law 206 = .ok (.iaload, 1) := by decide +kernel
theorem dL_law_207 : decode cL_law 207 = .ok (.invokevirtual 17, 3) := by decide +kernel
theorem dL_law_210 : decode cL_law 210 = .ok (.if_icmp .eq 1119, 3) := by decide +kernel
theorem dL_law_213 : decode cL_law 213 = .ok (.iconst 0, 1) := by decide +kernel
theorem dL_law_214 : decode cL_law 214 = .ok (.ireturn, 1) := by decide +kernel
theorem dL_law_215 : decode cL_law 215 = .ok (.aload_n 1, 1) := by decide +kernel
theorem dL_law_216 : decode cL_law 216 = .ok (.aload_n 0, 1) := by decide +kernel
theorem dL_law_217 : decode cL_law 217 = .ok (.iload_n 3, 1) := by decide +kernel
theorem dL_law_218 : decode cL_law 218 = .ok (.iconst 1, 1) := by decide +kernel
theorem dL_law_219 : decode cL_law 219 = .ok (.iadd, 1) := by decide +kernel
theorem dL_law_220 : decode cL_law 220 = .ok (.iaload, 1) := by decide +kernel
theorem dL_law_221 : decode cL_law 221 = .ok (.aload_n 0, 1) := by decide +kernel
theorem dL_law_222 : decode cL_law 222 = .ok (.iload_n 3, 1) := by decide +kernel
theorem dL_law_223 : decode cL_law 223 = .ok (.iconst 2, 1) := by decide +kernel
theorem dL_law_224 : decode cL_law 224 = .ok (.iadd, 1) := by decide +kernel
theorem dL_law_225 : decode cL_law 225 = .ok (.iaload, 1) := by decide +kernel
theorem dL_law_226 : decode cL_law 226 = .ok (.invokevirtual 18, 3) := by decide +kernel
theorem dL_law_229 : decode cL_law 229 = .ok (.aload_n 2, 1) := by decide +kernel
theorem dL_law_230 : decode cL_law 230 = .ok (.aload_n 0, 1) := by decide +kernel
theorem dL_law_231 : decode cL_law 231 = .ok (.iload_n 3, 1) := by decide +kernel
theorem dL_law_232 : decode cL_law 232 = .ok (.iconst 1, 1) := by decide +kernel
theorem dL_law_233 : decode cL_law 233 = .ok (.iadd, 1) := by decide +kernel
theorem dL_law_234 : decode cL_law 234 = .ok (.iaload, 1) := by decide +kernel
theorem dL_law_235 : decode cL_law 235 = .ok (.aload_n 0, 1) := by decide +kernel
theorem dL_law_236 : decode cL_law 236 = .ok (.iload_n 3, 1) := by decide +kernel
theorem dL_law_237 : decode cL_law 237 = .ok (.iconst 2, 1) := by decide +kernel
theorem dL_law_238 : decode cL_law 238 = .ok (.iadd, 1) := by decide +kernel
theorem dL_law_239 : decode cL_law 239 = .ok (.iaload, 1) := by decide +kernel
theorem dL_law_240 : decode cL_law 240 = .ok (.invokevirtual 22, 3) := by decide +kernel
theorem dL_law_243 : decode cL_law 243 = .ok (.if_icmp .eq 1086, 3) := by decide +kernel
theorem dL_law_246 : decode cL_law 246 = .ok (.iconst 0, 1) := by decide +kernel
theorem dL_law_247 : decode cL_law 247 = .ok (.ireturn, 1) := by decide +kernel
theorem dL_law_248 : decode cL_law 248 = .ok (.aload_n 1, 1) := by decide +kernel
theorem dL_law_249 : decode cL_law 249 = .ok (.aload_n 0, 1) := by decide +kernel
theorem dL_law_250 : decode cL_law 250 = .ok (.iload_n 3, 1) := by decide +kernel
theorem dL_law_251 : decode cL_law 251 = .ok (.iconst 1, 1) := by decide +kernel
theorem dL_law_252 : decode cL_law 252 = .ok (.iadd, 1) := by decide +kernel
theorem dL_law_253 : decode cL_law 253 = .ok (.iaload, 1) := by decide +kernel
theorem dL_law_254 : decode cL_law 254 = .ok (.invokevirtual 23, 3) := by decide +kernel
theorem dL_law_257 : decode cL_law 257 = .ok (.aload_n 2, 1) := by decide +kernel
theorem dL_law_258 : decode cL_law 258 = .ok (.aload_n 0, 1) := by decide +kernel
theorem dL_law_259 : decode cL_law 259 = .ok (.iload_n 3, 1) := by decide +kernel
theorem dL_law_260 : decode cL_law 260 = .ok (.iconst 1, 1) := by decide +kernel
theorem dL_law_261 : decode cL_law 261 = .ok (.iadd, 1) := by decide +kernel
theorem dL_law_262 : decode cL_law 262 = .ok (.iaload, 1) := by decide +kernel
theorem dL_law_263 : decode cL_law 263 = .ok (.invokevirtual 26, 3) := by decide +kernel
theorem dL_law_266 : decode cL_law 266 = .ok (.if_icmp .eq 1063, 3) := by decide +kernel
theorem dL_law_269 : decode cL_law 269 = .ok (.iconst 0, 1) := by decide +kernel
theorem dL_law_270 : decode cL_law 270 = .ok (.ireturn, 1) := by decide +kernel
theorem dL_law_271 : decode cL_law 271 = .ok (.aload_n 1, 1) := by decide +kernel
theorem dL_law_272 : decode cL_law 272 = .ok (.aload_n 0, 1) := by decide +kernel
theorem dL_law_273 : decode cL_law 273 = .ok (.iload_n 3, 1) := by decide +kernel
theorem dL_law_274 : decode cL_law 274 = .ok (.iconst 1, 1) := by decide +kernel
theorem dL_law_275 : decode cL_law 275 = .ok (.iadd, 1) := by decide +kernel
theorem dL_law_276 : decode cL_law 276 = .ok (.iaload, 1) := by decide +kernel
theorem dL_law_277 : decode cL_law 277 = .ok (.invokevirtual 27, 3) := by decide +kernel
theorem dL_law_280 : decode cL_law 280 = .ok (.aload_n 2, 1) := by decide +kernel
theorem dL_law_281 : decode cL_law 281 = .ok (.aload_n 0, 1) := by decide +kernel
theorem dL_law_282 : decode cL_law 282 = .ok (.iload_n 3, 1) := by decide +kernel
theorem dL_law_283 : decode cL_law 283 = .ok (.iconst 1, 1) := by decide +kernel
theorem dL_law_284 : decode cL_law 284 = .ok (.iadd, 1) := by decide +kernel
theorem dL_law_285 : decode cL_law 285 = .ok (.iaload, 1) := by decide +kernel
theorem dL_law_286 : decode cL_law 286 = .ok (.invokevirtual 30, 3) := by decide +kernel
theorem dL_law_289 : decode cL_law 289 = .ok (.if_icmp .eq 1040, 3) := by decide +kernel
theorem dL_law_292 : decode cL_law 292 = .ok (.iconst 0, 1) := by decide +kernel
theorem dL_law_293 : decode cL_law 293 = .ok (.ireturn, 1) := by decide +kernel
theorem dL_law_294 : decode cL_law 294 = .ok (.aload_n 1, 1) := by decide +kernel
theorem dL_law_295 : decode cL_law 295 = .ok (.aload_n 0, 1) := by decide +kernel
theorem dL_law_296 : decode cL_law 296 = .ok (.iload_n 3, 1) := by decide +kernel
theorem dL_law_297 : decode cL_law 297 = .ok (.iconst 1, 1) := by decide +kernel
theorem dL_law_298 : decode cL_law 298 = .ok (.iadd, 1) := by decide +kernel
theorem dL_law_299 : decode cL_law 299 = .ok (.iaload, 1) := by decide +kernel
theorem dL_law_300 : decode cL_law 300 = .ok (.aload_n 0, 1) := by decide +kernel
theorem dL_law_301 : decode cL_law 301 = .ok (.iload_n 3, 1) := by decide +kernel
theorem dL_law_302 : decode cL_law 302 = .ok (.iconst 2, 1) := by decide +kernel
theorem dL_law_303 : decode cL_law 303 = .ok (.iadd, 1) := by decide +kernel
theorem dL_law_304 : decode cL_law 304 = .ok (.iaload, 1) := by decide +kernel
theorem dL_law_305 : decode cL_law 305 = .ok (.ifCond .eq 7, 3) := by decide +kernel
theorem dL_law_308 : decode cL_law 308 = .ok (.iconst 1, 1) := by decide +kernel
theorem dL_law_309 : decode cL_law 309 = .ok (.goto 4, 3) := by decide +kernel
theorem dL_law_312 : decode cL_law 312 = .ok (.iconst 0, 1) := by decide +kernel
theorem dL_law_313 : decode cL_law 313 = .ok (.invokevirtual 31, 3) := by decide +kernel
theorem dL_law_316 : decode cL_law 316 = .ok (.aload_n 2, 1) := by decide +kernel
theorem dL_law_317 : decode cL_law 317 = .ok (.aload_n 0, 1) := by decide +kernel
theorem dL_law_318 : decode cL_law 318 = .ok (.iload_n 3, 1) := by decide +kernel
theorem dL_law_319 : decode cL_law 319 = .ok (.iconst 1, 1) := by decide +kernel
theorem dL_law_320 : decode cL_law 320 = .ok (.iadd, 1) := by decide +kernel
theorem dL_law_321 : decode cL_law 321 = .ok (.iaload, 1) := by decide +kernel
theorem dL_law_322 : decode cL_law 322 = .ok (.aload_n 0, 1) := by decide +kernel
theorem dL_law_323 : decode cL_law 323 = .ok (.iload_n 3, 1) := by decide +kernel
theorem dL_law_324 : decode cL_law 324 = .ok (.iconst 2, 1) := by decide +kernel
theorem dL_law_325 : decode cL_law 325 = .ok (.iadd, 1) := by decide +kernel
theorem dL_law_326 : decode cL_law 326 = .ok (.iaload, 1) := by decide +kernel
theorem dL_law_327 : decode cL_law 327 = .ok (.ifCond .eq 7, 3) := by decide +kernel
theorem dL_law_330 : decode cL_law 330 = .ok (.iconst 1, 1) := by decide +kernel
theorem dL_law_331 : decode cL_law 331 = .ok (.goto 4, 3) := by decide +kernel
theorem dL_law_334 : decode cL_law 334 = .ok (.iconst 0, 1) := by decide +kernel
theorem dL_law_335 : decode cL_law 335 = .ok (.invokevirtual 35, 3) := by decide +kernel
theorem dL_law_338 : decode cL_law 338 = .ok (.if_icmp .eq 991, 3) := by decide +kernel
theorem dL_law_341 : decode cL_law 341 = .ok (.iconst 0, 1) := by decide +kernel
theorem dL_law_342 : decode cL_law 342 = .ok (.ireturn, 1) := by decide +kernel
theorem dL_law_343 : decode cL_law 343 = .ok (.aload_n 1, 1) := by decide +kernel
theorem dL_law_344 : decode cL_law 344 = .ok (.aload_n 0, 1) := by decide +kernel
theorem dL_law_345 : decode cL_law 345 = .ok (.iload_n 3, 1) := by decide +kernel
theorem dL_law_346 : decode cL_law 346 = .ok (.iconst 1, 1) := by decide +kernel
theorem dL_law_347 : decode cL_law 347 = .ok (.iadd, 1) := by decide +kernel
theorem dL_law_348 : decode cL_law 348 = .ok (.iaload, 1) := by decide +kernel
theorem dL_law_349 : decode cL_law 349 = .ok (.invokevirtual 36, 3) := by decide +kernel
theorem dL_law_352 : decode cL_law 352 = .ok (.aload_n 2, 1) := by decide +kernel
theorem dL_law_353 : decode cL_law 353 = .ok (.aload_n 0, 1) := by decide +kernel
theorem dL_law_354 : decode cL_law 354 = .ok (.iload_n 3, 1) := by decide +kernel
theorem dL_law_355 : decode cL_law 355 = .ok (.iconst 1, 1) := by decide +kernel
theorem dL_law_356 : decode cL_law 356 = .ok (.iadd, 1) := by decide +kernel
theorem dL_law_357 : decode cL_law 357 = .ok (.iaload, 1) := by decide +kernel
theorem dL_law_358 : decode cL_law 358 = .ok (.invokevirtual 39, 3) := by decide +kernel
theorem dL_law_361 : decode cL_law 361 = .ok (.if_icmp .eq 968, 3) := by decide +kernel
theorem dL_law_364 : decode cL_law 364 = .ok (.iconst 0, 1) := by decide +kernel
theorem dL_law_365 : decode cL_law 365 = .ok (.ireturn, 1) := by decide +kernel
theorem dL_law_366 : decode cL_law 366 = .ok (.aload_n 1, 1) := by decide +kernel
theorem dL_law_367 : decode cL_law 367 = .ok (.aload_n 0, 1) := by decide +kernel
theorem dL_law_368 : decode cL_law 368 = .ok (.iload_n 3, 1) := by decide +kernel
theorem dL_law_369 : decode cL_law 369 = .ok (.iconst 1, 1) := by decide +kernel
theorem dL_law_370 : decode cL_law 370 = .ok (.iadd, 1) := by decide +kernel
theorem dL_law_371 : decode cL_law 371 = .ok (.iaload, 1) := by decide +kernel
theorem dL_law_372 : decode cL_law 372 = .ok (.invokevirtual 40, 3) := by decide +kernel
theorem dL_law_375 : decode cL_law 375 = .ok (.aload_n 2, 1) := by decide +kernel
theorem dL_law_376 : decode cL_law 376 = .ok (.aload_n 0, 1) := by decide +kernel
theorem dL_law_377 : decode cL_law 377 = .ok (.iload_n 3, 1) := by decide +kernel
theorem dL_law_378 : decode cL_law 378 = .ok (.iconst 1, 1) := by decide +kernel
theorem dL_law_379 : decode cL_law 379 = .ok (.iadd, 1) := by decide +kernel
theorem dL_law_380 : decode cL_law 380 = .ok (.iaload, 1) := by decide +kernel
theorem dL_law_381 : decode cL_law 381 = .ok (.invokevirtual 43, 3) := by decide +kernel
theorem dL_law_384 : decode cL_law 384 = .ok (.if_icmp .eq 945, 3) := by decide +kernel
theorem dL_law_387 : decode cL_law 387 = .ok (.iconst 0, 1) := by decide +kernel
theorem dL_law_388 : decode cL_law 388 = .ok (.ireturn, 1) := by decide +kernel
theorem dL_law_389 : decode cL_law 389 = .ok (.aload_n 1, 1) := by decide +kernel
theorem dL_law_390 : decode cL_law 390 = .ok (.aload_n 0, 1) := by decide +kernel
theorem dL_law_391 : decode cL_law 391 = .ok (.iload_n 3, 1) := by decide +kernel
theorem dL_law_392 : decode cL_law 392 = .ok (.iconst 1, 1) := by decide +kernel
theorem dL_law_393 : decode cL_law 393 = .ok (.iadd, 1) := by decide +kernel
theorem dL_law_394 : decode cL_law 394 = .ok (.iaload, 1) := by decide +kernel
theorem dL_law_395 : decode cL_law 395 = .ok (.aload_n 0, 1) := by decide +kernel
theorem dL_law_396 : decode cL_law 396 = .ok (.iload_n 3, 1) := by decide +kernel
theorem dL_law_397 : decode cL_law 397 = .ok (.iconst 2, 1) := by decide +kernel
theorem dL_law_398 : decode cL_law 398 = .ok (.iadd, 1) := by decide +kernel
theorem dL_law_399 : decode cL_law 399 = .ok (.iaload, 1) := by decide +kernel
theorem dL_law_400 : decode cL_law 400 = .ok (.invokevirtual 44, 3) := by decide +kernel
theorem dL_law_403 : decode cL_law 403 = .ok (.aload_n 2, 1) := by decide +kernel
theorem dL_law_404 : decode cL_law 404 = .ok (.aload_n 0, 1) := by decide +kernel
theorem dL_law_405 : decode cL_law 405 = .ok (.iload_n 3, 1) := by decide +kernel
theorem dL_law_406 : decode cL_law 406 = .ok (.iconst 1, 1) := by decide +kernel
theorem dL_law_407 : decode cL_law 407 = .ok (.iadd, 1) := by decide +kernel
theorem dL_law_408 : decode cL_law 408 = .ok (.iaload, 1) := by decide +kernel
theorem dL_law_409 : decode cL_law 409 = .ok (.aload_n 0, 1) := by decide +kernel
theorem dL_law_410 : decode cL_law 410 = .ok (.iload_n 3, 1) := by decide +kernel
theorem dL_law_411 : decode cL_law 411 = .ok (.iconst 2, 1) := by decide +kernel
theorem dL_law_412 : decode cL_law 412 = .ok (.iadd, 1) := by decide +kernel
theorem dL_law_413 : decode cL_law 413 = .ok (.iaload, 1) := by decide +kernel
theorem dL_law_414 : decode cL_law 414 = .ok (.invokevirtual 47, 3) := by decide +kernel
theorem dL_law_417 : decode cL_law 417 = .ok (.if_icmp .eq 912, 3) := by decide +kernel
theorem dL_law_420 : decode cL_law 420 = .ok (.iconst 0, 1) := by decide +kernel
theorem dL_law_421 : decode cL_law 421 = .ok (.ireturn, 1) := by decide +kernel
theorem dL_law_422 : decode cL_law 422 = .ok (.aload_n 1, 1) := by decide +kernel
theorem dL_law_423 : decode cL_law 423 = .ok (.aload_n 0, 1) := by decide +kernel
theorem dL_law_424 : decode cL_law 424 = .ok (.iload_n 3, 1) := by decide +kernel
theorem dL_law_425 : decode cL_law 425 = .ok (.iconst 1, 1) := by decide +kernel
theorem dL_law_426 : decode cL_law 426 = .ok (.iadd, 1) := by decide +kernel
theorem dL_law_427 : decode cL_law 427 = .ok (.iaload, 1) := by decide +kernel
theorem dL_law_428 : decode cL_law 428 = .ok (.invokevirtual 48, 3) := by decide +kernel
theorem dL_law_431 : decode cL_law 431 = .ok (.aload_n 2, 1) := by decide +kernel
theorem dL_law_432 : decode cL_law 432 = .ok (.aload_n 0, 1) := by decide +kernel
theorem dL_law_433 : decode cL_law 433 = .ok (.iload_n 3, 1) := by decide +kernel
theorem dL_law_434 : decode cL_law 434 = .ok (.iconst 1, 1) := by decide +kernel
theorem dL_law_435 : decode cL_law 435 = .ok (.iadd, 1) := by decide +kernel
theorem dL_law_436 : decode cL_law 436 = .ok (.iaload, 1) := by decide +kernel
theorem dL_law_437 : decode cL_law 437 = .ok (.invokevirtual 52, 3) := by decide +kernel
theorem dL_law_440 : decode cL_law 440 = .ok (.lcmp, 1) := by decide +kernel
theorem dL_law_441 : decode cL_law 441 = .ok (.ifCond .eq 888, 3) := by decide +kernel
theorem dL_law_444 : decode cL_law 444 = .ok (.iconst 0, 1) := by decide +kernel
theorem dL_law_445 : decode cL_law 445 = .ok (.ireturn, 1) := by decide +kernel
theorem dL_law_446 : decode cL_law 446 = .ok (.aload_n 1, 1) := by decide +kernel
theorem dL_law_447 : decode cL_law 447 = .ok (.aload_n 0, 1) := by decide +kernel
theorem dL_law_448 : decode cL_law 448 = .ok (.iload_n 3, 1) := by decide +kernel
theorem dL_law_449 : decode cL_law 449 = .ok (.iconst 1, 1) := by decide +kernel
theorem dL_law_450 : decode cL_law 450 = .ok (.iadd, 1) := by decide +kernel
theorem dL_law_451 : decode cL_law 451 = .ok (.iaload, 1) := by decide +kernel
theorem dL_law_452 : decode cL_law 452 = .ok (.aload_n 0, 1) := by decide +kernel
theorem dL_law_453 : decode cL_law 453 = .ok (.iload_n 3, 1) := by decide +kernel
theorem dL_law_454 : decode cL_law 454 = .ok (.iconst 2, 1) := by decide +kernel
theorem dL_law_455 : decode cL_law 455 = .ok (.iadd, 1) := by decide +kernel
theorem dL_law_456 : decode cL_law 456 = .ok (.iaload, 1) := by decide +kernel
theorem dL_law_457 : decode cL_law 457 = .ok (.ifCond .eq 7, 3) := by decide +kernel
theorem dL_law_460 : decode cL_law 460 = .ok (.iconst 1, 1) := by decide +kernel
theorem dL_law_461 : decode cL_law 461 = .ok (.goto 4, 3) := by decide +kernel
theorem dL_law_464 : decode cL_law 464 = .ok (.iconst 0, 1) := by decide +kernel
theorem dL_law_465 : decode cL_law 465 = .ok (.aload_n 0, 1) := by decide +kernel
theorem dL_law_466 : decode cL_law 466 = .ok (.iload_n 3, 1) := by decide +kernel
theorem dL_law_467 : decode cL_law 467 = .ok (.iconst 3, 1) := by decide +kernel
theorem dL_law_468 : decode cL_law 468 = .ok (.iadd, 1) := by decide +kernel
theorem dL_law_469 : decode cL_law 469 = .ok (.iaload, 1) := by decide +kernel
theorem dL_law_470 : decode cL_law 470 = .ok (.invokevirtual 53, 3) := by decide +kernel
theorem dL_law_473 : decode cL_law 473 = .ok (.aload_n 2, 1) := by decide +kernel
theorem dL_law_474 : decode cL_law 474 = .ok (.aload_n 0, 1) := by decide +kernel
theorem dL_law_475 : decode cL_law 475 = .ok (.iload_n 3, 1) := by decide +kernel
theorem dL_law_476 : decode cL_law 476 = .ok (.iconst 1, 1) := by decide +kernel
theorem dL_law_477 : decode cL_law 477 = .ok (.iadd, 1) := by decide +kernel
theorem dL_law_478 : decode cL_law 478 = .ok (.iaload, 1) := by decide +kernel
theorem dL_law_479 : decode cL_law 479 = .ok (.aload_n 0, 1) := by decide +kernel
theorem dL_law_480 : decode cL_law 480 = .ok (.iload_n 3, 1) := by decide +kernel
theorem dL_law_481 : decode cL_law 481 = .ok (.iconst 2, 1) := by decide +kernel
theorem dL_law_482 : decode cL_law 482 = .ok (.iadd, 1) := by decide +kernel
theorem dL_law_483 : decode cL_law 483 = .ok (.iaload, 1) := by decide +kernel
theorem dL_law_484 : decode cL_law 484 = .ok (.ifCond .eq 7, 3) := by decide +kernel
theorem dL_law_487 : decode cL_law 487 = .ok (.iconst 1, 1) := by decide +kernel
theorem dL_law_488 : decode cL_law 488 = .ok (.goto 4, 3) := by decide +kernel
theorem dL_law_491 : decode cL_law 491 = .ok (.iconst 0, 1) := by decide +kernel
theorem dL_law_492 : decode cL_law 492 = .ok (.aload_n 0, 1) := by decide +kernel
theorem dL_law_493 : decode cL_law 493 = .ok (.iload_n 3, 1) := by decide +kernel
theorem dL_law_494 : decode cL_law 494 = .ok (.iconst 3, 1) := by decide +kernel
theorem dL_law_495 : decode cL_law 495 = .ok (.iadd, 1) := by decide +kernel
theorem dL_law_496 : decode cL_law 496 = .ok (.iaload, 1) := by decide +kernel
theorem dL_law_497 : decode cL_law 497 = .ok (.invokevirtual 57, 3) := by decide +kernel
theorem dL_law_500 : decode cL_law 500 = .ok (.if_icmp .eq 829, 3) := by decide +kernel
theorem dL_law_503 : decode cL_law 503 = .ok (.iconst 0, 1) := by decide +kernel
theorem dL_law_504 : decode cL_law 504 = .ok (.ireturn, 1) := by decide +kernel
theorem dL_law_505 : decode cL_law 505 = .ok (.aload_n 1, 1) := by decide +kernel
theorem dL_law_506 : decode cL_law 506 = .ok (.aload_n 0, 1) := by decide +kernel
theorem dL_law_507 : decode cL_law 507 = .ok (.iload_n 3, 1) := by decide +kernel
theorem dL_law_508 : decode cL_law 508 = .ok (.iconst 1, 1) := by decide +kernel
theorem dL_law_509 : decode cL_law 509 = .ok (.iadd, 1) := by decide +kernel
theorem dL_law_510 : decode cL_law 510 = .ok (.iaload, 1) := by decide +kernel
theorem dL_law_511 : decode cL_law 511 = .ok (.aload_n 0, 1) := by decide +kernel
theorem dL_law_512 : decode cL_law 512 = .ok (.iload_n 3, 1) := by decide +kernel
theorem dL_law_513 : decode cL_law 513 = .ok (.iconst 2, 1) := by decide +kernel
theorem dL_law_514 : decode cL_law 514 = .ok (.iadd, 1) := by decide +kernel
theorem dL_law_515 : decode cL_law 515 = .ok (.iaload, 1) := by decide +kernel
theorem dL_law_516 : decode cL_law 516 = .ok (.ifCond .eq 7, 3) := by decide +kernel
theorem dL_law_519 : decode cL_law 519 = .ok (.iconst 1, 1) := by decide +kernel
theorem dL_law_520 : decode cL_law 520 = .ok (.goto 4, 3) := by decide +kernel
theorem dL_law_523 : decode cL_law 523 = .ok (.iconst 0, 1) := by decide +kernel
theorem dL_law_524 : decode cL_law 524 = .ok (.aload_n 0, 1) := by decide +kernel
theorem dL_law_525 : decode cL_law 525 = .ok (.iload_n 3, 1) := by decide +kernel
theorem dL_law_526 : decode cL_law 526 = .ok (.iconst 3, 1) := by decide +kernel
theorem dL_law_527 : decode cL_law 527 = .ok (.iadd, 1) := by decide +kernel
theorem dL_law_528 : decode cL_law 528 = .ok (.iaload, 1) := by decide +kernel
theorem dL_law_529 : decode cL_law 529 = .ok (.invokevirtual 58, 3) := by decide +kernel
theorem dL_law_532 : decode cL_law 532 = .ok (.aload_n 2, 1) := by decide +kernel
theorem dL_law_533 : decode cL_law 533 = .ok (.aload_n 0, 1) := by decide +kernel
theorem dL_law_534 : decode cL_law 534 = .ok (.iload_n 3, 1) := by decide +kernel
theorem dL_law_535 : decode cL_law 535 = .ok (.iconst 1, 1) := by decide +kernel
theorem dL_law_536 : decode cL_law 536 = .ok (.iadd, 1) := by decide +kernel
theorem dL_law_537 : decode cL_law 537 = .ok (.iaload, 1) := by decide +kernel
theorem dL_law_538 : decode cL_law 538 = .ok (.aload_n 0, 1) := by decide +kernel
theorem dL_law_539 : decode cL_law 539 = .ok (.iload_n 3, 1) := by decide +kernel
theorem dL_law_540 : decode cL_law 540 = .ok (.iconst 2, 1) := by decide +kernel
theorem dL_law_541 : decode cL_law 541 = .ok (.iadd, 1) := by decide +kernel
theorem dL_law_542 : decode cL_law 542 = .ok (.iaload, 1) := by decide +kernel
theorem dL_law_543 : decode cL_law 543 = .ok (.ifCond .eq 7, 3) := by decide +kernel
theorem dL_law_546 : decode cL_law 546 = .ok (.iconst 1, 1) := by decide +kernel
theorem dL_law_547 : decode cL_law 547 = .ok (.goto 4, 3) := by decide +kernel
theorem dL_law_550 : decode cL_law 550 = .ok (.iconst 0, 1) := by decide +kernel
theorem dL_law_551 : decode cL_law 551 = .ok (.aload_n 0, 1) := by decide +kernel
theorem dL_law_552 : decode cL_law 552 = .ok (.iload_n 3, 1) := by decide +kernel
theorem dL_law_553 : decode cL_law 553 = .ok (.iconst 3, 1) := by decide +kernel
theorem dL_law_554 : decode cL_law 554 = .ok (.iadd, 1) := by decide +kernel
theorem dL_law_555 : decode cL_law 555 = .ok (.iaload, 1) := by decide +kernel
theorem dL_law_556 : decode cL_law 556 = .ok (.invokevirtual 61, 3) := by decide +kernel
theorem dL_law_559 : decode cL_law 559 = .ok (.if_icmp .eq 770, 3) := by decide +kernel
theorem dL_law_562 : decode cL_law 562 = .ok (.iconst 0, 1) := by decide +kernel
theorem dL_law_563 : decode cL_law 563 = .ok (.ireturn, 1) := by decide +kernel
theorem dL_law_564 : decode cL_law 564 = .ok (.aload_n 1, 1) := by decide +kernel
theorem dL_law_565 : decode cL_law 565 = .ok (.aload_n 0, 1) := by decide +kernel
theorem dL_law_566 : decode cL_law 566 = .ok (.iload_n 3, 1) := by decide +kernel
theorem dL_law_567 : decode cL_law 567 = .ok (.iconst 1, 1) := by decide +kernel
theorem dL_law_568 : decode cL_law 568 = .ok (.iadd, 1) := by decide +kernel
theorem dL_law_569 : decode cL_law 569 = .ok (.iaload, 1) := by decide +kernel
theorem dL_law_570 : decode cL_law 570 = .ok (.aload_n 0, 1) := by decide +kernel
theorem dL_law_571 : decode cL_law 571 = .ok (.iload_n 3, 1) := by decide +kernel
theorem dL_law_572 : decode cL_law 572 = .ok (.iconst 2, 1) := by decide +kernel
theorem dL_law_573 : decode cL_law 573 = .ok (.iadd, 1) := by decide +kernel
theorem dL_law_574 : decode cL_law 574 = .ok (.iaload, 1) := by decide +kernel
theorem dL_law_575 : decode cL_law 575 = .ok (.ifCond .eq 7, 3) := by decide +kernel
theorem dL_law_578 : decode cL_law 578 = .ok (.iconst 1, 1) := by decide +kernel
theorem dL_law_579 : decode cL_law 579 = .ok (.goto 4, 3) := by decide +kernel
theorem dL_law_582 : decode cL_law 582 = .ok (.iconst 0, 1) := by decide +kernel
theorem dL_law_583 : decode cL_law 583 = .ok (.aload_n 0, 1) := by decide +kernel
theorem dL_law_584 : decode cL_law 584 = .ok (.iload_n 3, 1) := by decide +kernel
theorem dL_law_585 : decode cL_law 585 = .ok (.iconst 3, 1) := by decide +kernel
theorem dL_law_586 : decode cL_law 586 = .ok (.iadd, 1) := by decide +kernel
theorem dL_law_587 : decode cL_law 587 = .ok (.iaload, 1) := by decide +kernel
theorem dL_law_588 : decode cL_law 588 = .ok (.invokevirtual 62, 3) := by decide +kernel
theorem dL_law_591 : decode cL_law 591 = .ok (.aload_n 2, 1) := by decide +kernel
theorem dL_law_592 : decode cL_law 592 = .ok (.aload_n 0, 1) := by decide +kernel
theorem dL_law_593 : decode cL_law 593 = .ok (.iload_n 3, 1) := by decide +kernel
theorem dL_law_594 : decode cL_law 594 = .ok (.iconst 1, 1) := by decide +kernel
theorem dL_law_595 : decode cL_law 595 = .ok (.iadd, 1) := by decide +kernel
theorem dL_law_596 : decode cL_law 596 = .ok (.iaload, 1) := by decide +kernel
theorem dL_law_597 : decode cL_law 597 = .ok (.aload_n 0, 1) := by decide +kernel
theorem dL_law_598 : decode cL_law 598 = .ok (.iload_n 3, 1) := by decide +kernel
theorem dL_law_599 : decode cL_law 599 = .ok (.iconst 2, 1) := by decide +kernel
theorem dL_law_600 : decode cL_law 600 = .ok (.iadd, 1) := by decide +kernel
theorem dL_law_601 : decode cL_law 601 = .ok (.iaload, 1) := by decide +kernel
theorem dL_law_602 : decode cL_law 602 = .ok (.ifCond .eq 7, 3) := by decide +kernel
theorem dL_law_605 : decode cL_law 605 = .ok (.iconst 1, 1) := by decide +kernel
theorem dL_law_606 : decode cL_law 606 = .ok (.goto 4, 3) := by decide +kernel
theorem dL_law_609 : decode cL_law 609 = .ok (.iconst 0, 1) := by decide +kernel
theorem dL_law_610 : decode cL_law 610 = .ok (.aload_n 0, 1) := by decide +kernel
theorem dL_law_611 : decode cL_law 611 = .ok (.iload_n 3, 1) := by decide +kernel
theorem dL_law_612 : decode cL_law 612 = .ok (.iconst 3, 1) := by decide +kernel
theorem dL_law_613 : decode cL_law 613 = .ok (.iadd, 1) := by decide +kernel
theorem dL_law_614 : decode cL_law 614 = .ok (.iaload, 1) := by decide +kernel
theorem dL_law_615 : decode cL_law 615 = .ok (.invokevirtual 65, 3) := by decide +kernel
theorem dL_law_618 : decode cL_law 618 = .ok (.if_icmp .eq 711, 3) := by decide +kernel
theorem dL_law_621 : decode cL_law 621 = .ok (.iconst 0, 1) := by decide +kernel
theorem dL_law_622 : decode cL_law 622 = .ok (.ireturn, 1) := by decide +kernel
theorem dL_law_623 : decode cL_law 623 = .ok (.aload_n 1, 1) := by decide +kernel
theorem dL_law_624 : decode cL_law 624 = .ok (.aload_n 0, 1) := by decide +kernel
theorem dL_law_625 : decode cL_law 625 = .ok (.iload_n 3, 1) := by decide +kernel
theorem dL_law_626 : decode cL_law 626 = .ok (.iconst 1, 1) := by decide +kernel
theorem dL_law_627 : decode cL_law 627 = .ok (.iadd, 1) := by decide +kernel
theorem dL_law_628 : decode cL_law 628 = .ok (.iaload, 1) := by decide +kernel
theorem dL_law_629 : decode cL_law 629 = .ok (.aload_n 0, 1) := by decide +kernel
theorem dL_law_630 : decode cL_law 630 = .ok (.iload_n 3, 1) := by decide +kernel
theorem dL_law_631 : decode cL_law 631 = .ok (.iconst 2, 1) := by decide +kernel
theorem dL_law_632 : decode cL_law 632 = .ok (.iadd, 1) := by decide +kernel
theorem dL_law_633 : decode cL_law 633 = .ok (.iaload, 1) := by decide +kernel
theorem dL_law_634 : decode cL_law 634 = .ok (.invokevirtual 66, 3) := by decide +kernel
theorem dL_law_637 : decode cL_law 637 = .ok (.aload_n 2, 1) := by decide +kernel
theorem dL_law_638 : decode cL_law 638 = .ok (.aload_n 0, 1) := by decide +kernel
theorem dL_law_639 : decode cL_law 639 = .ok (.iload_n 3, 1) := by decide +kernel
theorem dL_law_640 : decode cL_law 640 = .ok (.iconst 1, 1) := by decide +kernel
theorem dL_law_641 : decode cL_law 641 = .ok (.iadd, 1) := by decide +kernel
theorem dL_law_642 : decode cL_law 642 = .ok (.iaload, 1) := by decide +kernel
theorem dL_law_643 : decode cL_law 643 = .ok (.aload_n 0, 1) := by decide +kernel
theorem dL_law_644 : decode cL_law 644 = .ok (.iload_n 3, 1) := by decide +kernel
theorem dL_law_645 : decode cL_law 645 = .ok (.iconst 2, 1) := by decide +kernel
theorem dL_law_646 : decode cL_law 646 = .ok (.iadd, 1) := by decide +kernel
theorem dL_law_647 : decode cL_law 647 = .ok (.iaload, 1) := by decide +kernel
theorem dL_law_648 : decode cL_law 648 = .ok (.invokevirtual 69, 3) := by decide +kernel
theorem dL_law_651 : decode cL_law 651 = .ok (.if_icmp .eq 678, 3) := by decide +kernel
theorem dL_law_654 : decode cL_law 654 = .ok (.iconst 0, 1) := by decide +kernel
theorem dL_law_655 : decode cL_law 655 = .ok (.ireturn, 1) := by decide +kernel
theorem dL_law_656 : decode cL_law 656 = .ok (.aload_n 1, 1) := by decide +kernel
theorem dL_law_657 : decode cL_law 657 = .ok (.aload_n 0, 1) := by decide +kernel
theorem dL_law_658 : decode cL_law 658 = .ok (.iload_n 3, 1) := by decide +kernel
theorem dL_law_659 : decode cL_law 659 = .ok (.iconst 1, 1) := by decide +kernel
theorem dL_law_660 : decode cL_law 660 = .ok (.iadd, 1) := by decide +kernel
theorem dL_law_661 : decode cL_law 661 = .ok (.iaload, 1) := by decide +kernel
theorem dL_law_662 : decode cL_law 662 = .ok (.aload_n 0, 1) := by decide +kernel
theorem dL_law_663 : decode cL_law 663 = .ok (.iload_n 3, 1) := by decide +kernel
theorem dL_law_664 : decode cL_law 664 = .ok (.iconst 2, 1) := by decide +kernel
theorem dL_law_665 : decode cL_law 665 = .ok (.iadd, 1) := by decide +kernel
theorem dL_law_666 : decode cL_law 666 = .ok (.iaload, 1) := by decide +kernel
theorem dL_law_667 : decode cL_law 667 = .ok (.aload_n 0, 1) := by decide +kernel
theorem dL_law_668 : decode cL_law 668 = .ok (.iload_n 3, 1) := by decide +kernel
theorem dL_law_669 : decode cL_law 669 = .ok (.iconst 3, 1) := by decide +kernel
theorem dL_law_670 : decode cL_law 670 = .ok (.iadd, 1) := by decide +kernel
theorem dL_law_671 : decode cL_law 671 = .ok (.iaload, 1) := by decide +kernel
theorem dL_law_672 : decode cL_law 672 = .ok (.invokevirtual 70, 3) := by decide +kernel
theorem dL_law_675 : decode cL_law 675 = .ok (.aload_n 2, 1) := by decide +kernel
theorem dL_law_676 : decode cL_law 676 = .ok (.aload_n 0, 1) := by decide +kernel
theorem dL_law_677 : decode cL_law 677 = .ok (.iload_n 3, 1) := by decide +kernel
theorem dL_law_678 : decode cL_law 678 = .ok (.iconst 1, 1) := by decide +kernel
theorem dL_law_679 : decode cL_law 679 = .ok (.iadd, 1) := by decide +kernel
theorem dL_law_680 : decode cL_law 680 = .ok (.iaload, 1) := by decide +kernel
theorem dL_law_681 : decode cL_law 681 = .ok (.aload_n 0, 1) := by decide +kernel
theorem dL_law_682 : decode cL_law 682 = .ok (.iload_n 3, 1) := by decide +kernel
theorem dL_law_683 : decode cL_law 683 = .ok (.iconst 2, 1) := by decide +kernel
theorem dL_law_684 : decode cL_law 684 = .ok (.iadd, 1) := by decide +kernel
theorem dL_law_685 : decode cL_law 685 = .ok (.iaload, 1) := by decide +kernel
theorem dL_law_686 : decode cL_law 686 = .ok (.aload_n 0, 1) := by decide +kernel
theorem dL_law_687 : decode cL_law 687 = .ok (.iload_n 3, 1) := by decide +kernel
theorem dL_law_688 : decode cL_law 688 = .ok (.iconst 3, 1) := by decide +kernel
theorem dL_law_689 : decode cL_law 689 = .ok (.iadd, 1) := by decide +kernel
theorem dL_law_690 : decode cL_law 690 = .ok (.iaload, 1) := by decide +kernel
theorem dL_law_691 : decode cL_law 691 = .ok (.invokevirtual 74, 3) := by decide +kernel
theorem dL_law_694 : decode cL_law 694 = .ok (.if_icmp .eq 635, 3) := by decide +kernel
theorem dL_law_697 : decode cL_law 697 = .ok (.iconst 0, 1) := by decide +kernel
theorem dL_law_698 : decode cL_law 698 = .ok (.ireturn, 1) := by decide +kernel
theorem dL_law_699 : decode cL_law 699 = .ok (.aload_n 1, 1) := by decide +kernel
theorem dL_law_700 : decode cL_law 700 = .ok (.aload_n 0, 1) := by decide +kernel
theorem dL_law_701 : decode cL_law 701 = .ok (.iload_n 3, 1) := by decide +kernel
theorem dL_law_702 : decode cL_law 702 = .ok (.iconst 1, 1) := by decide +kernel
theorem dL_law_703 : decode cL_law 703 = .ok (.iadd, 1) := by decide +kernel
theorem dL_law_704 : decode cL_law 704 = .ok (.iaload, 1) := by decide +kernel
theorem dL_law_705 : decode cL_law 705 = .ok (.aload_n 0, 1) := by decide +kernel
theorem dL_law_706 : decode cL_law 706 = .ok (.iload_n 3, 1) := by decide +kernel
theorem dL_law_707 : decode cL_law 707 = .ok (.iconst 2, 1) := by decide +kernel
theorem dL_law_708 : decode cL_law 708 = .ok (.iadd, 1) := by decide +kernel
theorem dL_law_709 : decode cL_law 709 = .ok (.iaload, 1) := by decide +kernel
theorem dL_law_710 : decode cL_law 710 = .ok (.aload_n 0, 1) := by decide +kernel
theorem dL_law_711 : decode cL_law 711 = .ok (.iload_n 3, 1) := by decide +kernel
theorem dL_law_712 : decode cL_law 712 = .ok (.iconst 3, 1) := by decide +kernel
theorem dL_law_713 : decode cL_law 713 = .ok (.iadd, 1) := by decide +kernel
theorem dL_law_714 : decode cL_law 714 = .ok (.iaload, 1) := by decide +kernel
theorem dL_law_715 : decode cL_law 715 = .ok (.invokevirtual 75, 3) := by decide +kernel
theorem dL_law_718 : decode cL_law 718 = .ok (.aload_n 2, 1) := by decide +kernel
theorem dL_law_719 : decode cL_law 719 = .ok (.aload_n 0, 1) := by decide +kernel
theorem dL_law_720 : decode cL_law 720 = .ok (.iload_n 3, 1) := by decide +kernel
theorem dL_law_721 : decode cL_law 721 = .ok (.iconst 1, 1) := by decide +kernel
theorem dL_law_722 : decode cL_law 722 = .ok (.iadd, 1) := by decide +kernel
theorem dL_law_723 : decode cL_law 723 = .ok (.iaload, 1) := by decide +kernel
theorem dL_law_724 : decode cL_law 724 = .ok (.aload_n 0, 1) := by decide +kernel
theorem dL_law_725 : decode cL_law 725 = .ok (.iload_n 3, 1) := by decide +kernel
theorem dL_law_726 : decode cL_law 726 = .ok (.iconst 2, 1) := by decide +kernel
theorem dL_law_727 : decode cL_law 727 = .ok (.iadd, 1) := by decide +kernel
theorem dL_law_728 : decode cL_law 728 = .ok (.iaload, 1) := by decide +kernel
theorem dL_law_729 : decode cL_law 729 = .ok (.aload_n 0, 1) := by decide +kernel
theorem dL_law_730 : decode cL_law 730 = .ok (.iload_n 3, 1) := by decide +kernel
theorem dL_law_731 : decode cL_law 731 = .ok (.iconst 3, 1) := by decide +kernel
theorem dL_law_732 : decode cL_law 732 = .ok (.iadd, 1) := by decide +kernel
theorem dL_law_733 : decode cL_law 733 = .ok (.iaload, 1) := by decide +kernel
theorem dL_law_734 : decode cL_law 734 = .ok (.invokevirtual 78, 3) := by decide +kernel
theorem dL_law_737 : decode cL_law 737 = .ok (.if_icmp .eq 592, 3) := by decide +kernel
theorem dL_law_740 : decode cL_law 740 = .ok (.iconst 0, 1) := by decide +kernel
theorem dL_law_741 : decode cL_law 741 = .ok (.ireturn, 1) := by decide +kernel
theorem dL_law_742 : decode cL_law 742 = .ok (.aload_n 1, 1) := by decide +kernel
theorem dL_law_743 : decode cL_law 743 = .ok (.aload_n 0, 1) := by decide +kernel
theorem dL_law_744 : decode cL_law 744 = .ok (.iload_n 3, 1) := by decide +kernel
theorem dL_law_745 : decode cL_law 745 = .ok (.iconst 1, 1) := by decide +kernel
theorem dL_law_746 : decode cL_law 746 = .ok (.iadd, 1) := by decide +kernel
theorem dL_law_747 : decode cL_law 747 = .ok (.iaload, 1) := by decide +kernel
theorem dL_law_748 : decode cL_law 748 = .ok (.aload_n 0, 1) := by decide +kernel
theorem dL_law_749 : decode cL_law 749 = .ok (.iload_n 3, 1) := by decide +kernel
theorem dL_law_750 : decode cL_law 750 = .ok (.iconst 2, 1) := by decide +kernel
theorem dL_law_751 : decode cL_law 751 = .ok (.iadd, 1) := by decide +kernel
theorem dL_law_752 : decode cL_law 752 = .ok (.iaload, 1) := by decide +kernel
theorem dL_law_753 : decode cL_law 753 = .ok (.aload_n 0, 1) := by decide +kernel
theorem dL_law_754 : decode cL_law 754 = .ok (.iload_n 3, 1) := by decide +kernel
theorem dL_law_755 : decode cL_law 755 = .ok (.iconst 3, 1) := by decide +kernel
theorem dL_law_756 : decode cL_law 756 = .ok (.iadd, 1) := by decide +kernel
theorem dL_law_757 : decode cL_law 757 = .ok (.iaload, 1) := by decide +kernel
theorem dL_law_758 : decode cL_law 758 = .ok (.invokevirtual 79, 3) := by decide +kernel
theorem dL_law_761 : decode cL_law 761 = .ok (.aload_n 2, 1) := by decide +kernel
theorem dL_law_762 : decode cL_law 762 = .ok (.aload_n 0, 1) := by decide +kernel
theorem dL_law_763 : decode cL_law 763 = .ok (.iload_n 3, 1) := by decide +kernel
theorem dL_law_764 : decode cL_law 764 = .ok (.iconst 1, 1) := by decide +kernel
theorem dL_law_765 : decode cL_law 765 = .ok (.iadd, 1) := by decide +kernel
theorem dL_law_766 : decode cL_law 766 = .ok (.iaload, 1) := by decide +kernel
theorem dL_law_767 : decode cL_law 767 = .ok (.aload_n 0, 1) := by decide +kernel
theorem dL_law_768 : decode cL_law 768 = .ok (.iload_n 3, 1) := by decide +kernel
theorem dL_law_769 : decode cL_law 769 = .ok (.iconst 2, 1) := by decide +kernel
theorem dL_law_770 : decode cL_law 770 = .ok (.iadd, 1) := by decide +kernel
theorem dL_law_771 : decode cL_law 771 = .ok (.iaload, 1) := by decide +kernel
theorem dL_law_772 : decode cL_law 772 = .ok (.aload_n 0, 1) := by decide +kernel
theorem dL_law_773 : decode cL_law 773 = .ok (.iload_n 3, 1) := by decide +kernel
theorem dL_law_774 : decode cL_law 774 = .ok (.iconst 3, 1) := by decide +kernel
theorem dL_law_775 : decode cL_law 775 = .ok (.iadd, 1) := by decide +kernel
theorem dL_law_776 : decode cL_law 776 = .ok (.iaload, 1) := by decide +kernel
theorem dL_law_777 : decode cL_law 777 = .ok (.invokevirtual 82, 3) := by decide +kernel
theorem dL_law_780 : decode cL_law 780 = .ok (.if_icmp .eq 549, 3) := by decide +kernel
theorem dL_law_783 : decode cL_law 783 = .ok (.iconst 0, 1) := by decide +kernel
theorem dL_law_784 : decode cL_law 784 = .ok (.ireturn, 1) := by decide +kernel
theorem dL_law_785 : decode cL_law 785 = .ok (.aload_n 1, 1) := by decide +kernel
theorem dL_law_786 : decode cL_law 786 = .ok (.aload_n 0, 1) := by decide +kernel
theorem dL_law_787 : decode cL_law 787 = .ok (.iload_n 3, 1) := by decide +kernel
theorem dL_law_788 : decode cL_law 788 = .ok (.iconst 1, 1) := by decide +kernel
theorem dL_law_789 : decode cL_law 789 = .ok (.iadd, 1) := by decide +kernel
theorem dL_law_790 : decode cL_law 790 = .ok (.iaload, 1) := by decide +kernel
theorem dL_law_791 : decode cL_law 791 = .ok (.aload_n 0, 1) := by decide +kernel
theorem dL_law_792 : decode cL_law 792 = .ok (.iload_n 3, 1) := by decide +kernel
theorem dL_law_793 : decode cL_law 793 = .ok (.iconst 2, 1) := by decide +kernel
theorem dL_law_794 : decode cL_law 794 = .ok (.iadd, 1) := by decide +kernel
theorem dL_law_795 : decode cL_law 795 = .ok (.iaload, 1) := by decide +kernel
theorem dL_law_796 : decode cL_law 796 = .ok (.aload_n 0, 1) := by decide +kernel
theorem dL_law_797 : decode cL_law 797 = .ok (.iload_n 3, 1) := by decide +kernel
theorem dL_law_798 : decode cL_law 798 = .ok (.iconst 3, 1) := by decide +kernel
theorem dL_law_799 : decode cL_law 799 = .ok (.iadd, 1) := by decide +kernel
theorem dL_law_800 : decode cL_law 800 = .ok (.iaload, 1) := by decide +kernel
theorem dL_law_801 : decode cL_law 801 = .ok (.invokevirtual 83, 3) := by decide +kernel
theorem dL_law_804 : decode cL_law 804 = .ok (.aload_n 2, 1) := by decide +kernel
theorem dL_law_805 : decode cL_law 805 = .ok (.aload_n 0, 1) := by decide +kernel
theorem dL_law_806 : decode cL_law 806 = .ok (.iload_n 3, 1) := by decide +kernel
theorem dL_law_807 : decode cL_law 807 = .ok (.iconst 1, 1) := by decide +kernel
theorem dL_law_808 : decode cL_law 808 = .ok (.iadd, 1) := by decide +kernel
theorem dL_law_809 : decode cL_law 809 = .ok (.iaload, 1) := by decide +kernel
theorem dL_law_810 : decode cL_law 810 = .ok (.aload_n 0, 1) := by decide +kernel
theorem dL_law_811 : decode cL_law 811 = .ok (.iload_n 3, 1) := by decide +kernel
theorem dL_law_812 : decode cL_law 812 = .ok (.iconst 2, 1) := by decide +kernel
theorem dL_law_813 : decode cL_law 813 = .ok (.iadd, 1) := by decide +kernel
theorem dL_law_814 : decode cL_law 814 = .ok (.iaload, 1) := by decide +kernel
theorem dL_law_815 : decode cL_law 815 = .ok (.aload_n 0, 1) := by decide +kernel
theorem dL_law_816 : decode cL_law 816 = .ok (.iload_n 3, 1) := by decide +kernel
theorem dL_law_817 : decode cL_law 817 = .ok (.iconst 3, 1) := by decide +kernel
theorem dL_law_818 : decode cL_law 818 = .ok (.iadd, 1) := by decide +kernel
theorem dL_law_819 : decode cL_law 819 = .ok (.iaload, 1) := by decide +kernel
theorem dL_law_820 : decode cL_law 820 = .ok (.invokevirtual 86, 3) := by decide +kernel
theorem dL_law_823 : decode cL_law 823 = .ok (.if_icmp .eq 506, 3) := by decide +kernel
theorem dL_law_826 : decode cL_law 826 = .ok (.iconst 0, 1) := by decide +kernel
theorem dL_law_827 : decode cL_law 827 = .ok (.ireturn, 1) := by decide +kernel
theorem dL_law_828 : decode cL_law 828 = .ok (.aload_n 1, 1) := by decide +kernel
theorem dL_law_829 : decode cL_law 829 = .ok (.aload_n 0, 1) := by decide +kernel
theorem dL_law_830 : decode cL_law 830 = .ok (.iload_n 3, 1) := by decide +kernel
theorem dL_law_831 : decode cL_law 831 = .ok (.iconst 1, 1) := by decide +kernel
theorem dL_law_832 : decode cL_law 832 = .ok (.iadd, 1) := by decide +kernel
theorem dL_law_833 : decode cL_law 833 = .ok (.iaload, 1) := by decide +kernel
theorem dL_law_834 : decode cL_law 834 = .ok (.aload_n 0, 1) := by decide +kernel
theorem dL_law_835 : decode cL_law 835 = .ok (.iload_n 3, 1) := by decide +kernel
theorem dL_law_836 : decode cL_law 836 = .ok (.iconst 2, 1) := by decide +kernel
theorem dL_law_837 : decode cL_law 837 = .ok (.iadd, 1) := by decide +kernel
theorem dL_law_838 : decode cL_law 838 = .ok (.iaload, 1) := by decide +kernel
theorem dL_law_839 : decode cL_law 839 = .ok (.aload_n 0, 1) := by decide +kernel
theorem dL_law_840 : decode cL_law 840 = .ok (.iload_n 3, 1) := by decide +kernel
theorem dL_law_841 : decode cL_law 841 = .ok (.iconst 3, 1) := by decide +kernel
theorem dL_law_842 : decode cL_law 842 = .ok (.iadd, 1) := by decide +kernel
theorem dL_law_843 : decode cL_law 843 = .ok (.iaload, 1) := by decide +kernel
theorem dL_law_844 : decode cL_law 844 = .ok (.invokevirtual 87, 3) := by decide +kernel
theorem dL_law_847 : decode cL_law 847 = .ok (.aload_n 2, 1) := by decide +kernel
theorem dL_law_848 : decode cL_law 848 = .ok (.aload_n 0, 1) := by decide +kernel
theorem dL_law_849 : decode cL_law 849 = .ok (.iload_n 3, 1) := by decide +kernel
theorem dL_law_850 : decode cL_law 850 = .ok (.iconst 1, 1) := by decide +kernel
theorem dL_law_851 : decode cL_law 851 = .ok (.iadd, 1) := by decide +kernel
theorem dL_law_852 : decode cL_law 852 = .ok (.iaload, 1) := by decide +kernel
theorem dL_law_853 : decode cL_law 853 = .ok (.aload_n 0, 1) := by decide +kernel
theorem dL_law_854 : decode cL_law 854 = .ok (.iload_n 3, 1) := by decide +kernel
theorem dL_law_855 : decode cL_law 855 = .ok (.iconst 2, 1) := by decide +kernel
theorem dL_law_856 : decode cL_law 856 = .ok (.iadd, 1) := by decide +kernel
theorem dL_law_857 : decode cL_law 857 = .ok (.iaload, 1) := by decide +kernel
theorem dL_law_858 : decode cL_law 858 = .ok (.aload_n 0, 1) := by decide +kernel
theorem dL_law_859 : decode cL_law 859 = .ok (.iload_n 3, 1) := by decide +kernel
theorem dL_law_860 : decode cL_law 860 = .ok (.iconst 3, 1) := by decide +kernel
theorem dL_law_861 : decode cL_law 861 = .ok (.iadd, 1) := by decide +kernel
theorem dL_law_862 : decode cL_law 862 = .ok (.iaload, 1) := by decide +kernel
theorem dL_law_863 : decode cL_law 863 = .ok (.invokevirtual 90, 3) := by decide +kernel
theorem dL_law_866 : decode cL_law 866 = .ok (.if_icmp .eq 463, 3) := by decide +kernel
theorem dL_law_869 : decode cL_law 869 = .ok (.iconst 0, 1) := by decide +kernel
theorem dL_law_870 : decode cL_law 870 = .ok (.ireturn, 1) := by decide +kernel
theorem dL_law_871 : decode cL_law 871 = .ok (.aload_n 1, 1) := by decide +kernel
theorem dL_law_872 : decode cL_law 872 = .ok (.aload_n 0, 1) := by decide +kernel
theorem dL_law_873 : decode cL_law 873 = .ok (.iload_n 3, 1) := by decide +kernel
theorem dL_law_874 : decode cL_law 874 = .ok (.iconst 1, 1) := by decide +kernel
theorem dL_law_875 : decode cL_law 875 = .ok (.iadd, 1) := by decide +kernel
theorem dL_law_876 : decode cL_law 876 = .ok (.iaload, 1) := by decide +kernel
theorem dL_law_877 : decode cL_law 877 = .ok (.aload_n 0, 1) := by decide +kernel
theorem dL_law_878 : decode cL_law 878 = .ok (.iload_n 3, 1) := by decide +kernel
theorem dL_law_879 : decode cL_law 879 = .ok (.iconst 2, 1) := by decide +kernel
theorem dL_law_880 : decode cL_law 880 = .ok (.iadd, 1) := by decide +kernel
theorem dL_law_881 : decode cL_law 881 = .ok (.iaload, 1) := by decide +kernel
theorem dL_law_882 : decode cL_law 882 = .ok (.invokevirtual 91, 3) := by decide +kernel
theorem dL_law_885 : decode cL_law 885 = .ok (.aload_n 2, 1) := by decide +kernel
theorem dL_law_886 : decode cL_law 886 = .ok (.aload_n 0, 1) := by decide +kernel
theorem dL_law_887 : decode cL_law 887 = .ok (.iload_n 3, 1) := by decide +kernel
theorem dL_law_888 : decode cL_law 888 = .ok (.iconst 1, 1) := by decide +kernel
theorem dL_law_889 : decode cL_law 889 = .ok (.iadd, 1) := by decide +kernel
theorem dL_law_890 : decode cL_law 890 = .ok (.iaload, 1) := by decide +kernel
theorem dL_law_891 : decode cL_law 891 = .ok (.aload_n 0, 1) := by decide +kernel
theorem dL_law_892 : decode cL_law 892 = .ok (.iload_n 3, 1) := by decide +kernel
theorem dL_law_893 : decode cL_law 893 = .ok (.iconst 2, 1) := by decide +kernel
theorem dL_law_894 : decode cL_law 894 = .ok (.iadd, 1) := by decide +kernel
theorem dL_law_895 : decode cL_law 895 = .ok (.iaload, 1) := by decide +kernel
theorem dL_law_896 : decode cL_law 896 = .ok (.invokevirtual 94, 3) := by decide +kernel
theorem dL_law_899 : decode cL_law 899 = .ok (.if_icmp .eq 430, 3) := by decide +kernel
theorem dL_law_902 : decode cL_law 902 = .ok (.iconst 0, 1) := by decide +kernel
theorem dL_law_903 : decode cL_law 903 = .ok (.ireturn, 1) := by decide +kernel
theorem dL_law_904 : decode cL_law 904 = .ok (.aload_n 1, 1) := by decide +kernel
theorem dL_law_905 : decode cL_law 905 = .ok (.aload_n 0, 1) := by decide +kernel
theorem dL_law_906 : decode cL_law 906 = .ok (.iload_n 3, 1) := by decide +kernel
theorem dL_law_907 : decode cL_law 907 = .ok (.iconst 1, 1) := by decide +kernel
theorem dL_law_908 : decode cL_law 908 = .ok (.iadd, 1) := by decide +kernel
theorem dL_law_909 : decode cL_law 909 = .ok (.iaload, 1) := by decide +kernel
theorem dL_law_910 : decode cL_law 910 = .ok (.aload_n 0, 1) := by decide +kernel
theorem dL_law_911 : decode cL_law 911 = .ok (.iload_n 3, 1) := by decide +kernel
theorem dL_law_912 : decode cL_law 912 = .ok (.iconst 2, 1) := by decide +kernel
theorem dL_law_913 : decode cL_law 913 = .ok (.iadd, 1) := by decide +kernel
theorem dL_law_914 : decode cL_law 914 = .ok (.iaload, 1) := by decide +kernel
theorem dL_law_915 : decode cL_law 915 = .ok (.aload_n 0, 1) := by decide +kernel
theorem dL_law_916 : decode cL_law 916 = .ok (.iload_n 3, 1) := by decide +kernel
theorem dL_law_917 : decode cL_law 917 = .ok (.iconst 3, 1) := by decide +kernel
theorem dL_law_918 : decode cL_law 918 = .ok (.iadd, 1) := by decide +kernel
theorem dL_law_919 : decode cL_law 919 = .ok (.iaload, 1) := by decide +kernel
theorem dL_law_920 : decode cL_law 920 = .ok (.invokevirtual 95, 3) := by decide +kernel
theorem dL_law_923 : decode cL_law 923 = .ok (.aload_n 2, 1) := by decide +kernel
theorem dL_law_924 : decode cL_law 924 = .ok (.aload_n 0, 1) := by decide +kernel
theorem dL_law_925 : decode cL_law 925 = .ok (.iload_n 3, 1) := by decide +kernel
theorem dL_law_926 : decode cL_law 926 = .ok (.iconst 1, 1) := by decide +kernel
theorem dL_law_927 : decode cL_law 927 = .ok (.iadd, 1) := by decide +kernel
theorem dL_law_928 : decode cL_law 928 = .ok (.iaload, 1) := by decide +kernel
theorem dL_law_929 : decode cL_law 929 = .ok (.aload_n 0, 1) := by decide +kernel
theorem dL_law_930 : decode cL_law 930 = .ok (.iload_n 3, 1) := by decide +kernel
theorem dL_law_931 : decode cL_law 931 = .ok (.iconst 2, 1) := by decide +kernel
theorem dL_law_932 : decode cL_law 932 = .ok (.iadd, 1) := by decide +kernel
theorem dL_law_933 : decode cL_law 933 = .ok (.iaload, 1) := by decide +kernel
theorem dL_law_934 : decode cL_law 934 = .ok (.aload_n 0, 1) := by decide +kernel
theorem dL_law_935 : decode cL_law 935 = .ok (.iload_n 3, 1) := by decide +kernel
theorem dL_law_936 : decode cL_law 936 = .ok (.iconst 3, 1) := by decide +kernel
theorem dL_law_937 : decode cL_law 937 = .ok (.iadd, 1) := by decide +kernel
theorem dL_law_938 : decode cL_law 938 = .ok (.iaload, 1) := by decide +kernel
theorem dL_law_939 : decode cL_law 939 = .ok (.invokevirtual 98, 3) := by decide +kernel
theorem dL_law_942 : decode cL_law 942 = .ok (.if_icmp .eq 387, 3) := by decide +kernel
theorem dL_law_945 : decode cL_law 945 = .ok (.iconst 0, 1) := by decide +kernel
theorem dL_law_946 : decode cL_law 946 = .ok (.ireturn, 1) := by decide +kernel
theorem dL_law_947 : decode cL_law 947 = .ok (.aload_n 1, 1) := by decide +kernel
theorem dL_law_948 : decode cL_law 948 = .ok (.aload_n 0, 1) := by decide +kernel
theorem dL_law_949 : decode cL_law 949 = .ok (.iload_n 3, 1) := by decide +kernel
theorem dL_law_950 : decode cL_law 950 = .ok (.iconst 1, 1) := by decide +kernel
theorem dL_law_951 : decode cL_law 951 = .ok (.iadd, 1) := by decide +kernel
theorem dL_law_952 : decode cL_law 952 = .ok (.iaload, 1) := by decide +kernel
theorem dL_law_953 : decode cL_law 953 = .ok (.aload_n 0, 1) := by decide +kernel
theorem dL_law_954 : decode cL_law 954 = .ok (.iload_n 3, 1) := by decide +kernel
theorem dL_law_955 : decode cL_law 955 = .ok (.iconst 2, 1) := by decide +kernel
theorem dL_law_956 : decode cL_law 956 = .ok (.iadd, 1) := by decide +kernel
theorem dL_law_957 : decode cL_law 957 = .ok (.iaload, 1) := by decide +kernel
theorem dL_law_958 : decode cL_law 958 = .ok (.invokevirtual 99, 3) := by decide +kernel
theorem dL_law_961 : decode cL_law 961 = .ok (.aload_n 2, 1) := by decide +kernel
theorem dL_law_962 : decode cL_law 962 = .ok (.aload_n 0, 1) := by decide +kernel
theorem dL_law_963 : decode cL_law 963 = .ok (.iload_n 3, 1) := by decide +kernel
theorem dL_law_964 : decode cL_law 964 = .ok (.iconst 1, 1) := by decide +kernel
theorem dL_law_965 : decode cL_law 965 = .ok (.iadd, 1) := by decide +kernel
theorem dL_law_966 : decode cL_law 966 = .ok (.iaload, 1) := by decide +kernel
theorem dL_law_967 : decode cL_law 967 = .ok (.aload_n 0, 1) := by decide +kernel
theorem dL_law_968 : decode cL_law 968 = .ok (.iload_n 3, 1) := by decide +kernel
theorem dL_law_969 : decode cL_law 969 = .ok (.iconst 2, 1) := by decide +kernel
theorem dL_law_970 : decode cL_law 970 = .ok (.iadd, 1) := by decide +kernel
theorem dL_law_971 : decode cL_law 971 = .ok (.iaload, 1) := by decide +kernel
theorem dL_law_972 : decode cL_law 972 = .ok (.invokevirtual 102, 3) := by decide +kernel
theorem dL_law_975 : decode cL_law 975 = .ok (.if_icmp .eq 354, 3) := by decide +kernel
theorem dL_law_978 : decode cL_law 978 = .ok (.iconst 0, 1) := by decide +kernel
theorem dL_law_979 : decode cL_law 979 = .ok (.ireturn, 1) := by decide +kernel
theorem dL_law_980 : decode cL_law 980 = .ok (.aload_n 1, 1) := by decide +kernel
theorem dL_law_981 : decode cL_law 981 = .ok (.aload_n 0, 1) := by decide +kernel
theorem dL_law_982 : decode cL_law 982 = .ok (.iload_n 3, 1) := by decide +kernel
theorem dL_law_983 : decode cL_law 983 = .ok (.iconst 1, 1) := by decide +kernel
theorem dL_law_984 : decode cL_law 984 = .ok (.iadd, 1) := by decide +kernel
theorem dL_law_985 : decode cL_law 985 = .ok (.iaload, 1) := by decide +kernel
theorem dL_law_986 : decode cL_law 986 = .ok (.invokevirtual 103, 3) := by decide +kernel
theorem dL_law_989 : decode cL_law 989 = .ok (.aload_n 2, 1) := by decide +kernel
theorem dL_law_990 : decode cL_law 990 = .ok (.aload_n 0, 1) := by decide +kernel
theorem dL_law_991 : decode cL_law 991 = .ok (.iload_n 3, 1) := by decide +kernel
theorem dL_law_992 : decode cL_law 992 = .ok (.iconst 1, 1) := by decide +kernel
theorem dL_law_993 : decode cL_law 993 = .ok (.iadd, 1) := by decide +kernel
theorem dL_law_994 : decode cL_law 994 = .ok (.iaload, 1) := by decide +kernel
theorem dL_law_995 : decode cL_law 995 = .ok (.invokevirtual 106, 3) := by decide +kernel
theorem dL_law_998 : decode cL_law 998 = .ok (.if_icmp .eq 331, 3) := by decide +kernel
theorem dL_law_1001 : decode cL_law 1001 = .ok (.iconst 0, 1) := by decide +kernel
theorem dL_law_1002 : decode cL_law 1002 = .ok (.ireturn, 1) := by decide +kernel
theorem dL_law_1003 : decode cL_law 1003 = .ok (.aload_n 1, 1) := by decide +kernel
theorem dL_law_1004 : decode cL_law 1004 = .ok (.aload_n 0, 1) := by decide +kernel
theorem dL_law_1005 : decode cL_law 1005 = .ok (.iload_n 3, 1) := by decide +kernel
theorem dL_law_1006 : decode cL_law 1006 = .ok (.iconst 1, 1) := by decide +kernel
theorem dL_law_1007 : decode cL_law 1007 = .ok (.iadd, 1) := by decide +kernel
theorem dL_law_1008 : decode cL_law 1008 = .ok (.iaload, 1) := by decide +kernel
theorem dL_law_1009 : decode cL_law 1009 = .ok (.invokevirtual 107, 3) := by decide +kernel
theorem dL_law_1012 : decode cL_law 1012 = .ok (.aload_n 2, 1) := by decide +kernel
theorem dL_law_1013 : decode cL_law 1013 = .ok (.aload_n 0, 1) := by decide +kernel
theorem dL_law_1014 : decode cL_law 1014 = .ok (.iload_n 3, 1) := by decide +kernel
theorem dL_law_1015 : decode cL_law 1015 = .ok (.iconst 1, 1) := by decide +kernel
theorem dL_law_1016 : decode cL_law 1016 = .ok (.iadd, 1) := by decide +kernel
theorem dL_law_1017 : decode cL_law 1017 = .ok (.iaload, 1) := by decide +kernel
theorem dL_law_1018 : decode cL_law 1018 = .ok (.invokevirtual 110, 3) := by decide +kernel
theorem dL_law_1021 : decode cL_law 1021 = .ok (.if_icmp .eq 308, 3) := by decide +kernel
theorem dL_law_1024 : decode cL_law 1024 = .ok (.iconst 0, 1) := by decide +kernel
theorem dL_law_1025 : decode cL_law 1025 = .ok (.ireturn, 1) := by decide +kernel
theorem dL_law_1026 : decode cL_law 1026 = .ok (.aload_n 1, 1) := by decide +kernel
theorem dL_law_1027 : decode cL_law 1027 = .ok (.aload_n 0, 1) := by decide +kernel
theorem dL_law_1028 : decode cL_law 1028 = .ok (.iload_n 3, 1) := by decide +kernel
theorem dL_law_1029 : decode cL_law 1029 = .ok (.iconst 1, 1) := by decide +kernel
theorem dL_law_1030 : decode cL_law 1030 = .ok (.iadd, 1) := by decide +kernel
theorem dL_law_1031 : decode cL_law 1031 = .ok (.iaload, 1) := by decide +kernel
theorem dL_law_1032 : decode cL_law 1032 = .ok (.invokevirtual 111, 3) := by decide +kernel
theorem dL_law_1035 : decode cL_law 1035 = .ok (.aload_n 2, 1) := by decide +kernel
theorem dL_law_1036 : decode cL_law 1036 = .ok (.aload_n 0, 1) := by decide +kernel
theorem dL_law_1037 : decode cL_law 1037 = .ok (.iload_n 3, 1) := by decide +kernel
theorem dL_law_1038 : decode cL_law 1038 = .ok (.iconst 1, 1) := by decide +kernel
theorem dL_law_1039 : decode cL_law 1039 = .ok (.iadd, 1) := by decide +kernel
theorem dL_law_1040 : decode cL_law 1040 = .ok (.iaload, 1) := by decide +kernel
theorem dL_law_1041 : decode cL_law 1041 = .ok (.invokevirtual 114, 3) := by decide +kernel
theorem dL_law_1044 : decode cL_law 1044 = .ok (.if_icmp .eq 285, 3) := by decide +kernel
theorem dL_law_1047 : decode cL_law 1047 = .ok (.iconst 0, 1) := by decide +kernel
theorem dL_law_1048 : decode cL_law 1048 = .ok (.ireturn, 1) := by decide +kernel
theorem dL_law_1049 : decode cL_law 1049 = .ok (.aload_n 1, 1) := by decide +kernel
theorem dL_law_1050 : decode cL_law 1050 = .ok (.invokevirtual 115, 3) := by decide +kernel
theorem dL_law_1053 : decode cL_law 1053 = .ok (.aload_n 2, 1) := by decide +kernel
theorem dL_law_1054 : decode cL_law 1054 = .ok (.invokevirtual 119, 3) := by decide +kernel
theorem dL_law_1057 : decode cL_law 1057 = .ok (.if_icmp .eq 272, 3) := by decide +kernel
theorem dL_law_1060 : decode cL_law 1060 = .ok (.iconst 0, 1) := by decide +kernel
theorem dL_law_1061 : decode cL_law 1061 = .ok (.ireturn, 1) := by decide +kernel
theorem dL_law_1062 : decode cL_law 1062 = .ok (.aload_n 1, 1) := by decide +kernel
theorem dL_law_1063 : decode cL_law 1063 = .ok (.invokevirtual 120, 3) := by decide +kernel
theorem dL_law_1066 : decode cL_law 1066 = .ok (.aload_n 2, 1) := by decide +kernel
theorem dL_law_1067 : decode cL_law 1067 = .ok (.invokevirtual 123, 3) := by decide +kernel
theorem dL_law_1070 : decode cL_law 1070 = .ok (.if_icmp .eq 259, 3) := by decide +kernel
theorem dL_law_1073 : decode cL_law 1073 = .ok (.iconst 0, 1) := by decide +kernel
theorem dL_law_1074 : decode cL_law 1074 = .ok (.ireturn, 1) := by decide +kernel
theorem dL_law_1075 : decode cL_law 1075 = .ok (.aload_n 1, 1) := by decide +kernel
theorem dL_law_1076 : decode cL_law 1076 = .ok (.aload_n 0, 1) := by decide +kernel
theorem dL_law_1077 : decode cL_law 1077 = .ok (.iload_n 3, 1) := by decide +kernel
theorem dL_law_1078 : decode cL_law 1078 = .ok (.iconst 1, 1) := by decide +kernel
theorem dL_law_1079 : decode cL_law 1079 = .ok (.iadd, 1) := by decide +kernel
theorem dL_law_1080 : decode cL_law 1080 = .ok (.iaload, 1) := by decide +kernel
theorem dL_law_1081 : decode cL_law 1081 = .ok (.invokevirtual 124, 3) := by decide +kernel
theorem dL_law_1084 : decode cL_law 1084 = .ok (.aload_n 2, 1) := by decide +kernel
theorem dL_law_1085 : decode cL_law 1085 = .ok (.aload_n 0, 1) := by decide +kernel
theorem dL_law_1086 : decode cL_law 1086 = .ok (.iload_n 3, 1) := by decide +kernel
theorem dL_law_1087 : decode cL_law 1087 = .ok (.iconst 1, 1) := by decide +kernel
theorem dL_law_1088 : decode cL_law 1088 = .ok (.iadd, 1) := by decide +kernel
theorem dL_law_1089 : decode cL_law 1089 = .ok (.iaload, 1) := by decide +kernel
theorem dL_law_1090 : decode cL_law 1090 = .ok (.invokevirtual 127, 3) := by decide +kernel
theorem dL_law_1093 : decode cL_law 1093 = .ok (.if_icmp .eq 236, 3) := by decide +kernel
theorem dL_law_1096 : decode cL_law 1096 = .ok (.iconst 0, 1) := by decide +kernel
theorem dL_law_1097 : decode cL_law 1097 = .ok (.ireturn, 1) := by decide +kernel
theorem dL_law_1098 : decode cL_law 1098 = .ok (.aload_n 1, 1) := by decide +kernel
theorem dL_law_1099 : decode cL_law 1099 = .ok (.aload_n 0, 1) := by decide +kernel
theorem dL_law_1100 : decode cL_law 1100 = .ok (.iload_n 3, 1) := by decide +kernel
theorem dL_law_1101 : decode cL_law 1101 = .ok (.iconst 1, 1) := by decide +kernel
theorem dL_law_1102 : decode cL_law 1102 = .ok (.iadd, 1) := by decide +kernel
theorem dL_law_1103 : decode cL_law 1103 = .ok (.iaload, 1) := by decide +kernel
theorem dL_law_1104 : decode cL_law 1104 = .ok (.invokevirtual 128, 3) := by decide +kernel
theorem dL_law_1107 : decode cL_law 1107 = .ok (.aload_n 2, 1) := by decide +kernel
theorem dL_law_1108 : decode cL_law 1108 = .ok (.aload_n 0, 1) := by decide +kernel
theorem dL_law_1109 : decode cL_law 1109 = .ok (.iload_n 3, 1) := by decide +kernel
theorem dL_law_1110 : decode cL_law 1110 = .ok (.iconst 1, 1) := by decide +kernel
theorem dL_law_1111 : decode cL_law 1111 = .ok (.iadd, 1) := by decide +kernel
theorem dL_law_1112 : decode cL_law 1112 = .ok (.iaload, 1) := by decide +kernel
theorem dL_law_1113 : decode cL_law 1113 = .ok (.invokevirtual 131, 3) := by decide +kernel
theorem dL_law_1116 : decode cL_law 1116 = .ok (.if_icmp .eq 213, 3) := by decide +kernel
theorem dL_law_1119 : decode cL_law 1119 = .ok (.iconst 0, 1) := by decide +kernel
theorem dL_law_1120 : decode cL_law 1120 = .ok (.ireturn, 1) := by decide +kernel
theorem dL_law_1121 : decode cL_law 1121 = .ok (.aload_n 1, 1) := by decide +kernel
theorem dL_law_1122 : decode cL_law 1122 = .ok (.aload_n 0, 1) := by decide +kernel
theorem dL_law_1123 : decode cL_law 1123 = .ok (.iload_n 3, 1) := by decide +kernel
theorem dL_law_1124 : decode cL_law 1124 = .ok (.iconst 1, 1) := by decide +kernel
theorem dL_law_1125 : decode cL_law 1125 = .ok (.iadd, 1) := by decide +kernel
theorem dL_law_1126 : decode cL_law 1126 = .ok (.iaload, 1) := by decide +kernel
theorem dL_law_1127 : decode cL_law 1127 = .ok (.ifCond .eq 7, 3) := by decide +kernel
theorem dL_law_1130 : decode cL_law 1130 = .ok (.iconst 1, 1) := by decide +kernel
theorem dL_law_1131 : decode cL_law 1131 = .ok (.goto 4, 3) := by decide +kernel
theorem dL_law_1134 : decode cL_law 1134 = .ok (.iconst 0, 1) := by decide +kernel
theorem dL_law_1135 : decode cL_law 1135 = .ok (.invokevirtual 132, 3) := by decide +kernel
theorem dL_law_1138 : decode cL_law 1138 = .ok (.aload_n 2, 1) := by decide +kernel
theorem dL_law_1139 : decode cL_law 1139 = .ok (.aload_n 0, 1) := by decide +kernel
theorem dL_law_1140 : decode cL_law 1140 = .ok (.iload_n 3, 1) := by decide +kernel
theorem dL_law_1141 : decode cL_law 1141 = .ok (.iconst 1, 1) := by decide +kernel
theorem dL_law_1142 : decode cL_law 1142 = .ok (.iadd, 1) := by decide +kernel
theorem dL_law_1143 : decode cL_law 1143 = .ok (.iaload, 1) := by decide +kernel
theorem dL_law_1144 : decode cL_law 1144 = .ok (.ifCond .eq 7, 3) := by decide +kernel
theorem dL_law_1147 : decode cL_law 1147 = .ok (.iconst 1, 1) := by decide +kernel
theorem dL_law_1148 : decode cL_law 1148 = .ok (.goto 4, 3) := by decide +kernel
theorem dL_law_1151 : decode cL_law 1151 = .ok (.iconst 0, 1) := by decide +kernel
theorem dL_law_1152 : decode cL_law 1152 = .ok (.invokevirtual 136, 3) := by decide +kernel
theorem dL_law_1155 : decode cL_law 1155 = .ok (.if_icmp .eq 174, 3) := by decide +kernel
theorem dL_law_1158 : decode cL_law 1158 = .ok (.iconst 0, 1) := by decide +kernel
theorem dL_law_1159 : decode cL_law 1159 = .ok (.ireturn, 1) := by decide +kernel
theorem dL_law_1160 : decode cL_law 1160 = .ok (.aload_n 1, 1) := by decide +kernel
theorem dL_law_1161 : decode cL_law 1161 = .ok (.aload_n 0, 1) := by decide +kernel
theorem dL_law_1162 : decode cL_law 1162 = .ok (.iload_n 3, 1) := by decide +kernel
theorem dL_law_1163 : decode cL_law 1163 = .ok (.iconst 1, 1) := by decide +kernel
theorem dL_law_1164 : decode cL_law 1164 = .ok (.iadd, 1) := by decide +kernel
theorem dL_law_1165 : decode cL_law 1165 = .ok (.iaload, 1) := by decide +kernel
theorem dL_law_1166 : decode cL_law 1166 = .ok (.invokevirtual 137, 3) := by decide +kernel
theorem dL_law_1169 : decode cL_law 1169 = .ok (.aload_n 2, 1) := by decide +kernel
theorem dL_law_1170 : decode cL_law 1170 = .ok (.aload_n 0, 1) := by decide +kernel
theorem dL_law_1171 : decode cL_law 1171 = .ok (.iload_n 3, 1) := by decide +kernel
theorem dL_law_1172 : decode cL_law 1172 = .ok (.iconst 1, 1) := by decide +kernel
theorem dL_law_1173 : decode cL_law 1173 = .ok (.iadd, 1) := by decide +kernel
theorem dL_law_1174 : decode cL_law 1174 = .ok (.iaload, 1) := by decide +kernel
theorem dL_law_1175 : decode cL_law 1175 = .ok (.invokevirtual 140, 3) := by decide +kernel
theorem dL_law_1178 : decode cL_law 1178 = .ok (.if_icmp .eq 151, 3) := by decide +kernel
theorem dL_law_1181 : decode cL_law 1181 = .ok (.iconst 0, 1) := by decide +kernel
theorem dL_law_1182 : decode cL_law 1182 = .ok (.ireturn, 1) := by decide +kernel
theorem dL_law_1183 : decode cL_law 1183 = .ok (.aload_n 1, 1) := by decide +kernel
theorem dL_law_1184 : decode cL_law 1184 = .ok (.invokevirtual 141, 3) := by decide +kernel
theorem dL_law_1187 : decode cL_law 1187 = .ok (.aload_n 2, 1) := by decide +kernel
theorem dL_law_1188 : decode cL_law 1188 = .ok (.invokevirtual 144, 3) := by decide +kernel
theorem dL_law_1191 : decode cL_law 1191 = .ok (.if_icmp .eq 138, 3) := by decide +kernel
theorem dL_law_1194 : decode cL_law 1194 = .ok (.iconst 0, 1) := by decide +kernel
theorem dL_law_1195 : decode cL_law 1195 = .ok (.ireturn, 1) := by decide +kernel
theorem dL_law_1196 : decode cL_law 1196 = .ok (.aload_n 1, 1) := by decide +kernel
theorem dL_law_1197 : decode cL_law 1197 = .ok (.invokevirtual 145, 3) := by decide +kernel
theorem dL_law_1200 : decode cL_law 1200 = .ok (.dstore 4, 2) := by decide +kernel
theorem dL_law_1202 : decode cL_law 1202 = .ok (.aload_n 2, 1) := by decide +kernel
theorem dL_law_1203 : decode cL_law 1203 = .ok (.invokevirtual 149, 3) := by decide +kernel
theorem dL_law_1206 : decode cL_law 1206 = .ok (.dstore 6, 2) := by decide +kernel
theorem dL_law_1208 : decode cL_law 1208 = .ok (.dload 4, 2) := by decide +kernel
theorem dL_law_1210 : decode cL_law 1210 = .ok (.dload 6, 2) := by decide +kernel
theorem dL_law_1212 : decode cL_law 1212 = .ok (.dcmp .l, 1) := by decide +kernel
theorem dL_law_1213 : decode cL_law 1213 = .ok (.ifCond .eq 21, 3) := by decide +kernel
theorem dL_law_1216 : decode cL_law 1216 = .ok (.dload 4, 2) := by decide +kernel
theorem dL_law_1218 : decode cL_law 1218 = .ok (.dload 4, 2) := by decide +kernel
theorem dL_law_1220 : decode cL_law 1220 = .ok (.dcmp .l, 1) := by decide +kernel
theorem dL_law_1221 : decode cL_law 1221 = .ok (.ifCond .eq 11, 3) := by decide +kernel
theorem dL_law_1224 : decode cL_law 1224 = .ok (.dload 6, 2) := by decide +kernel
theorem dL_law_1226 : decode cL_law 1226 = .ok (.dload 6, 2) := by decide +kernel
theorem dL_law_1228 : decode cL_law 1228 = .ok (.dcmp .l, 1) := by decide +kernel
theorem dL_law_1229 : decode cL_law 1229 = .ok (.ifCond .ne 5, 3) := by decide +kernel
theorem dL_law_1232 : decode cL_law 1232 = .ok (.iconst 0, 1) := by decide +kernel
theorem dL_law_1233 : decode cL_law 1233 = .ok (.ireturn, 1) := by decide +kernel
theorem dL_law_1234 : decode cL_law 1234 = .ok (.goto 95, 3) := by decide +kernel
theorem dL_law_1237 : decode cL_law 1237 = .ok (.aload_n 1, 1) := by decide +kernel
theorem dL_law_1238 : decode cL_law 1238 = .ok (.aload_n 0, 1) := by decide +kernel
theorem dL_law_1239 : decode cL_law 1239 = .ok (.iload_n 3, 1) := by decide +kernel
theorem dL_law_1240 : decode cL_law 1240 = .ok (.iconst 1, 1) := by decide +kernel
theorem dL_law_1241 : decode cL_law 1241 = .ok (.iadd, 1) := by decide +kernel
theorem dL_law_1242 : decode cL_law 1242 = .ok (.iaload, 1) := by decide +kernel
theorem dL_law_1243 : decode cL_law 1243 = .ok (.invokevirtual 150, 3) := by decide +kernel
theorem dL_law_1246 : decode cL_law 1246 = .ok (.f2d, 1) := by decide +kernel
theorem dL_law_1247 : decode cL_law 1247 = .ok (.dstore 4, 2) := by decide +kernel
theorem dL_law_1249 : decode cL_law 1249 = .ok (.aload_n 2, 1) := by decide +kernel
theorem dL_law_1250 : decode cL_law 1250 = .ok (.aload_n 0, 1) := by decide +kernel
theorem dL_law_1251 : decode cL_law 1251 = .ok (.iload_n 3, 1) := by decide +kernel
theorem dL_law_1252 : decode cL_law 1252 = .ok (.iconst 1, 1) := by decide +kernel
theorem dL_law_1253 : decode cL_law 1253 = .ok (.iadd, 1) := by decide +kernel
theorem dL_law_1254 : decode cL_law 1254 = .ok (.iaload, 1) := by decide +kernel
theorem dL_law_1255 : decode cL_law 1255 = .ok (.invokevirtual 154, 3) := by decide +kernel
theorem dL_law_1258 : decode cL_law 1258 = .ok (.f2d, 1) := by decide +kernel
theorem dL_law_1259 : decode cL_law 1259 = .ok (.dstore 6, 2) := by decide +kernel
theorem dL_law_1261 : decode cL_law 1261 = .ok (.dload 4, 2) := by decide +kernel
theorem dL_law_1263 : decode cL_law 1263 = .ok (.dload 6, 2) := by decide +kernel
theorem dL_law_1265 : decode cL_law 1265 = .ok (.dcmp .l, 1) := by decide +kernel
theorem dL_law_1266 : decode cL_law 1266 = .ok (.ifCond .eq 21, 3) := by decide +kernel
theorem dL_law_1269 : decode cL_law 1269 = .ok (.dload 4, 2) := by decide +kernel
theorem dL_law_1271 : decode cL_law 1271 = .ok (.dload 4, 2) := by decide +kernel
theorem dL_law_1273 : decode cL_law 1273 = .ok (.dcmp .l, 1) := by decide +kernel
theorem dL_law_1274 : decode cL_law 1274 = .ok (.ifCond .eq 11, 3) := by decide +kernel
theorem dL_law_1277 : decode cL_law 1277 = .ok (.dload 6, 2) := by decide +kernel
theorem dL_law_1279 : decode cL_law 1279 = .ok (.dload 6, 2) := by decide +kernel
theorem dL_law_1281 : decode cL_law 1281 = .ok (.dcmp .l, 1) := by decide +kernel
theorem dL_law_1282 : decode cL_law 1282 = .ok (.ifCond .ne 5, 3) := by decide +kernel
theorem dL_law_1285 : decode cL_law 1285 = .ok (.iconst 0, 1) := by decide +kernel
theorem dL_law_1286 : decode cL_law 1286 = .ok (.ireturn, 1) := by decide +kernel
theorem dL_law_1287 : decode cL_law 1287 = .ok (.goto 42, 3) := by decide +kernel
theorem dL_law_1290 : decode cL_law 1290 = .ok (.aload_n 1, 1) := by decide +kernel
theorem dL_law_1291 : decode cL_law 1291 = .ok (.invokevirtual 155, 3) := by decide +kernel
theorem dL_law_1294 : decode cL_law 1294 = .ok (.aload_n 2, 1) := by decide +kernel
theorem dL_law_1295 : decode cL_law 1295 = .ok (.invokevirtual 158, 3) := by decide +kernel
theorem dL_law_1298 : decode cL_law 1298 = .ok (.if_icmp .eq 31, 3) := by decide +kernel
theorem dL_law_1301 : decode cL_law 1301 = .ok (.iconst 0, 1) := by decide +kernel
theorem dL_law_1302 : decode cL_law 1302 = .ok (.ireturn, 1) := by decide +kernel
theorem dL_law_1303 : decode cL_law 1303 = .ok (.aload_n 1, 1) := by decide +kernel
theorem dL_law_1304 : decode cL_law 1304 = .ok (.invokevirtual 159, 3) := by decide +kernel
theorem dL_law_1307 : decode cL_law 1307 = .ok (.aload_n 2, 1) := by decide +kernel
theorem dL_law_1308 : decode cL_law 1308 = .ok (.invokevirtual 162, 3) := by decide +kernel
theorem dL_law_1311 : decode cL_law 1311 = .ok (.if_icmp .eq 18, 3) := by decide +kernel
theorem dL_law_1314 : decode cL_law 1314 = .ok (.iconst 0, 1) := by decide +kernel
theorem dL_law_1315 : decode cL_law 1315 = .ok (.ireturn, 1) := by decide +kernel
theorem dL_law_1316 : decode cL_law 1316 = .ok (.aload_n 1, 1) := by decide +kernel
theorem dL_law_1317 : decode cL_law 1317 = .ok (.invokevirtual 163, 3) := by decide +kernel
theorem dL_law_1320 : decode cL_law 1320 = .ok (.aload_n 2, 1) := by decide +kernel
theorem dL_law_1321 : decode cL_law 1321 = .ok (.invokevirtual 166, 3) := by decide +kernel
theorem dL_law_1324 : decode cL_law 1324 = .ok (.if_icmp .eq 5, 3) := by decide +kernel
theorem dL_law_1327 : decode cL_law 1327 = .ok (.iconst 0, 1) := by decide +kernel
theorem dL_law_1328 : decode cL_law 1328 = .ok (.ireturn, 1) := by decide +kernel
theorem dL_law_1329 : decode cL_law 1329 = .ok (.iinc 3 4, 3) := by decide +kernel
theorem dL_law_1332 : decode cL_law 1332 = .ok (.goto (-1314), 3) := by decide +kernel
theorem dL_law_1335 : decode cL_law 1335 = .ok (.iconst 1, 1) := by decide +kernel
theorem dL_law_1336 : decode cL_law 1336 = .ok (.ireturn, 1) := by decide +kernel
