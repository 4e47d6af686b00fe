theorem dX11_off_21 : decode cX11_off 21 = .ok (.invokevirtual 410, 3) := by decide +kernel
theorem dX11_off_24 : decode cX11_off 24 = .ok (.l2i, 1) := by decide +kernel
theorem dX11_off_25 : decode cX11_off 25 = .ok (.goto 4, 3) := by decide +kernel
theorem dX11_off_28 : decode cX11_off 28 = .ok (.iconst (-1), 1) := by decide +kernel
theorem dX11_off_29 : decode cX11_off 29 = .ok (.ireturn, 1) := by decide +kernel
theorem dX11_fewest_0 : decode cX11_fewest 0 = .ok (.aload_n 0, 1) := by decide +kernel
theorem dX11_fewest_1 : decode cX11_fewest 1 = .ok (.iconst 0, 1) := by decide +kernel
theorem dX11_fewest_2 : decode cX11_fewest 2 = .ok (.putfield 5, 3) := by decide +kernel
theorem dX11_fewest_5 : decode cX11_fewest 5 = .ok (.aload_n 0, 1) := by decide +kernel
theorem dX11_fewest_6 : decode cX11_fewest 6 = .ok (.iload_n 1, 1) := by decide +kernel
theorem dX11_fewest_7 : decode cX11_fewest 7 = .ok (.invokevirtual 407, 3) := by decide +kernel
theorem dX11_fewest_10 : decode cX11_fewest 10 = .ok (.ifCond .ne 5, 3) := by decide +kernel
theorem dX11_fewest_13 : decode cX11_fewest 13 = .ok (.iconst (-1), 1) := by decide +kernel
theorem dX11_fewest_14 : decode cX11_fewest 14 = .ok (.ireturn, 1) := by decide +kernel
theorem dX11_fewest_15 : decode cX11_fewest 15 = .ok (.iconst 5, 1) := by decide +kernel
theorem dX11_fewest_16 : decode cX11_fewest 16 = .ok (.istore_n 3, 1) := by decide +kernel
theorem dX11_fewest_17 : decode cX11_fewest 17 = .ok (.iload_n 3, 1) := by decide +kernel
theorem dX11_fewest_18 : decode cX11_fewest 18 = .ok (.bipush 24, 2) := by decide +kernel
theorem dX11_fewest_20 : decode cX11_fewest 20 = .ok (.if_icmp .gt 23, 3) := by decide +kernel
theorem dX11_fewest_23 : decode cX11_fewest 23 = .ok (.aload_n 0, 1) := by decide +kernel
theorem dX11_fewest_24 : decode cX11_fewest 24 = .ok (.iload_n 1, 1) := by decide +kernel
theorem dX11_fewest_25 : decode cX11_fewest 25 = .ok (.iload_n 3, 1) := by decide +kernel
theorem dX11_fewest_26 : decode cX11_fewest 26 = .ok (.invokevirtual 410, 3) := by decide +kernel
theorem dX11_fewest_29 : decode cX11_fewest 29 = .ok (.iload_n 2, 1) := by decide +kernel
theorem dX11_fewest_30 : decode cX11_fewest 30 = .ok (.i2l, 1) := by decide +kernel
theorem dX11_fewest_31 : decode cX11_fewest 31 = .ok (.lcmp, 1) := by decide +kernel
theorem dX11_fewest_32 : decode cX11_fewest 32 = .ok (.ifCond .gt 5, 3) := by decide +kernel
theorem dX11_fewest_35 : decode cX11_fewest 35 = .ok (.iload_n 3, 1) := by decide +kernel
theorem dX11_fewest_36 : decode cX11_fewest 36 = .ok (.ireturn, 1) := by decide +kernel
theorem dX11_fewest_37 : decode cX11_fewest 37 = .ok (.iinc 3 1, 3) := by decide +kernel
theorem dX11_fewest_40 : decode cX11_fewest 40 = .ok (.goto (-23), 3) := by decide +kernel
theorem dX11_fewest_43 : decode cX11_fewest 43 = .ok (.iconst (-1), 1) := by decide +kernel
theorem dX11_fewest_44 : decode cX11_fewest 44 = .ok (.ireturn, 1) := by decide +kernel
theorem dX11_of_0 : decode cX11_of 0 = .ok (.aload_n 0, 1) := by decide +kernel
theorem dX11_of_1 : decode cX11_of 1 = .ok (.getfield 226, 3) := by decide +kernel
theorem dX11_of_4 : decode cX11_of 4 = .ok (.bipush 14, 2) := by decide +kernel
theorem dX11_of_6 : decode cX11_of 6 = .ok (.iload_n 1, 1) := by decide +kernel
theorem dX11_of_7 : decode cX11_of 7 = .ok (.imul, 1) := by decide +kernel
theorem dX11_of_8 : decode cX11_of 8 = .ok (.iload_n 2, 1) := by decide +kernel
theorem dX11_of_9 : decode cX11_of 9 = .ok (.iadd, 1) := by decide +kernel
theorem dX11_of_10 : decode cX11_of 10 = .ok (.iaload, 1) := by decide +kernel
theorem dX11_of_11 : decode cX11_of 11 = .ok (.ireturn, 1) := by decide +kernel
theorem dX11_isJob_0 : decode cX11_isJob 0 = .ok (.aload_n 0, 1) := by decide +kernel
theorem dX11_isJob_1 : decode cX11_isJob 1 = .ok (.getfield 260, 3) := by decide +kernel
theorem dX11_isJob_4 : decode cX11_isJob 4 = .ok (.ifCond .eq 23, 3) := by decide +kernel
theorem dX11_isJob_7 : decode cX11_isJob 7 = .ok (.iload_n 1, 1) := by decide +kernel
theorem dX11_isJob_8 : decode cX11_isJob 8 = .ok (.i2l, 1) := by decide +kernel
theorem dX11_isJob_9 : decode cX11_isJob 9 = .ok (.lconst 0, 1) := by decide +kernel
theorem dX11_isJob_10 : decode cX11_isJob 10 = .ok (.aload_n 0, 1) := by decide +kernel
theorem dX11_isJob_11 : decode cX11_isJob 11 = .ok (.getfield 273, 3) := by decide +kernel
theorem dX11_isJob_14 : decode cX11_isJob 14 = .ok (.iconst 1, 1) := by decide +kernel
theorem dX11_isJob_15 : decode cX11_isJob 15 = .ok (.isub, 1) := by decide +kernel
theorem dX11_isJob_16 : decode cX11_isJob 16 = .ok (.i2l, 1) := by decide +kernel
theorem dX11_isJob_17 : decode cX11_isJob 17 = .ok (.invokestatic 65, 3) := by decide +kernel
theorem dX11_isJob_20 : decode cX11_isJob 20 = .ok (.ifCond .eq 7, 3) := by decide +kernel
theorem dX11_isJob_23 : decode cX11_isJob 23 = .ok (.iconst 1, 1) := by decide +kernel
theorem dX11_isJob_24 : decode cX11_isJob 24 = .ok (.goto 4, 3) := by decide +kernel
theorem dX11_isJob_27 : decode cX11_isJob 27 = .ok (.iconst 0, 1) := by decide +kernel
theorem dX11_isJob_28 : decode cX11_isJob 28 = .ok (.ireturn, 1) := by decide +kernel
theorem dX11_refuse_0 : decode cX11_refuse 0 = .ok (.aload_n 0, 1) := by decide +kernel
theorem dX11_refuse_1 : decode cX11_refuse 1 = .ok (.getfield 223, 3) := by decide +kernel
theorem dX11_refuse_4 : decode cX11_refuse 4 = .ok (.iload_n 1, 1) := by decide +kernel
theorem dX11_refuse_5 : decode cX11_refuse 5 = .ok (.dup2, 1) := by decide +kernel
theorem dX11_refuse_6 : decode cX11_refuse 6 = .ok (.iaload, 1) := by decide +kernel
theorem dX11_refuse_7 : decode cX11_refuse 7 = .ok (.iconst 1, 1) := by decide +kernel
theorem dX11_refuse_8 : decode cX11_refuse 8 = .ok (.iadd, 1) := by decide +kernel
theorem dX11_refuse_9 : decode cX11_refuse 9 = .ok (.iastore, 1) := by decide +kernel
theorem dX11_refuse_10 : decode cX11_refuse 10 = .ok (.iconst (-1), 1) := by decide +kernel
theorem dX11_refuse_11 : decode cX11_refuse 11 = .ok (.ireturn, 1) := by decide +kernel
theorem dX11_job_0 : decode cX11_job 0 = .ok (.aload_n 0, 1) := by decide +kernel
theorem dX11_job_1 : decode cX11_job 1 = .ok (.iconst 0, 1) := by decide +kernel
theorem dX11_job_2 : decode cX11_job 2 = .ok (.putfield 5, 3) := by decide +kernel
theorem dX11_job_5 : decode cX11_job 5 = .ok (.aload_n 0, 1) := by decide +kernel
theorem dX11_job_6 : decode cX11_job 6 = .ok (.iload_n 1, 1) := by decide +kernel
theorem dX11_job_7 : decode cX11_job 7 = .ok (.invokevirtual 391, 3) := by decide +kernel
theorem dX11_job_10 : decode cX11_job 10 = .ok (.ifCond .ne 9, 3) := by decide +kernel
theorem dX11_job_13 : decode cX11_job 13 = .ok (.aload_n 0, 1) := by decide +kernel
theorem dX11_job_14 : decode cX11_job 14 = .ok (.iconst 0, 1) := by decide +kernel
theorem dX11_job_15 : decode cX11_job 15 = .ok (.invokevirtual 414, 3) := by decide +kernel
theorem dX11_job_18 : decode cX11_job 18 = .ok (.ireturn, 1) := by decide +kernel
theorem dX11_job_19 : decode cX11_job 19 = .ok (.aload_n 0, 1) := by decide +kernel
theorem dX11_job_20 : decode cX11_job 20 = .ok (.iconst 0, 1) := by decide +kernel
theorem dX11_job_21 : decode cX11_job 21 = .ok (.iload_n 1, 1) := by decide +kernel
theorem dX11_job_22 : decode cX11_job 22 = .ok (.iload_n 2, 1) := by decide +kernel
theorem dX11_job_23 : decode cX11_job 23 = .ok (.i2l, 1) := by decide +kernel
theorem dX11_job_24 : decode cX11_job 24 = .ok (.iload_n 3, 1) := by decide +kernel
theorem dX11_job_25 : decode cX11_job 25 = .ok (.i2l, 1) := by decide +kernel
theorem dX11_job_26 : decode cX11_job 26 = .ok (.iload 4, 2) := by decide +kernel
theorem dX11_job_28 : decode cX11_job 28 = .ok (.i2l, 1) := by decide +kernel
theorem dX11_job_29 : decode cX11_job 29 = .ok (.invokevirtual 374, 3) := by decide +kernel
theorem dX11_job_32 : decode cX11_job 32 = .ok (.ifCond .ne 9, 3) := by decide +kernel
theorem dX11_job_35 : decode cX11_job 35 = .ok (.aload_n 0, 1) := by decide +kernel
theorem dX11_job_36 : decode cX11_job 36 = .ok (.iconst 1, 1) := by decide +kernel
theorem dX11_job_37 : decode cX11_job 37 = .ok (.invokevirtual 414, 3) := by decide +kernel
theorem dX11_job_40 : decode cX11_job 40 = .ok (.ireturn, 1) := by decide +kernel
theorem dX11_job_41 : decode cX11_job 41 = .ok (.aload_n 0, 1) := by decide +kernel
theorem dX11_job_42 : decode cX11_job 42 = .ok (.getfield 273, 3) := by decide +kernel
theorem dX11_job_45 : decode cX11_job 45 = .ok (.bipush 60, 2) := by decide +kernel
theorem dX11_job_47 : decode cX11_job 47 = .ok (.if_icmp .ne 9, 3) := by decide +kernel
theorem dX11_job_50 : decode cX11_job 50 = .ok (.aload_n 0, 1) := by decide +kernel
theorem dX11_job_51 : decode cX11_job 51 = .ok (.iconst 2, 1) := by decide +kernel
theorem dX11_job_52 : decode cX11_job 52 = .ok (.invokevirtual 414, 3) := by decide +kernel
theorem dX11_job_55 : decode cX11_job 55 = .ok (.ireturn, 1) := by decide +kernel
theorem dX11_job_56 : decode cX11_job 56 = .ok (.aload_n 0, 1) := by decide +kernel
theorem dX11_job_57 : decode cX11_job 57 = .ok (.iload_n 1, 1) := by decide +kernel
theorem dX11_job_58 : decode cX11_job 58 = .ok (.iload_n 2, 1) := by decide +kernel
theorem dX11_job_59 : decode cX11_job 59 = .ok (.iload_n 3, 1) := by decide +kernel
theorem dX11_job_60 : decode cX11_job 60 = .ok (.iload 4, 2) := by decide +kernel
theorem dX11_job_62 : decode cX11_job 62 = .ok (.invokevirtual 417, 3) := by decide +kernel
theorem dX11_job_65 : decode cX11_job 65 = .ok (.aload_n 0, 1) := by decide +kernel
theorem dX11_job_66 : decode cX11_job 66 = .ok (.getfield 273, 3) := by decide +kernel
theorem dX11_job_69 : decode cX11_job 69 = .ok (.iconst 1, 1) := by decide +kernel
theorem dX11_job_70 : decode cX11_job 70 = .ok (.isub, 1) := by decide +kernel
theorem dX11_job_71 : decode cX11_job 71 = .ok (.ireturn, 1) := by decide +kernel
theorem dX11_isLinked_0 : decode cX11_isLinked 0 = .ok (.aload_n 0, 1) := by decide +kernel
theorem dX11_isLinked_1 : decode cX11_isLinked 1 = .ok (.getfield 126, 3) := by decide +kernel
theorem dX11_isLinked_4 : decode cX11_isLinked 4 = .ok (.iload_n 1, 1) := by decide +kernel
theorem dX11_isLinked_5 : decode cX11_isLinked 5 = .ok (.iconst 4, 1) := by decide +kernel
theorem dX11_isLinked_6 : decode cX11_isLinked 6 = .ok (.iadd, 1) := by decide +kernel
theorem dX11_isLinked_7 : decode cX11_isLinked 7 = .ok (.iaload, 1) := by decide +kernel
theorem dX11_isLinked_8 : decode cX11_isLinked 8 = .ok (.iconst (-1), 1) := by decide +kernel
theorem dX11_isLinked_9 : decode cX11_isLinked 9 = .ok (.if_icmp .ne 28, 3) := by decide +kernel
theorem dX11_isLinked_12 : decode cX11_isLinked 12 = .ok (.aload_n 0, 1) := by decide +kernel
theorem dX11_isLinked_13 : decode cX11_isLinked 13 = .ok (.getfield 126, 3) := by decide +kernel
theorem dX11_isLinked_16 : decode cX11_isLinked 16 = .ok (.iload_n 1, 1) := by decide +kernel
theorem dX11_isLinked_17 : decode cX11_isLinked 17 = .ok (.iconst 5, 1) := by decide +kernel
theorem dX11_isLinked_18 : decode cX11_isLinked 18 = .ok (.iadd, 1) := by decide +kernel
theorem dX11_isLinked_19 : decode cX11_isLinked 19 = .ok (.iaload, 1) := by decide +kernel
theorem dX11_isLinked_20 : decode cX11_isLinked 20 = .ok (.iconst (-1), 1) := by decide +kernel
theorem dX11_isLinked_21 : decode cX11_isLinked 21 = .ok (.if_icmp .ne 16, 3) := by decide +kernel
theorem dX11_isLinked_24 : decode cX11_isLinked 24 = .ok (.aload_n 0, 1) := by decide +kernel
theorem dX11_isLinked_25 : decode cX11_isLinked 25 = .ok (.getfield 126, 3) := by decide +kernel
theorem dX11_isLinked_28 : decode cX11_isLinked 28 = .ok (.iload_n 1, 1) := by decide +kernel
theorem dX11_isLinked_29 : decode cX11_isLinked 29 = .ok (.bipush 6, 2) := by decide +kernel
theorem dX11_isLinked_31 : decode cX11_isLinked 31 = .ok (.iadd, 1) := by decide +kernel
theorem dX11_isLinked_32 : decode cX11_isLinked 32 = .ok (.iaload, 1) := by decide +kernel
theorem dX11_isLinked_33 : decode cX11_isLinked 33 = .ok (.iconst (-1), 1) := by decide +kernel
theorem dX11_isLinked_34 : decode cX11_isLinked 34 = .ok (.if_icmp .eq 7, 3) := by decide +kernel
theorem dX11_isLinked_37 : decode cX11_isLinked 37 = .ok (.iconst 1, 1) := by decide +kernel
theorem dX11_isLinked_38 : decode cX11_isLinked 38 = .ok (.goto 4, 3) := by decide +kernel
theorem dX11_isLinked_41 : decode cX11_isLinked 41 = .ok (.iconst 0, 1) := by decide +kernel
theorem dX11_isLinked_42 : decode cX11_isLinked 42 = .ok (.ireturn, 1) := by decide +kernel
theorem dX11_areGood_0 : decode cX11_areGood 0 = .ok (.iconst 0, 1) := by decide +kernel
theorem dX11_areGood_1 : decode cX11_areGood 1 = .ok (.istore_n 1, 1) := by decide +kernel
theorem dX11_areGood_2 : decode cX11_areGood 2 = .ok (.iload_n 1, 1) := by decide +kernel
theorem dX11_areGood_3 : decode cX11_areGood 3 = .ok (.aload_n 0, 1) := by decide +kernel
theorem dX11_areGood_4 : decode cX11_areGood 4 = .ok (.getfield 123, 3) := by decide +kernel
theorem dX11_areGood_7 : decode cX11_areGood 7 = .ok (.if_icmp .ge 65, 3) := by decide +kernel
theorem dX11_areGood_10 : decode cX11_areGood 10 = .ok (.bipush 7, 2) := by decide +kernel
theorem dX11_areGood_12 : decode cX11_areGood 12 = .ok (.iload_n 1, 1) := by decide +kernel
theorem dX11_areGood_13 : decode cX11_areGood 13 = .ok (.imul, 1) := by decide +kernel
theorem dX11_areGood_14 : decode cX11_areGood 14 = .ok (.istore_n 2, 1) := by decide +kernel
theorem dX11_areGood_15 : decode cX11_areGood 15 = .ok (.aload_n 0, 1) := by decide +kernel
theorem dX11_areGood_16 : decode cX11_areGood 16 = .ok (.iload_n 2, 1) := by decide +kernel
theorem dX11_areGood_17 : decode cX11_areGood 17 = .ok (.invokevirtual 421, 3) := by decide +kernel
theorem dX11_areGood_20 : decode cX11_areGood 20 = .ok (.ifCond .ne 46, 3) := by decide +kernel
theorem dX11_areGood_23 : decode cX11_areGood 23 = .ok (.aload_n 0, 1) := by decide +kernel
theorem dX11_areGood_24 : decode cX11_areGood 24 = .ok (.iconst 0, 1) := by decide +kernel
theorem dX11_areGood_25 : decode cX11_areGood 25 = .ok (.aload_n 0, 1) := by decide +kernel
theorem dX11_areGood_26 : decode cX11_areGood 26 = .ok (.getfield 126, 3) := by decide +kernel
theorem dX11_areGood_29 : decode cX11_areGood 29 = .ok (.iload_n 2, 1) := by decide +kernel
theorem dX11_areGood_30 : decode cX11_areGood 30 = .ok (.iaload, 1) := by decide +kernel
theorem dX11_areGood_31 : decode cX11_areGood 31 = .ok (.aload_n 0, 1) := by decide +kernel
theorem dX11_areGood_32 : decode cX11_areGood 32 = .ok (.getfield 126, 3) := by decide +kernel
theorem dX11_areGood_35 : decode cX11_areGood 35 = .ok (.iload_n 2, 1) := by decide +kernel
theorem dX11_areGood_36 : decode cX11_areGood 36 = .ok (.iconst 1, 1) := by decide +kernel
theorem dX11_areGood_37 : decode cX11_areGood 37 = .ok (.iadd, 1) := by decide +kernel
theorem dX11_areGood_38 : decode cX11_areGood 38 = .ok (.iaload, 1) := by decide +kernel
theorem dX11_areGood_39 : decode cX11_areGood 39 = .ok (.i2l, 1) := by decide +kernel
theorem dX11_areGood_40 : decode cX11_areGood 40 = .ok (.aload_n 0, 1) := by decide +kernel
theorem dX11_areGood_41 : decode cX11_areGood 41 = .ok (.getfield 126, 3) := by decide +kernel
theorem dX11_areGood_44 : decode cX11_areGood 44 = .ok (.iload_n 2, 1) := by decide +kernel
theorem dX11_areGood_45 : decode cX11_areGood 45 = .ok (.iconst 2, 1) := by decide +kernel
theorem dX11_areGood_46 : decode cX11_areGood 46 = .ok (.iadd, 1) := by decide +kernel
theorem dX11_areGood_47 : decode cX11_areGood 47 = .ok (.iaload, 1) := by decide +kernel
theorem dX11_areGood_48 : decode cX11_areGood 48 = .ok (.i2l, 1) := by decide +kernel
theorem dX11_areGood_49 : decode cX11_areGood 49 = .ok (.aload_n 0, 1) := by decide +kernel
theorem dX11_areGood_50 : decode cX11_areGood 50 = .ok (.getfield 126, 3) := by decide +kernel
theorem dX11_areGood_53 : decode cX11_areGood 53 = .ok (.iload_n 2, 1) := by decide +kernel
theorem dX11_areGood_54 : decode cX11_areGood 54 = .ok (.iconst 3, 1) := by decide +kernel
theorem dX11_areGood_55 : decode cX11_areGood 55 = .ok (.iadd, 1) := by decide +kernel
theorem dX11_areGood_56 : decode cX11_areGood 56 = .ok (.iaload, 1) := by decide +kernel
theorem dX11_areGood_57 : decode cX11_areGood 57 = .ok (.i2l, 1) := by decide +kernel
theorem dX11_areGood_58 : decode cX11_areGood 58 = .ok (.invokevirtual 374, 3) := by decide +kernel
theorem dX11_areGood_61 : decode cX11_areGood 61 = .ok (.ifCond .ne 5, 3) := by decide +kernel
theorem dX11_areGood_64 : decode cX11_areGood 64 = .ok (.iconst 0, 1) := by decide +kernel
theorem dX11_areGood_65 : decode cX11_areGood 65 = .ok (.ireturn, 1) := by decide +kernel
theorem dX11_areGood_66 : decode cX11_areGood 66 = .ok (.iinc 1 1, 3) := by decide +kernel
theorem dX11_areGood_69 : decode cX11_areGood 69 = .ok (.goto (-67), 3) := by decide +kernel
theorem dX11_areGood_72 : decode cX11_areGood 72 = .ok (.iconst 1, 1) := by decide +kernel
theorem dX11_areGood_73 : decode cX11_areGood 73 = .ok (.ireturn, 1) := by decide +kernel
theorem dX11_adds_0 : decode cX11_adds 0 = .ok (.bipush 14, 2) := by decide +kernel
theorem dX11_adds_2 : decode cX11_adds 2 = .ok (.aload_n 0, 1) := by decide +kernel
theorem dX11_adds_3 : decode cX11_adds 3 = .ok (.getfield 273, 3) := by decide +kernel
theorem dX11_adds_6 : decode cX11_adds 6 = .ok (.imul, 1) := by decide +kernel
theorem dX11_adds_7 : decode cX11_adds 7 = .ok (.istore 5, 2) := by decide +kernel
theorem dX11_adds_9 : decode cX11_adds 9 = .ok (.iconst 0, 1) := by decide +kernel
theorem dX11_adds_10 : decode cX11_adds 10 = .ok (.istore 6, 2) := by decide +kernel
theorem dX11_adds_12 : decode cX11_adds 12 = .ok (.iload 6, 2) := by decide +kernel
theorem dX11_adds_14 : decode cX11_adds 14 = .ok (.bipush 14, 2) := by decide +kernel
theorem dX11_adds_16 : decode cX11_adds 16 = .ok (.if_icmp .ge 45, 3) := by decide +kernel
theorem dX11_adds_19 : decode cX11_adds 19 = .ok (.aload_n 0, 1) := by decide +kernel
theorem dX11_adds_20 : decode cX11_adds 20 = .ok (.getfield 226, 3) := by decide +kernel
theorem dX11_adds_23 : decode cX11_adds 23 = .ok (.iload 5, 2) := by decide +kernel
theorem dX11_adds_25 : decode cX11_adds 25 = .ok (.iload 6, 2) := by decide +kernel
theorem dX11_adds_27 : decode cX11_adds 27 = .ok (.iadd, 1) := by decide +kernel
theorem dX11_adds_28 : decode cX11_adds 28 = .ok (.iload 6, 2) := by decide +kernel
theorem dX11_adds_30 : decode cX11_adds 30 = .ok (.bipush 10, 2) := by decide +kernel
theorem dX11_adds_32 : decode cX11_adds 32 = .ok (.if_icmp .ge 17, 3) := by decide +kernel
theorem dX11_adds_35 : decode cX11_adds 35 = .ok (.iload 6, 2) := by decide +kernel
theorem dX11_adds_37 : decode cX11_adds 37 = .ok (.bipush 6, 2) := by decide +kernel
theorem dX11_adds_39 : decode cX11_adds 39 = .ok (.if_icmp .eq 10, 3) := by decide +kernel
theorem dX11_adds_42 : decode cX11_adds 42 = .ok (.iload 6, 2) := by decide +kernel
theorem dX11_adds_44 : decode cX11_adds 44 = .ok (.bipush 7, 2) := by decide +kernel
theorem dX11_adds_46 : decode cX11_adds 46 = .ok (.if_icmp .ne 7, 3) := by decide +kernel
theorem dX11_adds_49 : decode cX11_adds 49 = .ok (.iconst (-1), 1) := by decide +kernel
theorem dX11_adds_50 : decode cX11_adds 50 = .ok (.goto 4, 3) := by decide +kernel
theorem dX11_adds_53 : decode cX11_adds 53 = .ok (.iconst 0, 1) := by decide +kernel
theorem dX11_adds_54 : decode cX11_adds 54 = .ok (.iastore, 1) := by decide +kernel
theorem dX11_adds_55 : decode cX11_adds 55 = .ok (.iinc 6 1, 3) := by decide +kernel
theorem dX11_adds_58 : decode cX11_adds 58 = .ok (.goto (-46), 3) := by decide +kernel
theorem dX11_adds_61 : decode cX11_adds 61 = .ok (.aload_n 0, 1) := by decide +kernel
theorem dX11_adds_62 : decode cX11_adds 62 = .ok (.getfield 226, 3) := by decide +kernel
theorem dX11_adds_65 : decode cX11_adds 65 = .ok (.iload 5, 2) := by decide +kernel
theorem dX11_adds_67 : decode cX11_adds 67 = .ok (.iload_n 1, 1) := by decide +kernel
theorem dX11_adds_68 : decode cX11_adds 68 = .ok (.iastore, 1) := by decide +kernel
theorem dX11_adds_69 : decode cX11_adds 69 = .ok (.aload_n 0, 1) := by decide +kernel
theorem dX11_adds_70 : decode cX11_adds 70 = .ok (.getfield 226, 3) := by decide +kernel
theorem dX11_adds_73 : decode cX11_adds 73 = .ok (.iload 5, 2) := by decide +kernel
theorem dX11_adds_75 : decode cX11_adds 75 = .ok (.bipush 13, 2) := by decide +kernel
theorem dX11_adds_77 : decode cX11_adds 77 = .ok (.iadd, 1) := by decide +kernel
theorem dX11_adds_78 : decode cX11_adds 78 = .ok (.aload_n 0, 1) := by decide +kernel
theorem dX11_adds_79 : decode cX11_adds 79 = .ok (.getfield 267, 3) := by decide +kernel
theorem dX11_adds_82 : decode cX11_adds 82 = .ok (.iastore, 1) := by decide +kernel
theorem dX11_adds_83 : decode cX11_adds 83 = .ok (.aload_n 0, 1) := by decide +kernel
theorem dX11_adds_84 : decode cX11_adds 84 = .ok (.getfield 226, 3) := by decide +kernel
theorem dX11_adds_87 : decode cX11_adds 87 = .ok (.iload 5, 2) := by decide +kernel
theorem dX11_adds_89 : decode cX11_adds 89 = .ok (.iconst 1, 1) := by decide +kernel
theorem dX11_adds_90 : decode cX11_adds 90 = .ok (.iadd, 1) := by decide +kernel
theorem dX11_adds_91 : decode cX11_adds 91 = .ok (.iload_n 2, 1) := by decide +kernel
theorem dX11_adds_92 : decode cX11_adds 92 = .ok (.iastore, 1) := by decide +kernel
theorem dX11_adds_93 : decode cX11_adds 93 = .ok (.aload_n 0, 1) := by decide +kernel
theorem dX11_adds_94 : decode cX11_adds 94 = .ok (.getfield 226, 3) := by decide +kernel
theorem dX11_adds_97 : decode cX11_adds 97 = .ok (.iload 5, 2) := by decide +kernel
theorem dX11_adds_99 : decode cX11_adds 99 = .ok (.iconst 1, 1) := by decide +kernel
theorem dX11_adds_100 : decode cX11_adds 100 = .ok (.iadd, 1) := by decide +kernel
theorem dX11_adds_101 : decode cX11_adds 101 = .ok (.iconst 1, 1) := by decide +kernel
theorem dX11_adds_102 : decode cX11_adds 102 = .ok (.iadd, 1) := by decide +kernel
theorem dX11_adds_103 : decode cX11_adds 103 = .ok (.iload_n 3, 1) := by decide +kernel
theorem dX11_adds_104 : decode cX11_adds 104 = .ok (.iastore, 1) := by decide +kernel
theorem dX11_adds_105 : decode cX11_adds 105 = .ok (.aload_n 0, 1) := by decide +kernel
theorem dX11_adds_106 : decode cX11_adds 106 = .ok (.getfield 226, 3) := by decide +kernel
theorem dX11_adds_109 : decode cX11_adds 109 = .ok (.iload 5, 2) := by decide +kernel
theorem dX11_adds_111 : decode cX11_adds 111 = .ok (.iconst 1, 1) := by decide +kernel
theorem dX11_adds_112 : decode cX11_adds 112 = .ok (.iadd, 1) := by decide +kernel
theorem dX11_adds_113 : decode cX11_adds 113 = .ok (.iconst 2, 1) := by decide +kernel
theorem dX11_adds_114 : decode cX11_adds 114 = .ok (.iadd, 1) := by decide +kernel
theorem dX11_adds_115 : decode cX11_adds 115 = .ok (.iload 4, 2) := by decide +kernel
theorem dX11_adds_117 : decode cX11_adds 117 = .ok (.iastore, 1) := by decide +kernel
theorem dX11_adds_118 : decode cX11_adds 118 = .ok (.aload_n 0, 1) := by decide +kernel
theorem dX11_adds_119 : decode cX11_adds 119 = .ok (.dup, 1) := by decide +kernel
theorem dX11_adds_120 : decode cX11_adds 120 = .ok (.getfield 273, 3) := by decide +kernel
theorem dX11_adds_123 : decode cX11_adds 123 = .ok (.iconst 1, 1) := by decide +kernel
theorem dX11_adds_124 : decode cX11_adds 124 = .ok (.iadd, 1) := by decide +kernel
theorem dX11_adds_125 : decode cX11_adds 125 = .ok (.putfield 273, 3) := by decide +kernel
theorem dX11_adds_128 : decode cX11_adds 128 = .ok (.return_, 1) := by decide +kernel
theorem dX11_orders_0 : decode cX11_orders 0 = .ok (.aload_n 0, 1) := by decide +kernel
theorem dX11_orders_1 : decode cX11_orders 1 = .ok (.iconst 0, 1) := by decide +kernel
theorem dX11_orders_2 : decode cX11_orders 2 = .ok (.putfield 5, 3) := by decide +kernel
theorem dX11_orders_5 : decode cX11_orders 5 = .ok (.aload_n 0, 1) := by decide +kernel
theorem dX11_orders_6 : decode cX11_orders 6 = .ok (.getfield 260, 3) := by decide +kernel
theorem dX11_orders_9 : decode cX11_orders 9 = .ok (.ifCond .ne 9, 3) := by decide +kernel
theorem dX11_orders_12 : decode cX11_orders 12 = .ok (.aload_n 0, 1) := by decide +kernel
theorem dX11_orders_13 : decode cX11_orders 13 = .ok (.iconst 0, 1) := by decide +kernel
theorem dX11_orders_14 : decode cX11_orders 14 = .ok (.invokevirtual 414, 3) := by decide +kernel
theorem dX11_orders_17 : decode cX11_orders 17 = .ok (.ireturn, 1) := by decide +kernel
theorem dX11_orders_18 : decode cX11_orders 18 = .ok (.aload_n 0, 1) := by decide +kernel
theorem dX11_orders_19 : decode cX11_orders 19 = .ok (.invokevirtual 96, 3) := by decide +kernel
theorem dX11_orders_22 : decode cX11_orders 22 = .ok (.iconst (-1), 1) := by decide +kernel
theorem dX11_orders_23 : decode cX11_orders 23 = .ok (.if_icmp .ne 10, 3) := by decide +kernel
theorem dX11_orders_26 : decode cX11_orders 26 = .ok (.aload_n 0, 1) := by decide +kernel
theorem dX11_orders_27 : decode cX11_orders 27 = .ok (.invokevirtual 424, 3) := by decide +kernel
theorem dX11_orders_30 : decode cX11_orders 30 = .ok (.ifCond .ne 9, 3) := by decide +kernel
theorem dX11_orders_33 : decode cX11_orders 33 = .ok (.aload_n 0, 1) := by decide +kernel
theorem dX11_orders_34 : decode cX11_orders 34 = .ok (.iconst 1, 1) := by decide +kernel
theorem dX11_orders_35 : decode cX11_orders 35 = .ok (.invokevirtual 414, 3) := by decide +kernel
theorem dX11_orders_38 : decode cX11_orders 38 = .ok (.ireturn, 1) := by decide +kernel
theorem dX11_orders_39 : decode cX11_orders 39 = .ok (.aload_n 0, 1) := by decide +kernel
theorem dX11_orders_40 : decode cX11_orders 40 = .ok (.getfield 273, 3) := by decide +kernel
theorem dX11_orders_43 : decode cX11_orders 43 = .ok (.aload_n 0, 1) := by decide +kernel
theorem dX11_orders_44 : decode cX11_orders 44 = .ok (.getfield 123, 3) := by decide +kernel
theorem dX11_orders_47 : decode cX11_orders 47 = .ok (.iadd, 1) := by decide +kernel
theorem dX11_orders_48 : decode cX11_orders 48 = .ok (.bipush 60, 2) := by decide +kernel
theorem dX11_orders_50 : decode cX11_orders 50 = .ok (.if_icmp .le 9, 3) := by decide +kernel
theorem dX11_orders_53 : decode cX11_orders 53 = .ok (.aload_n 0, 1) := by decide +kernel
theorem dX11_orders_54 : decode cX11_orders 54 = .ok (.iconst 2, 1) := by decide +kernel
theorem dX11_orders_55 : decode cX11_orders 55 = .ok (.invokevirtual 414, 3) := by decide +kernel
theorem dX11_orders_58 : decode cX11_orders 58 = .ok (.ireturn, 1) := by decide +kernel
theorem dX11_orders_59 : decode cX11_orders 59 = .ok (.aload_n 0, 1) := by decide +kernel
theorem dX11_orders_60 : decode cX11_orders 60 = .ok (.iconst 0, 1) := by decide +kernel
theorem dX11_orders_61 : decode cX11_orders 61 = .ok (.putfield 13, 3) := by decide +kernel
theorem dX11_orders_64 : decode cX11_orders 64 = .ok (.aload_n 0, 1) := by decide +kernel
theorem dX11_orders_65 : decode cX11_orders 65 = .ok (.getfield 273, 3) := by decide +kernel
theorem dX11_orders_68 : decode cX11_orders 68 = .ok (.istore_n 1, 1) := by decide +kernel
theorem dX11_orders_69 : decode cX11_orders 69 = .ok (.iconst 0, 1) := by decide +kernel
theorem dX11_orders_70 : decode cX11_orders 70 = .ok (.istore_n 2, 1) := by decide +kernel
theorem dX11_orders_71 : decode cX11_orders 71 = .ok (.iload_n 2, 1) := by decide +kernel
theorem dX11_orders_72 : decode cX11_orders 72 = .ok (.aload_n 0, 1) := by decide +kernel
theorem dX11_orders_73 : decode cX11_orders 73 = .ok (.getfield 123, 3) := by decide +kernel
theorem dX11_orders_76 : decode cX11_orders 76 = .ok (.if_icmp .ge 110, 3) := by decide +kernel
theorem dX11_orders_79 : decode cX11_orders 79 = .ok (.bipush 7, 2) := by decide +kernel
theorem dX11_orders_81 : decode cX11_orders 81 = .ok (.iload_n 2, 1) := by decide +kernel
theorem dX11_orders_82 : decode cX11_orders 82 = .ok (.imul, 1) := by decide +kernel
theorem dX11_orders_83 : decode cX11_orders 83 = .ok (.istore_n 3, 1) := by decide +kernel
theorem dX11_orders_84 : decode cX11_orders 84 = .ok (.aload_n 0, 1) := by decide +kernel
theorem dX11_orders_85 : decode cX11_orders 85 = .ok (.aload_n 0, 1) := by decide +kernel
theorem dX11_orders_86 : decode cX11_orders 86 = .ok (.getfield 126, 3) := by decide +kernel
theorem dX11_orders_89 : decode cX11_orders 89 = .ok (.iload_n 3, 1) := by decide +kernel
theorem dX11_orders_90 : decode cX11_orders 90 = .ok (.iaload, 1) := by decide +kernel
theorem dX11_orders_91 : decode cX11_orders 91 = .ok (.aload_n 0, 1) := by decide +kernel
theorem dX11_orders_92 : decode cX11_orders 92 = .ok (.getfield 126, 3) := by decide +kernel
theorem dX11_orders_95 : decode cX11_orders 95 = .ok (.iload_n 3, 1) := by decide +kernel
theorem dX11_orders_96 : decode cX11_orders 96 = .ok (.iconst 1, 1) := by decide +kernel
theorem dX11_orders_97 : decode cX11_orders 97 = .ok (.iadd, 1) := by decide +kernel
theorem dX11_orders_98 : decode cX11_orders 98 = .ok (.iaload, 1) := by decide +kernel
theorem dX11_orders_99 : decode cX11_orders 99 = .ok (.aload_n 0, 1) := by decide +kernel
theorem dX11_orders_100 : decode cX11_orders 100 = .ok (.getfield 126, 3) := by decide +kernel
theorem dX11_orders_103 : decode cX11_orders 103 = .ok (.iload_n 3, 1) := by decide +kernel
theorem dX11_orders_104 : decode cX11_orders 104 = .ok (.iconst 2, 1) := by decide +kernel
theorem dX11_orders_105 : decode cX11_orders 105 = .ok (.iadd, 1) := by decide +kernel
theorem dX11_orders_106 : decode cX11_orders 106 = .ok (.iaload, 1) := by decide +kernel
theorem dX11_orders_107 : decode cX11_orders 107 = .ok (.aload_n 0, 1) := by decide +kernel
theorem dX11_orders_108 : decode cX11_orders 108 = .ok (.getfield 126, 3) := by decide +kernel
theorem dX11_orders_111 : decode cX11_orders 111 = .ok (.iload_n 3, 1) := by decide +kernel
theorem dX11_orders_112 : decode cX11_orders 112 = .ok (.iconst 3, 1) := by decide +kernel
theorem dX11_orders_113 : decode cX11_orders 113 = .ok (.iadd, 1) := by decide +kernel
theorem dX11_orders_114 : decode cX11_orders 114 = .ok (.iaload, 1) := by decide +kernel
theorem dX11_orders_115 : decode cX11_orders 115 = .ok (.invokevirtual 417, 3) := by decide +kernel
theorem dX11_orders_118 : decode cX11_orders 118 = .ok (.iconst 0, 1) := by decide +kernel
theorem dX11_orders_119 : decode cX11_orders 119 = .ok (.istore 4, 2) := by decide +kernel
theorem dX11_orders_121 : decode cX11_orders 121 = .ok (.iload 4, 2) := by decide +kernel
theorem dX11_orders_123 : decode cX11_orders 123 = .ok (.iconst 3, 1) := by decide +kernel
theorem dX11_orders_124 : decode cX11_orders 124 = .ok (.if_icmp .ge 56, 3) := by decide +kernel
theorem dX11_orders_127 : decode cX11_orders 127 = .ok (.aload_n 0, 1) := by decide +kernel
theorem dX11_orders_128 : decode cX11_orders 128 = .ok (.getfield 126, 3) := by decide +kernel
theorem dX11_orders_131 : decode cX11_orders 131 = .ok (.iload_n 3, 1) := by decide +kernel
theorem dX11_orders_132 : decode cX11_orders 132 = .ok (.iconst 4, 1) := by decide +kernel
theorem dX11_orders_133 : decode cX11_orders 133 = .ok (.iadd, 1) := by decide +kernel
theorem dX11_orders_134 : decode cX11_orders 134 = .ok (.iload 4, 2) := by decide +kernel
theorem dX11_orders_136 : decode cX11_orders 136 = .ok (.iadd, 1) := by decide +kernel
theorem dX11_orders_137 : decode cX11_orders 137 = .ok (.iaload, 1) := by decide +kernel
theorem dX11_orders_138 : decode cX11_orders 138 = .ok (.iconst (-1), 1) := by decide +kernel
theorem dX11_orders_139 : decode cX11_orders 139 = .ok (.if_icmp .eq 35, 3) := by decide +kernel
theorem dX11_orders_142 : decode cX11_orders 142 = .ok (.aload_n 0, 1) := by decide +kernel
theorem dX11_orders_143 : decode cX11_orders 143 = .ok (.getfield 226, 3) := by decide +kernel
theorem dX11_orders_146 : decode cX11_orders 146 = .ok (.bipush 14, 2) := by decide +kernel
theorem dX11_orders_148 : decode cX11_orders 148 = .ok (.iload_n 1, 1) := by decide +kernel
theorem dX11_orders_149 : decode cX11_orders 149 = .ok (.iload_n 2, 1) := by decide +kernel
theorem dX11_orders_150 : decode cX11_orders 150 = .ok (.iadd, 1) := by decide +kernel
theorem dX11_orders_151 : decode cX11_orders 151 = .ok (.imul, 1) := by decide +kernel
theorem dX11_orders_152 : decode cX11_orders 152 = .ok (.bipush 10, 2) := by decide +kernel
theorem dX11_orders_154 : decode cX11_orders 154 = .ok (.iadd, 1) := by decide +kernel
theorem dX11_orders_155 : decode cX11_orders 155 = .ok (.iload 4, 2) := by decide +kernel
theorem dX11_orders_157 : decode cX11_orders 157 = .ok (.iadd, 1) := by decide +kernel
theorem dX11_orders_158 : decode cX11_orders 158 = .ok (.aload_n 0, 1) := by decide +kernel
theorem dX11_orders_159 : decode cX11_orders 159 = .ok (.getfield 126, 3) := by decide +kernel
theorem dX11_orders_162 : decode cX11_orders 162 = .ok (.iload_n 3, 1) := by decide +kernel
theorem dX11_orders_163 : decode cX11_orders 163 = .ok (.iconst 4, 1) := by decide +kernel
theorem dX11_orders_164 : decode cX11_orders 164 = .ok (.iadd, 1) := by decide +kernel
theorem dX11_orders_165 : decode cX11_orders 165 = .ok (.iload 4, 2) := by decide +kernel
theorem dX11_orders_167 : decode cX11_orders 167 = .ok (.iadd, 1) := by decide +kernel
theorem dX11_orders_168 : decode cX11_orders 168 = .ok (.iaload, 1) := by decide +kernel
theorem dX11_orders_169 : decode cX11_orders 169 = .ok (.iconst 2, 1) := by decide +kernel
theorem dX11_orders_170 : decode cX11_orders 170 = .ok (.iload_n 1, 1) := by decide +kernel
theorem dX11_orders_171 : decode cX11_orders 171 = .ok (.imul, 1) := by decide +kernel
theorem dX11_orders_172 : decode cX11_orders 172 = .ok (.iadd, 1) := by decide +kernel
theorem dX11_orders_173 : decode cX11_orders 173 = .ok (.iastore, 1) := by decide +kernel
theorem dX11_orders_174 : decode cX11_orders 174 = .ok (.iinc 4 1, 3) := by decide +kernel
theorem dX11_orders_177 : decode cX11_orders 177 = .ok (.goto (-56), 3) := by decide +kernel
theorem dX11_orders_180 : decode cX11_orders 180 = .ok (.iinc 2 1, 3) := by decide +kernel
theorem dX11_orders_183 : decode cX11_orders 183 = .ok (.goto (-112), 3) := by decide +kernel
theorem dX11_orders_186 : decode cX11_orders 186 = .ok (.aload_n 0, 1) := by decide +kernel
theorem dX11_orders_187 : decode cX11_orders 187 = .ok (.getfield 123, 3) := by decide +kernel
theorem dX11_orders_190 : decode cX11_orders 190 = .ok (.ireturn, 1) := by decide +kernel
theorem dX11_isWanted_0 : decode cX11_isWanted 0 = .ok (.iload_n 1, 1) := by decide +kernel
theorem dX11_isWanted_1 : decode cX11_isWanted 1 = .ok (.iconst 1, 1) := by decide +kernel
theorem dX11_isWanted_2 : decode cX11_isWanted 2 = .ok (.iadd, 1) := by decide +kernel
theorem dX11_isWanted_3 : decode cX11_isWanted 3 = .ok (.istore_n 2, 1) := by decide +kernel
theorem dX11_isWanted_4 : decode cX11_isWanted 4 = .ok (.iload_n 2, 1) := by decide +kernel
theorem dX11_isWanted_5 : decode cX11_isWanted 5 = .ok (.aload_n 0, 1) := by decide +kernel
theorem dX11_isWanted_6 : decode cX11_isWanted 6 = .ok (.getfield 273, 3) := by decide +kernel
theorem dX11_isWanted_9 : decode cX11_isWanted 9 = .ok (.if_icmp .ge 64, 3) := by decide +kernel
theorem dX11_isWanted_12 : decode cX11_isWanted 12 = .ok (.aload_n 0, 1) := by decide +kernel
theorem dX11_isWanted_13 : decode cX11_isWanted 13 = .ok (.iload_n 2, 1) := by decide +kernel
theorem dX11_isWanted_14 : decode cX11_isWanted 14 = .ok (.iconst 4, 1) := by decide +kernel
theorem dX11_isWanted_15 : decode cX11_isWanted 15 = .ok (.invokevirtual 428, 3) := by decide +kernel
theorem dX11_isWanted_18 : decode cX11_isWanted 18 = .ok (.ifCond .eq 6, 3) := by decide +kernel
theorem dX11_isWanted_21 : decode cX11_isWanted 21 = .ok (.goto 46, 3) := by decide +kernel
theorem dX11_isWanted_24 : decode cX11_isWanted 24 = .ok (.iconst 0, 1) := by decide +kernel
theorem dX11_isWanted_25 : decode cX11_isWanted 25 = .ok (.istore_n 3, 1) := by decide +kernel
theorem dX11_isWanted_26 : decode cX11_isWanted 26 = .ok (.iload_n 3, 1) := by decide +kernel
theorem dX11_isWanted_27 : decode cX11_isWanted 27 = .ok (.iconst 3, 1) := by decide +kernel
theorem dX11_isWanted_28 : decode cX11_isWanted 28 = .ok (.if_icmp .ge 39, 3) := by decide +kernel
theorem dX11_isWanted_31 : decode cX11_isWanted 31 = .ok (.aload_n 0, 1) := by decide +kernel
theorem dX11_isWanted_32 : decode cX11_isWanted 32 = .ok (.iload_n 2, 1) := by decide +kernel
theorem dX11_isWanted_33 : decode cX11_isWanted 33 = .ok (.bipush 10, 2) := by decide +kernel
theorem dX11_isWanted_35 : decode cX11_isWanted 35 = .ok (.iload_n 3, 1) := by decide +kernel
theorem dX11_isWanted_36 : decode cX11_isWanted 36 = .ok (.iadd, 1) := by decide +kernel
theorem dX11_isWanted_37 : decode cX11_isWanted 37 = .ok (.invokevirtual 428, 3) := by decide +kernel
theorem dX11_isWanted_40 : decode cX11_isWanted 40 = .ok (.iconst (-1), 1) := by decide +kernel
theorem dX11_isWanted_41 : decode cX11_isWanted 41 = .ok (.if_icmp .eq 20, 3) := by decide +kernel
theorem dX11_isWanted_44 : decode cX11_isWanted 44 = .ok (.aload_n 0, 1) := by decide +kernel
theorem dX11_isWanted_45 : decode cX11_isWanted 45 = .ok (.iload_n 2, 1) := by decide +kernel
theorem dX11_isWanted_46 : decode cX11_isWanted 46 = .ok (.bipush 10, 2) := by decide +kernel
theorem dX11_isWanted_48 : decode cX11_isWanted 48 = .ok (.iload_n 3, 1) := by decide +kernel
theorem dX11_isWanted_49 : decode cX11_isWanted 49 = .ok (.iadd, 1) := by decide +kernel
theorem dX11_isWanted_50 : decode cX11_isWanted 50 = .ok (.invokevirtual 428, 3) := by decide +kernel
theorem dX11_isWanted_53 : decode cX11_isWanted 53 = .ok (.iconst 2, 1) := by decide +kernel
theorem dX11_isWanted_54 : decode cX11_isWanted 54 = .ok (.idiv, 1) := by decide +kernel
theorem dX11_isWanted_55 : decode cX11_isWanted 55 = .ok (.iload_n 1, 1) := by decide +kernel
theorem dX11_isWanted_56 : decode cX11_isWanted 56 = .ok (.if_icmp .ne 5, 3) := by decide +kernel
theorem dX11_isWanted_59 : decode cX11_isWanted 59 = .ok (.iconst 1, 1) := by decide +kernel
theorem dX11_isWanted_60 : decode cX11_isWanted 60 = .ok (.ireturn, 1) := by decide +kernel
theorem dX11_isWanted_61 : decode cX11_isWanted 61 = .ok (.iinc 3 1, 3) := by decide +kernel
theorem dX11_isWanted_64 : decode cX11_isWanted 64 = .ok (.goto (-38), 3) := by decide +kernel
theorem dX11_isWanted_67 : decode cX11_isWanted 67 = .ok (.iinc 2 1, 3) := by decide +kernel
theorem dX11_isWanted_70 : decode cX11_isWanted 70 = .ok (.goto (-66), 3) := by decide +kernel
theorem dX11_isWanted_73 : decode cX11_isWanted 73 = .ok (.iconst 0, 1) := by decide +kernel
theorem dX11_isWanted_74 : decode cX11_isWanted 74 = .ok (.ireturn, 1) := by decide +kernel
theorem dX11_drop_0 : decode cX11_drop 0 = .ok (.aload_n 0, 1) := by decide +kernel
theorem dX11_drop_1 : decode cX11_drop 1 = .ok (.iconst 0, 1) := by decide +kernel
theorem dX11_drop_2 : decode cX11_drop 2 = .ok (.putfield 5, 3) := by decide +kernel
theorem dX11_drop_5 : decode cX11_drop 5 = .ok (.aload_n 0, 1) := by decide +kernel
theorem dX11_drop_6 : decode cX11_drop 6 = .ok (.iload_n 1, 1) := by decide +kernel
theorem dX11_drop_7 : decode cX11_drop 7 = .ok (.invokevirtual 431, 3) := by decide +kernel
theorem dX11_drop_10 : decode cX11_drop 10 = .ok (.ifCond .eq 24, 3) := by decide +kernel
theorem dX11_drop_13 : decode cX11_drop 13 = .ok (.aload_n 0, 1) := by decide +kernel
theorem dX11_drop_14 : decode cX11_drop 14 = .ok (.iload_n 1, 1) := by decide +kernel
theorem dX11_drop_15 : decode cX11_drop 15 = .ok (.iconst 4, 1) := by decide +kernel
theorem dX11_drop_16 : decode cX11_drop 16 = .ok (.invokevirtual 428, 3) := by decide +kernel
theorem dX11_drop_19 : decode cX11_drop 19 = .ok (.ifCond .ne 15, 3) := by decide +kernel
theorem dX11_drop_22 : decode cX11_drop 22 = .ok (.aload_n 0, 1) := by decide +kernel
theorem dX11_drop_23 : decode cX11_drop 23 = .ok (.iload_n 1, 1) := by decide +kernel
theorem dX11_drop_24 : decode cX11_drop 24 = .ok (.invokevirtual 434, 3) := by decide +kernel
theorem dX11_drop_27 : decode cX11_drop 27 = .ok (.ifCond .ne 7, 3) := by decide +kernel
theorem dX11_drop_30 : decode cX11_drop 30 = .ok (.iconst 1, 1) := by decide +kernel
theorem dX11_drop_31 : decode cX11_drop 31 = .ok (.goto 4, 3) := by decide +kernel
theorem dX11_drop_34 : decode cX11_drop 34 = .ok (.iconst 0, 1) := by decide +kernel
theorem dX11_drop_35 : decode cX11_drop 35 = .ok (.istore_n 2, 1) := by decide +kernel
theorem dX11_drop_36 : decode cX11_drop 36 = .ok (.iload_n 2, 1) := by decide +kernel
theorem dX11_drop_37 : decode cX11_drop 37 = .ok (.ifCond .ne 23, 3) := by decide +kernel
theorem dX11_drop_40 : decode cX11_drop 40 = .ok (.aload_n 0, 1) := by decide +kernel
theorem dX11_drop_41 : decode cX11_drop 41 = .ok (.aload_n 0, 1) := by decide +kernel
theorem dX11_drop_42 : decode cX11_drop 42 = .ok (.iload_n 1, 1) := by decide +kernel
theorem dX11_drop_43 : decode cX11_drop 43 = .ok (.invokevirtual 431, 3) := by decide +kernel
theorem dX11_drop_46 : decode cX11_drop 46 = .ok (.ifCond .eq 7, 3) := by decide +kernel
theorem dX11_drop_49 : decode cX11_drop 49 = .ok (.iconst 3, 1) := by decide +kernel
theorem dX11_drop_50 : decode cX11_drop 50 = .ok (.goto 4, 3) := by decide +kernel
theorem dX11_drop_53 : decode cX11_drop 53 = .ok (.iconst 0, 1) := by decide +kernel
theorem dX11_drop_54 : decode cX11_drop 54 = .ok (.invokevirtual 414, 3) := by decide +kernel
theorem dX11_drop_57 : decode cX11_drop 57 = .ok (.istore_n 3, 1) := by decide +kernel
theorem dX11_drop_58 : decode cX11_drop 58 = .ok (.iconst 0, 1) := by decide +kernel
theorem dX11_drop_59 : decode cX11_drop 59 = .ok (.ireturn, 1) := by decide +kernel
theorem dX11_drop_60 : decode cX11_drop 60 = .ok (.aload_n 0, 1) := by decide +kernel
theorem dX11_drop_61 : decode cX11_drop 61 = .ok (.getfield 226, 3) := by decide +kernel
theorem dX11_drop_64 : decode cX11_drop 64 = .ok (.bipush 14, 2) := by decide +kernel
theorem dX11_drop_66 : decode cX11_drop 66 = .ok (.iload_n 1, 1) := by decide +kernel
theorem dX11_drop_67 : decode cX11_drop 67 = .ok (.imul, 1) := by decide +kernel
theorem dX11_drop_68 : decode cX11_drop 68 = .ok (.iconst 4, 1) := by decide +kernel
theorem dX11_drop_69 : decode cX11_drop 69 = .ok (.iadd, 1) := by decide +kernel
theorem dX11_drop_70 : decode cX11_drop 70 = .ok (.iconst 3, 1) := by decide +kernel
theorem dX11_drop_71 : decode cX11_drop 71 = .ok (.iastore, 1) := by decide +kernel
theorem dX11_drop_72 : decode cX11_drop 72 = .ok (.iconst 1, 1) := by decide +kernel
theorem dX11_drop_73 : decode cX11_drop 73 = .ok (.ireturn, 1) := by decide +kernel
theorem dX11_link_0 : decode cX11_link 0 = .ok (.aload_n 0, 1) := by decide +kernel
theorem dX11_link_1 : decode cX11_link 1 = .ok (.iconst 0, 1) := by decide +kernel
theorem dX11_link_2 : decode cX11_link 2 = .ok (.putfield 5, 3) := by decide +kernel
theorem dX11_link_5 : decode cX11_link 5 = .ok (.aload_n 0, 1) := by decide +kernel
theorem dX11_link_6 : decode cX11_link 6 = .ok (.iload_n 1, 1) := by decide +kernel
theorem dX11_link_7 : decode cX11_link 7 = .ok (.invokevirtual 431, 3) := by decide +kernel
theorem dX11_link_10 : decode cX11_link 10 = .ok (.ifCond .eq 11, 3) := by decide +kernel
theorem dX11_link_13 : decode cX11_link 13 = .ok (.aload_n 0, 1) := by decide +kernel
theorem dX11_link_14 : decode cX11_link 14 = .ok (.iload_n 3, 1) := by decide +kernel
theorem dX11_link_15 : decode cX11_link 15 = .ok (.invokevirtual 431, 3) := by decide +kernel
theorem dX11_link_18 : decode cX11_link 18 = .ok (.ifCond .ne 7, 3) := by decide +kernel
theorem dX11_link_21 : decode cX11_link 21 = .ok (.iconst 0, 1) := by decide +kernel
theorem dX11_link_22 : decode cX11_link 22 = .ok (.goto 49, 3) := by decide +kernel
theorem dX11_link_25 : decode cX11_link 25 = .ok (.iload_n 2, 1) := by decide +kernel
theorem dX11_link_26 : decode cX11_link 26 = .ok (.i2l, 1) := by decide +kernel
theorem dX11_link_27 : decode cX11_link 27 = .ok (.lconst 0, 1) := by decide +kernel
theorem dX11_link_28 : decode cX11_link 28 = .ok (.ldc2_w 178, 3) := by decide +kernel
theorem dX11_link_31 : decode cX11_link 31 = .ok (.invokestatic 65, 3) := by decide +kernel
theorem dX11_link_34 : decode cX11_link 34 = .ok (.ifCond .eq 19, 3) := by decide +kernel
theorem dX11_link_37 : decode cX11_link 37 = .ok (.iload 4, 2) := by decide +kernel
theorem dX11_link_39 : decode cX11_link 39 = .ok (.i2l, 1) := by decide +kernel
theorem dX11_link_40 : decode cX11_link 40 = .ok (.lconst 0, 1) := by decide +kernel
theorem dX11_link_41 : decode cX11_link 41 = .ok (.lconst 1, 1) := by decide +kernel
theorem dX11_link_42 : decode cX11_link 42 = .ok (.invokestatic 65, 3) := by decide +kernel
theorem dX11_link_45 : decode cX11_link 45 = .ok (.ifCond .eq 8, 3) := by decide +kernel
theorem dX11_link_48 : decode cX11_link 48 = .ok (.iload_n 3, 1) := by decide +kernel
theorem dX11_link_49 : decode cX11_link 49 = .ok (.iload_n 1, 1) := by decide +kernel
theorem dX11_link_50 : decode cX11_link 50 = .ok (.if_icmp .lt 7, 3) := by decide +kernel
theorem dX11_link_53 : decode cX11_link 53 = .ok (.iconst 1, 1) := by decide +kernel
theorem dX11_link_54 : decode cX11_link 54 = .ok (.goto 17, 3) := by decide +kernel
theorem dX11_link_57 : decode cX11_link 57 = .ok (.aload_n 0, 1) := by decide +kernel
theorem dX11_link_58 : decode cX11_link 58 = .ok (.iload_n 1, 1) := by decide +kernel
theorem dX11_link_59 : decode cX11_link 59 = .ok (.iconst 4, 1) := by decide +kernel
theorem dX11_link_60 : decode cX11_link 60 = .ok (.invokevirtual 428, 3) := by decide +kernel
theorem dX11_link_63 : decode cX11_link 63 = .ok (.ifCond .eq 7, 3) := by decide +kernel
theorem dX11_link_66 : decode cX11_link 66 = .ok (.iconst 3, 1) := by decide +kernel
theorem dX11_link_67 : decode cX11_link 67 = .ok (.goto 4, 3) := by decide +kernel
theorem dX11_link_70 : decode cX11_link 70 = .ok (.iconst (-1), 1) := by decide +kernel
theorem dX11_link_71 : decode cX11_link 71 = .ok (.istore 5, 2) := by decide +kernel
theorem dX11_link_73 : decode cX11_link 73 = .ok (.iload 5, 2) := by decide +kernel
theorem dX11_link_75 : decode cX11_link 75 = .ok (.iconst (-1), 1) := by decide +kernel
theorem dX11_link_76 : decode cX11_link 76 = .ok (.if_icmp .eq 13, 3) := by decide +kernel
theorem dX11_link_79 : decode cX11_link 79 = .ok (.aload_n 0, 1) := by decide +kernel
theorem dX11_link_80 : decode cX11_link 80 = .ok (.iload 5, 2) := by decide +kernel
theorem dX11_link_82 : decode cX11_link 82 = .ok (.invokevirtual 414, 3) := by decide +kernel
theorem dX11_link_85 : decode cX11_link 85 = .ok (.istore 6, 2) := by decide +kernel
theorem dX11_link_87 : decode cX11_link 87 = .ok (.iconst 0, 1) := by decide +kernel
theorem dX11_link_88 : decode cX11_link 88 = .ok (.ireturn, 1) := by decide +kernel
theorem dX11_link_89 : decode cX11_link 89 = .ok (.aload_n 0, 1) := by decide +kernel
theorem dX11_link_90 : decode cX11_link 90 = .ok (.getfield 226, 3) := by decide +kernel
theorem dX11_link_93 : decode cX11_link 93 = .ok (.bipush 14, 2) := by decide +kernel
theorem dX11_link_95 : decode cX11_link 95 = .ok (.iload_n 1, 1) := by decide +kernel
theorem dX11_link_96 : decode cX11_link 96 = .ok (.imul, 1) := by decide +kernel
theorem dX11_link_97 : decode cX11_link 97 = .ok (.bipush 10, 2) := by decide +kernel
theorem dX11_link_99 : decode cX11_link 99 = .ok (.iadd, 1) := by decide +kernel
theorem dX11_link_100 : decode cX11_link 100 = .ok (.iload_n 2, 1) := by decide +kernel
theorem dX11_link_101 : decode cX11_link 101 = .ok (.iadd, 1) := by decide +kernel
theorem dX11_link_102 : decode cX11_link 102 = .ok (.iconst 2, 1) := by decide +kernel
theorem dX11_link_103 : decode cX11_link 103 = .ok (.iload_n 3, 1) := by decide +kernel
theorem dX11_link_104 : decode cX11_link 104 = .ok (.imul, 1) := by decide +kernel
theorem dX11_link_105 : decode cX11_link 105 = .ok (.iload 4, 2) := by decide +kernel
theorem dX11_link_107 : decode cX11_link 107 = .ok (.iadd, 1) := by decide +kernel
theorem dX11_link_108 : decode cX11_link 108 = .ok (.iastore, 1) := by decide +kernel
theorem dX11_link_109 : decode cX11_link 109 = .ok (.aload_n 0, 1) := by decide +kernel
theorem dX11_link_110 : decode cX11_link 110 = .ok (.getfield 226, 3) := by decide +kernel
theorem dX11_link_113 : decode cX11_link 113 = .ok (.bipush 14, 2) := by decide +kernel
theorem dX11_link_115 : decode cX11_link 115 = .ok (.iload_n 1, 1) := by decide +kernel
theorem dX11_link_116 : decode cX11_link 116 = .ok (.imul, 1) := by decide +kernel
theorem dX11_link_117 : decode cX11_link 117 = .ok (.iconst 1, 1) := by decide +kernel
theorem dX11_link_118 : decode cX11_link 118 = .ok (.iadd, 1) := by decide +kernel
theorem dX11_link_119 : decode cX11_link 119 = .ok (.iload_n 2, 1) := by decide +kernel
theorem dX11_link_120 : decode cX11_link 120 = .ok (.iadd, 1) := by decide +kernel
theorem dX11_link_121 : decode cX11_link 121 = .ok (.iconst 0, 1) := by decide +kernel
theorem dX11_link_122 : decode cX11_link 122 = .ok (.iastore, 1) := by decide +kernel
theorem dX11_link_123 : decode cX11_link 123 = .ok (.iconst 1, 1) := by decide +kernel
theorem dX11_link_124 : decode cX11_link 124 = .ok (.ireturn, 1) := by decide +kernel
theorem dX11_linked_0 : decode cX11_linked 0 = .ok (.aload_n 0, 1) := by decide +kernel
theorem dX11_linked_1 : decode cX11_linked 1 = .ok (.iconst 0, 1) := by decide +kernel
theorem dX11_linked_2 : decode cX11_linked 2 = .ok (.putfield 5, 3) := by decide +kernel
theorem dX11_linked_5 : decode cX11_linked 5 = .ok (.aload_n 0, 1) := by decide +kernel
theorem dX11_linked_6 : decode cX11_linked 6 = .ok (.iload_n 1, 1) := by decide +kernel
theorem dX11_linked_7 : decode cX11_linked 7 = .ok (.invokevirtual 431, 3) := by decide +kernel
theorem dX11_linked_10 : decode cX11_linked 10 = .ok (.ifCond .eq 27, 3) := by decide +kernel
theorem dX11_linked_13 : decode cX11_linked 13 = .ok (.iload_n 2, 1) := by decide +kernel
theorem dX11_linked_14 : decode cX11_linked 14 = .ok (.i2l, 1) := by decide +kernel
theorem dX11_linked_15 : decode cX11_linked 15 = .ok (.lconst 0, 1) := by decide +kernel
theorem dX11_linked_16 : decode cX11_linked 16 = .ok (.ldc2_w 178, 3) := by decide +kernel
theorem dX11_linked_19 : decode cX11_linked 19 = .ok (.invokestatic 65, 3) := by decide +kernel
theorem dX11_linked_22 : decode cX11_linked 22 = .ok (.ifCond .eq 15, 3) := by decide +kernel
theorem dX11_linked_25 : decode cX11_linked 25 = .ok (.aload_n 0, 1) := by decide +kernel
theorem dX11_linked_26 : decode cX11_linked 26 = .ok (.iload_n 1, 1) := by decide +kernel
theorem dX11_linked_27 : decode cX11_linked 27 = .ok (.bipush 10, 2) := by decide +kernel
theorem dX11_linked_29 : decode cX11_linked 29 = .ok (.iload_n 2, 1) := by decide +kernel
theorem dX11_linked_30 : decode cX11_linked 30 = .ok (.iadd, 1) := by decide +kernel
theorem dX11_linked_31 : decode cX11_linked 31 = .ok (.invokevirtual 428, 3) := by decide +kernel
theorem dX11_linked_34 : decode cX11_linked 34 = .ok (.goto 4, 3) := by decide +kernel
theorem dX11_linked_37 : decode cX11_linked 37 = .ok (.iconst (-1), 1) := by decide +kernel
theorem dX11_linked_38 : decode cX11_linked 38 = .ok (.ireturn, 1) := by decide +kernel
theorem dX11_takes_0 : decode cX11_takes 0 = .ok (.bipush 75, 2) := by decide +kernel
theorem dX11_takes_2 : decode cX11_takes 2 = .ok (.iload_n 1, 1) := by decide +kernel
theorem dX11_takes_3 : decode cX11_takes 3 = .ok (.imul, 1) := by decide +kernel
theorem dX11_takes_4 : decode cX11_takes 4 = .ok (.iconst 3, 1) := by decide +kernel
theorem dX11_takes_5 : decode cX11_takes 5 = .ok (.aload_n 0, 1) := by decide +kernel
theorem dX11_takes_6 : decode cX11_takes 6 = .ok (.iload_n 1, 1) := by decide +kernel
theorem dX11_takes_7 : decode cX11_takes 7 = .ok (.iconst 5, 1) := by decide +kernel
theorem dX11_takes_8 : decode cX11_takes 8 = .ok (.invokevirtual 428, 3) := by decide +kernel
theorem dX11_takes_11 : decode cX11_takes 11 = .ok (.imul, 1) := by decide +kernel
theorem dX11_takes_12 : decode cX11_takes 12 = .ok (.iadd, 1) := by decide +kernel
theorem dX11_takes_13 : decode cX11_takes 13 = .ok (.istore_n 2, 1) := by decide +kernel
theorem dX11_takes_14 : decode cX11_takes 14 = .ok (.aload_n 0, 1) := by decide +kernel
theorem dX11_takes_15 : decode cX11_takes 15 = .ok (.aload_n 0, 1) := by decide +kernel
theorem dX11_takes_16 : decode cX11_takes 16 = .ok (.getfield 238, 3) := by decide +kernel
theorem dX11_takes_19 : decode cX11_takes 19 = .ok (.iload_n 2, 1) := by decide +kernel
theorem dX11_takes_20 : decode cX11_takes 20 = .ok (.laload, 1) := by decide +kernel
theorem dX11_takes_21 : decode cX11_takes 21 = .ok (.putfield 344, 3) := by decide +kernel
theorem dX11_takes_24 : decode cX11_takes 24 = .ok (.aload_n 0, 1) := by decide +kernel
theorem dX11_takes_25 : decode cX11_takes 25 = .ok (.aload_n 0, 1) := by decide +kernel
theorem dX11_takes_26 : decode cX11_takes 26 = .ok (.getfield 238, 3) := by decide +kernel
theorem dX11_takes_29 : decode cX11_takes 29 = .ok (.iload_n 2, 1) := by decide +kernel
theorem dX11_takes_30 : decode cX11_takes 30 = .ok (.iconst 1, 1) := by decide +kernel
theorem dX11_takes_31 : decode cX11_takes 31 = .ok (.iadd, 1) := by decide +kernel
theorem dX11_takes_32 : decode cX11_takes 32 = .ok (.laload, 1) := by decide +kernel
theorem dX11_takes_33 : decode cX11_takes 33 = .ok (.putfield 334, 3) := by decide +kernel
theorem dX11_takes_36 : decode cX11_takes 36 = .ok (.aload_n 0, 1) := by decide +kernel
theorem dX11_takes_37 : decode cX11_takes 37 = .ok (.aload_n 0, 1) := by decide +kernel
theorem dX11_takes_38 : decode cX11_takes 38 = .ok (.getfield 238, 3) := by decide +kernel
theorem dX11_takes_41 : decode cX11_takes 41 = .ok (.iload_n 2, 1) := by decide +kernel
theorem dX11_takes_42 : decode cX11_takes 42 = .ok (.iconst 2, 1) := by decide +kernel
theorem dX11_takes_43 : decode cX11_takes 43 = .ok (.iadd, 1) := by decide +kernel
theorem dX11_takes_44 : decode cX11_takes 44 = .ok (.laload, 1) := by decide +kernel
theorem dX11_takes_45 : decode cX11_takes 45 = .ok (.putfield 331, 3) := by decide +kernel
theorem dX11_takes_48 : decode cX11_takes 48 = .ok (.aload_n 0, 1) := by decide +kernel
theorem dX11_takes_49 : decode cX11_takes 49 = .ok (.aload_n 0, 1) := by decide +kernel
theorem dX11_takes_50 : decode cX11_takes 50 = .ok (.iload_n 1, 1) := by decide +kernel
theorem dX11_takes_51 : decode cX11_takes 51 = .ok (.bipush 8, 2) := by decide +kernel
theorem dX11_takes_53 : decode cX11_takes 53 = .ok (.invokevirtual 428, 3) := by decide +kernel
theorem dX11_takes_56 : decode cX11_takes 56 = .ok (.putfield 337, 3) := by decide +kernel
theorem dX11_takes_59 : decode cX11_takes 59 = .ok (.return_, 1) := by decide +kernel
theorem dX11_puts_0 : decode cX11_puts 0 = .ok (.bipush 75, 2) := by decide +kernel
theorem dX11_puts_2 : decode cX11_puts 2 = .ok (.iload_n 1, 1) := by decide +kernel
theorem dX11_puts_3 : decode cX11_puts 3 = .ok (.imul, 1) := by decide +kernel
theorem dX11_puts_4 : decode cX11_puts 4 = .ok (.iconst 3, 1) := by decide +kernel
theorem dX11_puts_5 : decode cX11_puts 5 = .ok (.aload_n 0, 1) := by decide +kernel
theorem dX11_puts_6 : decode cX11_puts 6 = .ok (.iload_n 1, 1) := by decide +kernel
theorem dX11_puts_7 : decode cX11_puts 7 = .ok (.iconst 5, 1) := by decide +kernel
theorem dX11_puts_8 : decode cX11_puts 8 = .ok (.invokevirtual 428, 3) := by decide +kernel
theorem dX11_puts_11 : decode cX11_puts 11 = .ok (.imul, 1) := by decide +kernel
theorem dX11_puts_12 : decode cX11_puts 12 = .ok (.iadd, 1) := by decide +kernel
theorem dX11_puts_13 : decode cX11_puts 13 = .ok (.istore_n 2, 1) := by decide +kernel
theorem dX11_puts_14 : decode cX11_puts 14 = .ok (.aload_n 0, 1) := by decide +kernel
theorem dX11_puts_15 : decode cX11_puts 15 = .ok (.getfield 238, 3) := by decide +kernel
theorem dX11_puts_18 : decode cX11_puts 18 = .ok (.iload_n 2, 1) := by decide +kernel
theorem dX11_puts_19 : decode cX11_puts 19 = .ok (.aload_n 0, 1) := by decide +kernel
theorem dX11_puts_20 : decode cX11_puts 20 = .ok (.getfield 344, 3) := by decide +kernel
theorem dX11_puts_23 : decode cX11_puts 23 = .ok (.lastore, 1) := by decide +kernel
theorem dX11_puts_24 : decode cX11_puts 24 = .ok (.aload_n 0, 1) := by decide +kernel
theorem dX11_puts_25 : decode cX11_puts 25 = .ok (.getfield 238, 3) := by decide +kernel
theorem dX11_puts_28 : decode cX11_puts 28 = .ok (.iload_n 2, 1) := by decide +kernel
theorem dX11_puts_29 : decode cX11_puts 29 = .ok (.iconst 1, 1) := by decide +kernel
theorem dX11_puts_30 : decode cX11_puts 30 = .ok (.iadd, 1) := by decide +kernel
theorem dX11_puts_31 : decode cX11_puts 31 = .ok (.aload_n 0, 1) := by decide +kernel
theorem dX11_puts_32 : decode cX11_puts 32 = .ok (.getfield 334, 3) := by decide +kernel
theorem dX11_puts_35 : decode cX11_puts 35 = .ok (.lastore, 1) := by decide +kernel
theorem dX11_puts_36 : decode cX11_puts 36 = .ok (.aload_n 0, 1) := by decide +kernel
theorem dX11_puts_37 : decode cX11_puts 37 = .ok (.getfield 238, 3) := by decide +kernel
theorem dX11_puts_40 : decode cX11_puts 40 = .ok (.iload_n 2, 1) := by decide +kernel
theorem dX11_puts_41 : decode cX11_puts 41 = .ok (.iconst 2, 1) := by decide +kernel
theorem dX11_puts_42 : decode cX11_puts 42 = .ok (.iadd, 1) := by decide +kernel
theorem dX11_puts_43 : decode cX11_puts 43 = .ok (.aload_n 0, 1) := by decide +kernel
theorem dX11_puts_44 : decode cX11_puts 44 = .ok (.getfield 331, 3) := by decide +kernel
theorem dX11_puts_47 : decode cX11_puts 47 = .ok (.lastore, 1) := by decide +kernel
theorem dX11_puts_48 : decode cX11_puts 48 = .ok (.return_, 1) := by decide +kernel
theorem dX11_goesOn_0 : decode cX11_goesOn 0 = .ok (.aload_n 0, 1) := by decide +kernel
theorem dX11_goesOn_1 : decode cX11_goesOn 1 = .ok (.iload_n 1, 1) := by decide +kernel
theorem dX11_goesOn_2 : decode cX11_goesOn 2 = .ok (.invokevirtual 437, 3) := by decide +kernel
theorem dX11_goesOn_5 : decode cX11_goesOn 5 = .ok (.aload_n 0, 1) := by decide +kernel
theorem dX11_goesOn_6 : decode cX11_goesOn 6 = .ok (.iload_n 1, 1) := by decide +kernel
theorem dX11_goesOn_7 : decode cX11_goesOn 7 = .ok (.iconst 5, 1) := by decide +kernel
theorem dX11_goesOn_8 : decode cX11_goesOn 8 = .ok (.invokevirtual 428, 3) := by decide +kernel
theorem dX11_goesOn_11 : decode cX11_goesOn 11 = .ok (.aload_n 0, 1) := by decide +kernel
theorem dX11_goesOn_12 : decode cX11_goesOn 12 = .ok (.getfield 171, 3) := by decide +kernel
theorem dX11_goesOn_15 : decode cX11_goesOn 15 = .ok (.iconst 0, 1) := by decide +kernel
theorem dX11_goesOn_16 : decode cX11_goesOn 16 = .ok (.iaload, 1) := by decide +kernel
theorem dX11_goesOn_17 : decode cX11_goesOn 17 = .ok (.if_icmp .ne 72, 3) := by decide +kernel
theorem dX11_goesOn_20 : decode cX11_goesOn 20 = .ok (.aload_n 0, 1) := by decide +kernel
theorem dX11_goesOn_21 : decode cX11_goesOn 21 = .ok (.iconst 0, 1) := by decide +kernel
theorem dX11_goesOn_22 : decode cX11_goesOn 22 = .ok (.aload_n 0, 1) := by decide +kernel
theorem dX11_goesOn_23 : decode cX11_goesOn 23 = .ok (.iload_n 1, 1) := by decide +kernel
theorem dX11_goesOn_24 : decode cX11_goesOn 24 = .ok (.iconst 0, 1) := by decide +kernel
theorem dX11_goesOn_25 : decode cX11_goesOn 25 = .ok (.invokevirtual 428, 3) := by decide +kernel
theorem dX11_goesOn_28 : decode cX11_goesOn 28 = .ok (.invokevirtual 386, 3) := by decide +kernel
theorem dX11_goesOn_31 : decode cX11_goesOn 31 = .ok (.aload_n 0, 1) := by decide +kernel
theorem dX11_goesOn_32 : decode cX11_goesOn 32 = .ok (.getfield 232, 3) := by decide +kernel
theorem dX11_goesOn_35 : decode cX11_goesOn 35 = .ok (.iconst 2, 1) := by decide +kernel
theorem dX11_goesOn_36 : decode cX11_goesOn 36 = .ok (.iload_n 1, 1) := by decide +kernel
theorem dX11_goesOn_37 : decode cX11_goesOn 37 = .ok (.imul, 1) := by decide +kernel
theorem dX11_goesOn_38 : decode cX11_goesOn 38 = .ok (.aload_n 0, 1) := by decide +kernel
theorem dX11_goesOn_39 : decode cX11_goesOn 39 = .ok (.getfield 324, 3) := by decide +kernel
theorem dX11_goesOn_42 : decode cX11_goesOn 42 = .ok (.l2i, 1) := by decide +kernel
theorem dX11_goesOn_43 : decode cX11_goesOn 43 = .ok (.iastore, 1) := by decide +kernel
theorem dX11_goesOn_44 : decode cX11_goesOn 44 = .ok (.aload_n 0, 1) := by decide +kernel
theorem dX11_goesOn_45 : decode cX11_goesOn 45 = .ok (.getfield 232, 3) := by decide +kernel
theorem dX11_goesOn_48 : decode cX11_goesOn 48 = .ok (.iconst 2, 1) := by decide +kernel
theorem dX11_goesOn_49 : decode cX11_goesOn 49 = .ok (.iload_n 1, 1) := by decide +kernel
theorem dX11_goesOn_50 : decode cX11_goesOn 50 = .ok (.imul, 1) := by decide +kernel
theorem dX11_goesOn_51 : decode cX11_goesOn 51 = .ok (.iconst 1, 1) := by decide +kernel
theorem dX11_goesOn_52 : decode cX11_goesOn 52 = .ok (.iadd, 1) := by decide +kernel
theorem dX11_goesOn_53 : decode cX11_goesOn 53 = .ok (.aload_n 0, 1) := by decide +kernel
theorem dX11_goesOn_54 : decode cX11_goesOn 54 = .ok (.getfield 328, 3) := by decide +kernel
theorem dX11_goesOn_57 : decode cX11_goesOn 57 = .ok (.l2i, 1) := by decide +kernel
theorem dX11_goesOn_58 : decode cX11_goesOn 58 = .ok (.iastore, 1) := by decide +kernel
theorem dX11_goesOn_59 : decode cX11_goesOn 59 = .ok (.aload_n 0, 1) := by decide +kernel
theorem dX11_goesOn_60 : decode cX11_goesOn 60 = .ok (.getfield 226, 3) := by decide +kernel
theorem dX11_goesOn_63 : decode cX11_goesOn 63 = .ok (.bipush 14, 2) := by decide +kernel
theorem dX11_goesOn_65 : decode cX11_goesOn 65 = .ok (.iload_n 1, 1) := by decide +kernel
theorem dX11_goesOn_66 : decode cX11_goesOn 66 = .ok (.imul, 1) := by decide +kernel
theorem dX11_goesOn_67 : decode cX11_goesOn 67 = .ok (.iconst 4, 1) := by decide +kernel
theorem dX11_goesOn_68 : decode cX11_goesOn 68 = .ok (.iadd, 1) := by decide +kernel
theorem dX11_goesOn_69 : decode cX11_goesOn 69 = .ok (.iconst 2, 1) := by decide +kernel
theorem dX11_goesOn_70 : decode cX11_goesOn 70 = .ok (.iastore, 1) := by decide +kernel
theorem dX11_goesOn_71 : decode cX11_goesOn 71 = .ok (.aload_n 0, 1) := by decide +kernel
theorem dX11_goesOn_72 : decode cX11_goesOn 72 = .ok (.getfield 226, 3) := by decide +kernel
theorem dX11_goesOn_75 : decode cX11_goesOn 75 = .ok (.bipush 14, 2) := by decide +kernel
theorem dX11_goesOn_77 : decode cX11_goesOn 77 = .ok (.iload_n 1, 1) := by decide +kernel
theorem dX11_goesOn_78 : decode cX11_goesOn 78 = .ok (.imul, 1) := by decide +kernel
theorem dX11_goesOn_79 : decode cX11_goesOn 79 = .ok (.bipush 7, 2) := by decide +kernel
theorem dX11_goesOn_81 : decode cX11_goesOn 81 = .ok (.iadd, 1) := by decide +kernel
theorem dX11_goesOn_82 : decode cX11_goesOn 82 = .ok (.aload_n 0, 1) := by decide +kernel
theorem dX11_goesOn_83 : decode cX11_goesOn 83 = .ok (.getfield 267, 3) := by decide +kernel
theorem dX11_goesOn_86 : decode cX11_goesOn 86 = .ok (.iastore, 1) := by decide +kernel
theorem dX11_goesOn_87 : decode cX11_goesOn 87 = .ok (.iconst 1, 1) := by decide +kernel
theorem dX11_goesOn_88 : decode cX11_goesOn 88 = .ok (.ireturn, 1) := by decide +kernel
theorem dX11_goesOn_89 : decode cX11_goesOn 89 = .ok (.aload_n 0, 1) := by decide +kernel
theorem dX11_goesOn_90 : decode cX11_goesOn 90 = .ok (.iconst 0, 1) := by decide +kernel
theorem dX11_goesOn_91 : decode cX11_goesOn 91 = .ok (.aload_n 0, 1) := by decide +kernel
theorem dX11_goesOn_92 : decode cX11_goesOn 92 = .ok (.iload_n 1, 1) := by decide +kernel
theorem dX11_goesOn_93 : decode cX11_goesOn 93 = .ok (.iconst 0, 1) := by decide +kernel
theorem dX11_goesOn_94 : decode cX11_goesOn 94 = .ok (.invokevirtual 428, 3) := by decide +kernel
theorem dX11_goesOn_97 : decode cX11_goesOn 97 = .ok (.aload_n 0, 1) := by decide +kernel
theorem dX11_goesOn_98 : decode cX11_goesOn 98 = .ok (.iload_n 1, 1) := by decide +kernel
theorem dX11_goesOn_99 : decode cX11_goesOn 99 = .ok (.iconst 5, 1) := by decide +kernel
theorem dX11_goesOn_100 : decode cX11_goesOn 100 = .ok (.invokevirtual 428, 3) := by decide +kernel
theorem dX11_goesOn_103 : decode cX11_goesOn 103 = .ok (.invokevirtual 382, 3) := by decide +kernel
theorem dX11_goesOn_106 : decode cX11_goesOn 106 = .ok (.ifCond .eq 26, 3) := by decide +kernel
theorem dX11_goesOn_109 : decode cX11_goesOn 109 = .ok (.aload_n 0, 1) := by decide +kernel
theorem dX11_goesOn_110 : decode cX11_goesOn 110 = .ok (.getfield 226, 3) := by decide +kernel
theorem dX11_goesOn_113 : decode cX11_goesOn 113 = .ok (.bipush 14, 2) := by decide +kernel
theorem dX11_goesOn_115 : decode cX11_goesOn 115 = .ok (.iload_n 1, 1) := by decide +kernel
theorem dX11_goesOn_116 : decode cX11_goesOn 116 = .ok (.imul, 1) := by decide +kernel
theorem dX11_goesOn_117 : decode cX11_goesOn 117 = .ok (.bipush 9, 2) := by decide +kernel
theorem dX11_goesOn_119 : decode cX11_goesOn 119 = .ok (.iadd, 1) := by decide +kernel
theorem dX11_goesOn_120 : decode cX11_goesOn 120 = .ok (.dup2, 1) := by decide +kernel
theorem dX11_goesOn_121 : decode cX11_goesOn 121 = .ok (.iaload, 1) := by decide +kernel
theorem dX11_goesOn_122 : decode cX11_goesOn 122 = .ok (.iconst 1, 1) := by decide +kernel
theorem dX11_goesOn_123 : decode cX11_goesOn 123 = .ok (.aload_n 0, 1) := by decide +kernel
theorem dX11_goesOn_124 : decode cX11_goesOn 124 = .ok (.iload_n 1, 1) := by decide +kernel
theorem dX11_goesOn_125 : decode cX11_goesOn 125 = .ok (.iconst 5, 1) := by decide +kernel
theorem dX11_goesOn_126 : decode cX11_goesOn 126 = .ok (.invokevirtual 428, 3) := by decide +kernel
theorem dX11_goesOn_129 : decode cX11_goesOn 129 = .ok (.ishl, 1) := by decide +kernel
theorem dX11_goesOn_130 : decode cX11_goesOn 130 = .ok (.ior, 1) := by decide +kernel
theorem dX11_goesOn_131 : decode cX11_goesOn 131 = .ok (.iastore, 1) := by decide +kernel
theorem dX11_goesOn_132 : decode cX11_goesOn 132 = .ok (.aload_n 0, 1) := by decide +kernel
theorem dX11_goesOn_133 : decode cX11_goesOn 133 = .ok (.getfield 226, 3) := by decide +kernel
theorem dX11_goesOn_136 : decode cX11_goesOn 136 = .ok (.bipush 14, 2) := by decide +kernel
theorem dX11_goesOn_138 : decode cX11_goesOn 138 = .ok (.iload_n 1, 1) := by decide +kernel
theorem dX11_goesOn_139 : decode cX11_goesOn 139 = .ok (.imul, 1) := by decide +kernel
theorem dX11_goesOn_140 : decode cX11_goesOn 140 = .ok (.iconst 5, 1) := by decide +kernel
theorem dX11_goesOn_141 : decode cX11_goesOn 141 = .ok (.iadd, 1) := by decide +kernel
theorem dX11_goesOn_142 : decode cX11_goesOn 142 = .ok (.dup2, 1) := by decide +kernel
theorem dX11_goesOn_143 : decode cX11_goesOn 143 = .ok (.iaload, 1) := by decide +kernel
theorem dX11_goesOn_144 : decode cX11_goesOn 144 = .ok (.iconst 1, 1) := by decide +kernel
theorem dX11_goesOn_145 : decode cX11_goesOn 145 = .ok (.iadd, 1) := by decide +kernel
theorem dX11_goesOn_146 : decode cX11_goesOn 146 = .ok (.iastore, 1) := by decide +kernel
theorem dX11_goesOn_147 : decode cX11_goesOn 147 = .ok (.aload_n 0, 1) := by decide +kernel
theorem dX11_goesOn_148 : decode cX11_goesOn 148 = .ok (.iload_n 1, 1) := by decide +kernel
theorem dX11_goesOn_149 : decode cX11_goesOn 149 = .ok (.invokevirtual 440, 3) := by decide +kernel
theorem dX11_goesOn_152 : decode cX11_goesOn 152 = .ok (.iconst 0, 1) := by decide +kernel
theorem dX11_goesOn_153 : decode cX11_goesOn 153 = .ok (.ireturn, 1) := by decide +kernel
theorem dX11_firstWaiting_0 : decode cX11_firstWaiting 0 = .ok (.iconst 0, 1) := by decide +kernel
theorem dX11_firstWaiting_1 : decode cX11_firstWaiting 1 = .ok (.istore_n 1, 1) := by decide +kernel
theorem dX11_firstWaiting_2 : decode cX11_firstWaiting 2 = .ok (.iload_n 1, 1) := by decide +kernel
theorem dX11_firstWaiting_3 : decode cX11_firstWaiting 3 = .ok (.aload_n 0, 1) := by decide +kernel
theorem dX11_firstWaiting_4 : decode cX11_firstWaiting 4 = .ok (.getfield 273, 3) := by decide +kernel
theorem dX11_firstWaiting_7 : decode cX11_firstWaiting 7 = .ok (.if_icmp .ge 18, 3) := by decide +kernel
theorem dX11_firstWaiting_10 : decode cX11_firstWaiting 10 = .ok (.aload_n 0, 1) := by decide +kernel
theorem dX11_firstWaiting_11 : decode cX11_firstWaiting 11 = .ok (.iload_n 1, 1) := by decide +kernel
theorem dX11_firstWaiting_12 : decode cX11_firstWaiting 12 = .ok (.iconst 4, 1) := by decide +kernel
theorem dX11_firstWaiting_13 : decode cX11_firstWaiting 13 = .ok (.invokevirtual 428, 3) := by decide +kernel
theorem dX11_firstWaiting_16 : decode cX11_firstWaiting 16 = .ok (.ifCond .eq 9, 3) := by decide +kernel
theorem dX11_firstWaiting_19 : decode cX11_firstWaiting 19 = .ok (.iinc 1 1, 3) := by decide +kernel
theorem dX11_firstWaiting_22 : decode cX11_firstWaiting 22 = .ok (.goto (-20), 3) := by decide +kernel
theorem dX11_firstWaiting_25 : decode cX11_firstWaiting 25 = .ok (.iload_n 1, 1) := by decide +kernel
theorem dX11_firstWaiting_26 : decode cX11_firstWaiting 26 = .ok (.aload_n 0, 1) := by decide +kernel
theorem dX11_firstWaiting_27 : decode cX11_firstWaiting 27 = .ok (.getfield 273, 3) := by decide +kernel
theorem dX11_firstWaiting_30 : decode cX11_firstWaiting 30 = .ok (.if_icmp .ge 7, 3) := by decide +kernel
theorem dX11_firstWaiting_33 : decode cX11_firstWaiting 33 = .ok (.iload_n 1, 1) := by decide +kernel
theorem dX11_firstWaiting_34 : decode cX11_firstWaiting 34 = .ok (.goto 4, 3) := by decide +kernel
theorem dX11_firstWaiting_37 : decode cX11_firstWaiting 37 = .ok (.iconst (-1), 1) := by decide +kernel
theorem dX11_firstWaiting_38 : decode cX11_firstWaiting 38 = .ok (.ireturn, 1) := by decide +kernel
theorem dX11_standsIn_0 : decode cX11_standsIn 0 = .ok (.iconst 0, 1) := by decide +kernel
theorem dX11_standsIn_1 : decode cX11_standsIn 1 = .ok (.istore_n 2, 1) := by decide +kernel
theorem dX11_standsIn_2 : decode cX11_standsIn 2 = .ok (.iload_n 2, 1) := by decide +kernel
theorem dX11_standsIn_3 : decode cX11_standsIn 3 = .ok (.aload_n 0, 1) := by decide +kernel
theorem dX11_standsIn_4 : decode cX11_standsIn 4 = .ok (.getfield 273, 3) := by decide +kernel
theorem dX11_standsIn_7 : decode cX11_standsIn 7 = .ok (.if_icmp .ge 51, 3) := by decide +kernel
theorem dX11_standsIn_10 : decode cX11_standsIn 10 = .ok (.aload_n 0, 1) := by decide +kernel
theorem dX11_standsIn_11 : decode cX11_standsIn 11 = .ok (.iload_n 2, 1) := by decide +kernel
theorem dX11_standsIn_12 : decode cX11_standsIn 12 = .ok (.iconst 4, 1) := by decide +kernel
theorem dX11_standsIn_13 : decode cX11_standsIn 13 = .ok (.invokevirtual 428, 3) := by decide +kernel
theorem dX11_standsIn_16 : decode cX11_standsIn 16 = .ok (.iconst 1, 1) := by decide +kernel
theorem dX11_standsIn_17 : decode cX11_standsIn 17 = .ok (.if_icmp .ne 35, 3) := by decide +kernel
theorem dX11_standsIn_20 : decode cX11_standsIn 20 = .ok (.aload_n 0, 1) := by decide +kernel
theorem dX11_standsIn_21 : decode cX11_standsIn 21 = .ok (.iload_n 2, 1) := by decide +kernel
theorem dX11_standsIn_22 : decode cX11_standsIn 22 = .ok (.iconst 5, 1) := by decide +kernel
theorem dX11_standsIn_23 : decode cX11_standsIn 23 = .ok (.invokevirtual 428, 3) := by decide +kernel
theorem dX11_standsIn_26 : decode cX11_standsIn 26 = .ok (.aload_n 0, 1) := by decide +kernel
theorem dX11_standsIn_27 : decode cX11_standsIn 27 = .ok (.getfield 171, 3) := by decide +kernel
theorem dX11_standsIn_30 : decode cX11_standsIn 30 = .ok (.iconst 0, 1) := by decide +kernel
theorem dX11_standsIn_31 : decode cX11_standsIn 31 = .ok (.iaload, 1) := by decide +kernel
theorem dX11_standsIn_32 : decode cX11_standsIn 32 = .ok (.if_icmp .ge 20, 3) := by decide +kernel
theorem dX11_standsIn_35 : decode cX11_standsIn 35 = .ok (.aload_n 0, 1) := by decide +kernel
theorem dX11_standsIn_36 : decode cX11_standsIn 36 = .ok (.iload_n 2, 1) := by decide +kernel
theorem dX11_standsIn_37 : decode cX11_standsIn 37 = .ok (.iconst 5, 1) := by decide +kernel
theorem dX11_standsIn_38 : decode cX11_standsIn 38 = .ok (.invokevirtual 428, 3) := by decide +kernel
theorem dX11_standsIn_41 : decode cX11_standsIn 41 = .ok (.aload_n 0, 1) := by decide +kernel
theorem dX11_standsIn_42 : decode cX11_standsIn 42 = .ok (.getfield 264, 3) := by decide +kernel
theorem dX11_standsIn_45 : decode cX11_standsIn 45 = .ok (.irem, 1) := by decide +kernel
theorem dX11_standsIn_46 : decode cX11_standsIn 46 = .ok (.iload_n 1, 1) := by decide +kernel
theorem dX11_standsIn_47 : decode cX11_standsIn 47 = .ok (.if_icmp .ne 5, 3) := by decide +kernel
theorem dX11_standsIn_50 : decode cX11_standsIn 50 = .ok (.iload_n 2, 1) := by decide +kernel
theorem dX11_standsIn_51 : decode cX11_standsIn 51 = .ok (.ireturn, 1) := by decide +kernel
theorem dX11_standsIn_52 : decode cX11_standsIn 52 = .ok (.iinc 2 1, 3) := by decide +kernel
theorem dX11_standsIn_55 : decode cX11_standsIn 55 = .ok (.goto (-53), 3) := by decide +kernel
theorem dX11_standsIn_58 : decode cX11_standsIn 58 = .ok (.iconst (-1), 1) := by decide +kernel
theorem dX11_standsIn_59 : decode cX11_standsIn 59 = .ok (.ireturn, 1) := by decide +kernel
theorem dX11_hangs_0 : decode cX11_hangs 0 = .ok (.iconst 0, 1) := by decide +kernel
theorem dX11_hangs_1 : decode cX11_hangs 1 = .ok (.istore_n 2, 1) := by decide +kernel
theorem dX11_hangs_2 : decode cX11_hangs 2 = .ok (.iload_n 2, 1) := by decide +kernel
theorem dX11_hangs_3 : decode cX11_hangs 3 = .ok (.iconst 3, 1) := by decide +kernel
theorem dX11_hangs_4 : decode cX11_hangs 4 = .ok (.if_icmp .ge 44, 3) := by decide +kernel
theorem dX11_hangs_7 : decode cX11_hangs 7 = .ok (.aload_n 0, 1) := by decide +kernel
theorem dX11_hangs_8 : decode cX11_hangs 8 = .ok (.iload_n 1, 1) := by decide +kernel
theorem dX11_hangs_9 : decode cX11_hangs 9 = .ok (.bipush 10, 2) := by decide +kernel
theorem dX11_hangs_11 : decode cX11_hangs 11 = .ok (.iload_n 2, 1) := by decide +kernel
theorem dX11_hangs_12 : decode cX11_hangs 12 = .ok (.iadd, 1) := by decide +kernel
theorem dX11_hangs_13 : decode cX11_hangs 13 = .ok (.invokevirtual 428, 3) := by decide +kernel
theorem dX11_hangs_16 : decode cX11_hangs 16 = .ok (.iconst (-1), 1) := by decide +kernel
theorem dX11_hangs_17 : decode cX11_hangs 17 = .ok (.if_icmp .eq 25, 3) := by decide +kernel
theorem dX11_hangs_20 : decode cX11_hangs 20 = .ok (.aload_n 0, 1) := by decide +kernel
theorem dX11_hangs_21 : decode cX11_hangs 21 = .ok (.aload_n 0, 1) := by decide +kernel
theorem dX11_hangs_22 : decode cX11_hangs 22 = .ok (.iload_n 1, 1) := by decide +kernel
theorem dX11_hangs_23 : decode cX11_hangs 23 = .ok (.bipush 10, 2) := by decide +kernel
theorem dX11_hangs_25 : decode cX11_hangs 25 = .ok (.iload_n 2, 1) := by decide +kernel
theorem dX11_hangs_26 : decode cX11_hangs 26 = .ok (.iadd, 1) := by decide +kernel
theorem dX11_hangs_27 : decode cX11_hangs 27 = .ok (.invokevirtual 428, 3) := by decide +kernel
theorem dX11_hangs_30 : decode cX11_hangs 30 = .ok (.iconst 2, 1) := by decide +kernel
theorem dX11_hangs_31 : decode cX11_hangs 31 = .ok (.idiv, 1) := by decide +kernel
theorem dX11_hangs_32 : decode cX11_hangs 32 = .ok (.iconst 4, 1) := by decide +kernel
theorem dX11_hangs_33 : decode cX11_hangs 33 = .ok (.invokevirtual 428, 3) := by decide +kernel
theorem dX11_hangs_36 : decode cX11_hangs 36 = .ok (.iconst 2, 1) := by decide +kernel
theorem dX11_hangs_37 : decode cX11_hangs 37 = .ok (.if_icmp .ge 5, 3) := by decide +kernel
theorem dX11_hangs_40 : decode cX11_hangs 40 = .ok (.iconst 1, 1) := by decide +kernel
theorem dX11_hangs_41 : decode cX11_hangs 41 = .ok (.ireturn, 1) := by decide +kernel
theorem dX11_hangs_42 : decode cX11_hangs 42 = .ok (.iinc 2 1, 3) := by decide +kernel
theorem dX11_hangs_45 : decode cX11_hangs 45 = .ok (.goto (-43), 3) := by decide +kernel
theorem dX11_hangs_48 : decode cX11_hangs 48 = .ok (.iconst 0, 1) := by decide +kernel
theorem dX11_hangs_49 : decode cX11_hangs 49 = .ok (.ireturn, 1) := by decide +kernel
theorem dX11_comesIn_0 : decode cX11_comesIn 0 = .ok (.iconst 1, 1) := by decide +kernel
theorem dX11_comesIn_1 : decode cX11_comesIn 1 = .ok (.istore_n 2, 1) := by decide +kernel
theorem dX11_comesIn_2 : decode cX11_comesIn 2 = .ok (.iconst 0, 1) := by decide +kernel
theorem dX11_comesIn_3 : decode cX11_comesIn 3 = .ok (.istore_n 3, 1) := by decide +kernel
theorem dX11_comesIn_4 : decode cX11_comesIn 4 = .ok (.iload_n 3, 1) := by decide +kernel
theorem dX11_comesIn_5 : decode cX11_comesIn 5 = .ok (.iconst 3, 1) := by decide +kernel
theorem dX11_comesIn_6 : decode cX11_comesIn 6 = .ok (.if_icmp .ge 85, 3) := by decide +kernel
theorem dX11_comesIn_9 : decode cX11_comesIn 9 = .ok (.aload_n 0, 1) := by decide +kernel
theorem dX11_comesIn_10 : decode cX11_comesIn 10 = .ok (.iload_n 1, 1) := by decide +kernel
theorem dX11_comesIn_11 : decode cX11_comesIn 11 = .ok (.bipush 10, 2) := by decide +kernel
theorem dX11_comesIn_13 : decode cX11_comesIn 13 = .ok (.iload_n 3, 1) := by decide +kernel
theorem dX11_comesIn_14 : decode cX11_comesIn 14 = .ok (.iadd, 1) := by decide +kernel
theorem dX11_comesIn_15 : decode cX11_comesIn 15 = .ok (.invokevirtual 428, 3) := by decide +kernel
theorem dX11_comesIn_18 : decode cX11_comesIn 18 = .ok (.istore 4, 2) := by decide +kernel
theorem dX11_comesIn_20 : decode cX11_comesIn 20 = .ok (.iload 4, 2) := by decide +kernel
theorem dX11_comesIn_22 : decode cX11_comesIn 22 = .ok (.iconst (-1), 1) := by decide +kernel
theorem dX11_comesIn_23 : decode cX11_comesIn 23 = .ok (.if_icmp .ne 6, 3) := by decide +kernel
theorem dX11_comesIn_26 : decode cX11_comesIn 26 = .ok (.goto 59, 3) := by decide +kernel
theorem dX11_comesIn_29 : decode cX11_comesIn 29 = .ok (.iload_n 2, 1) := by decide +kernel
theorem dX11_comesIn_30 : decode cX11_comesIn 30 = .ok (.ifCond .eq 20, 3) := by decide +kernel
theorem dX11_comesIn_33 : decode cX11_comesIn 33 = .ok (.aload_n 0, 1) := by decide +kernel
theorem dX11_comesIn_34 : decode cX11_comesIn 34 = .ok (.iload 4, 2) := by decide +kernel
theorem dX11_comesIn_36 : decode cX11_comesIn 36 = .ok (.iconst 2, 1) := by decide +kernel
theorem dX11_comesIn_37 : decode cX11_comesIn 37 = .ok (.idiv, 1) := by decide +kernel
theorem dX11_comesIn_38 : decode cX11_comesIn 38 = .ok (.iconst 4, 1) := by decide +kernel
theorem dX11_comesIn_39 : decode cX11_comesIn 39 = .ok (.invokevirtual 428, 3) := by decide +kernel
theorem dX11_comesIn_42 : decode cX11_comesIn 42 = .ok (.iconst 2, 1) := by decide +kernel
theorem dX11_comesIn_43 : decode cX11_comesIn 43 = .ok (.if_icmp .ne 7, 3) := by decide +kernel
theorem dX11_comesIn_46 : decode cX11_comesIn 46 = .ok (.iconst 1, 1) := by decide +kernel
theorem dX11_comesIn_47 : decode cX11_comesIn 47 = .ok (.goto 4, 3) := by decide +kernel
theorem dX11_comesIn_50 : decode cX11_comesIn 50 = .ok (.iconst 0, 1) := by decide +kernel
theorem dX11_comesIn_51 : decode cX11_comesIn 51 = .ok (.istore_n 2, 1) := by decide +kernel
theorem dX11_comesIn_52 : decode cX11_comesIn 52 = .ok (.aload_n 0, 1) := by decide +kernel
theorem dX11_comesIn_53 : decode cX11_comesIn 53 = .ok (.iload 4, 2) := by decide +kernel
theorem dX11_comesIn_55 : decode cX11_comesIn 55 = .ok (.iconst 2, 1) := by decide +kernel
theorem dX11_comesIn_56 : decode cX11_comesIn 56 = .ok (.idiv, 1) := by decide +kernel
theorem dX11_comesIn_57 : decode cX11_comesIn 57 = .ok (.iconst 4, 1) := by decide +kernel
theorem dX11_comesIn_58 : decode cX11_comesIn 58 = .ok (.invokevirtual 428, 3) := by decide +kernel
theorem dX11_comesIn_61 : decode cX11_comesIn 61 = .ok (.iconst 2, 1) := by decide +kernel
theorem dX11_comesIn_62 : decode cX11_comesIn 62 = .ok (.if_icmp .ne 23, 3) := by decide +kernel
theorem dX11_comesIn_65 : decode cX11_comesIn 65 = .ok (.aload_n 0, 1) := by decide +kernel
theorem dX11_comesIn_66 : decode cX11_comesIn 66 = .ok (.getfield 226, 3) := by decide +kernel
theorem dX11_comesIn_69 : decode cX11_comesIn 69 = .ok (.bipush 14, 2) := by decide +kernel
theorem dX11_comesIn_71 : decode cX11_comesIn 71 = .ok (.iload_n 1, 1) := by decide +kernel
theorem dX11_comesIn_72 : decode cX11_comesIn 72 = .ok (.imul, 1) := by decide +kernel
theorem dX11_comesIn_73 : decode cX11_comesIn 73 = .ok (.iconst 1, 1) := by decide +kernel
theorem dX11_comesIn_74 : decode cX11_comesIn 74 = .ok (.iadd, 1) := by decide +kernel
theorem dX11_comesIn_75 : decode cX11_comesIn 75 = .ok (.iload_n 3, 1) := by decide +kernel
theorem dX11_comesIn_76 : decode cX11_comesIn 76 = .ok (.iadd, 1) := by decide +kernel
theorem dX11_comesIn_77 : decode cX11_comesIn 77 = .ok (.aload_n 0, 1) := by decide +kernel
theorem dX11_comesIn_78 : decode cX11_comesIn 78 = .ok (.getfield 232, 3) := by decide +kernel
theorem dX11_comesIn_81 : decode cX11_comesIn 81 = .ok (.iload 4, 2) := by decide +kernel
theorem dX11_comesIn_83 : decode cX11_comesIn 83 = .ok (.iaload, 1) := by decide +kernel
theorem dX11_comesIn_84 : decode cX11_comesIn 84 = .ok (.iastore, 1) := by decide +kernel
theorem dX11_comesIn_85 : decode cX11_comesIn 85 = .ok (.iinc 3 1, 3) := by decide +kernel
theorem dX11_comesIn_88 : decode cX11_comesIn 88 = .ok (.goto (-84), 3) := by decide +kernel
theorem dX11_comesIn_91 : decode cX11_comesIn 91 = .ok (.aload_n 0, 1) := by decide +kernel
theorem dX11_comesIn_92 : decode cX11_comesIn 92 = .ok (.getfield 226, 3) := by decide +kernel
theorem dX11_comesIn_95 : decode cX11_comesIn 95 = .ok (.bipush 14, 2) := by decide +kernel
theorem dX11_comesIn_97 : decode cX11_comesIn 97 = .ok (.iload_n 1, 1) := by decide +kernel
theorem dX11_comesIn_98 : decode cX11_comesIn 98 = .ok (.imul, 1) := by decide +kernel
theorem dX11_comesIn_99 : decode cX11_comesIn 99 = .ok (.bipush 6, 2) := by decide +kernel
theorem dX11_comesIn_101 : decode cX11_comesIn 101 = .ok (.iadd, 1) := by decide +kernel
theorem dX11_comesIn_102 : decode cX11_comesIn 102 = .ok (.aload_n 0, 1) := by decide +kernel
theorem dX11_comesIn_103 : decode cX11_comesIn 103 = .ok (.getfield 267, 3) := by decide +kernel
theorem dX11_comesIn_106 : decode cX11_comesIn 106 = .ok (.iastore, 1) := by decide +kernel
theorem dX11_comesIn_107 : decode cX11_comesIn 107 = .ok (.iload_n 2, 1) := by decide +kernel
theorem dX11_comesIn_108 : decode cX11_comesIn 108 = .ok (.ifCond .eq 42, 3) := by decide +kernel
theorem dX11_comesIn_111 : decode cX11_comesIn 111 = .ok (.aload_n 0, 1) := by decide +kernel
theorem dX11_comesIn_112 : decode cX11_comesIn 112 = .ok (.iconst 0, 1) := by decide +kernel
theorem dX11_comesIn_113 : decode cX11_comesIn 113 = .ok (.aload_n 0, 1) := by decide +kernel
theorem dX11_comesIn_114 : decode cX11_comesIn 114 = .ok (.iload_n 1, 1) := by decide +kernel
theorem dX11_comesIn_115 : decode cX11_comesIn 115 = .ok (.iconst 0, 1) := by decide +kernel
theorem dX11_comesIn_116 : decode cX11_comesIn 116 = .ok (.invokevirtual 428, 3) := by decide +kernel
theorem dX11_comesIn_119 : decode cX11_comesIn 119 = .ok (.aload_n 0, 1) := by decide +kernel
theorem dX11_comesIn_120 : decode cX11_comesIn 120 = .ok (.iload_n 1, 1) := by decide +kernel
theorem dX11_comesIn_121 : decode cX11_comesIn 121 = .ok (.iconst 1, 1) := by decide +kernel
theorem dX11_comesIn_122 : decode cX11_comesIn 122 = .ok (.invokevirtual 428, 3) := by decide +kernel
theorem dX11_comesIn_125 : decode cX11_comesIn 125 = .ok (.i2l, 1) := by decide +kernel
theorem dX11_comesIn_126 : decode cX11_comesIn 126 = .ok (.aload_n 0, 1) := by decide +kernel
theorem dX11_comesIn_127 : decode cX11_comesIn 127 = .ok (.iload_n 1, 1) := by decide +kernel
theorem dX11_comesIn_128 : decode cX11_comesIn 128 = .ok (.iconst 2, 1) := by decide +kernel
theorem dX11_comesIn_129 : decode cX11_comesIn 129 = .ok (.invokevirtual 428, 3) := by decide +kernel
theorem dX11_comesIn_132 : decode cX11_comesIn 132 = .ok (.i2l, 1) := by decide +kernel
theorem dX11_comesIn_133 : decode cX11_comesIn 133 = .ok (.aload_n 0, 1) := by decide +kernel
theorem dX11_comesIn_134 : decode cX11_comesIn 134 = .ok (.iload_n 1, 1) := by decide +kernel
theorem dX11_comesIn_135 : decode cX11_comesIn 135 = .ok (.iconst 3, 1) := by decide +kernel
theorem dX11_comesIn_136 : decode cX11_comesIn 136 = .ok (.invokevirtual 428, 3) := by decide +kernel
theorem dX11_comesIn_139 : decode cX11_comesIn 139 = .ok (.i2l, 1) := by decide +kernel
theorem dX11_comesIn_140 : decode cX11_comesIn 140 = .ok (.invokevirtual 374, 3) := by decide +kernel
theorem dX11_comesIn_143 : decode cX11_comesIn 143 = .ok (.ifCond .eq 7, 3) := by decide +kernel
theorem dX11_comesIn_146 : decode cX11_comesIn 146 = .ok (.iconst 1, 1) := by decide +kernel
theorem dX11_comesIn_147 : decode cX11_comesIn 147 = .ok (.goto 4, 3) := by decide +kernel
theorem dX11_comesIn_150 : decode cX11_comesIn 150 = .ok (.iconst 0, 1) := by decide +kernel
theorem dX11_comesIn_151 : decode cX11_comesIn 151 = .ok (.istore_n 2, 1) := by decide +kernel
theorem dX11_comesIn_152 : decode cX11_comesIn 152 = .ok (.aload_n 0, 1) := by decide +kernel
theorem dX11_comesIn_153 : decode cX11_comesIn 153 = .ok (.getfield 226, 3) := by decide +kernel
theorem dX11_comesIn_156 : decode cX11_comesIn 156 = .ok (.bipush 14, 2) := by decide +kernel
theorem dX11_comesIn_158 : decode cX11_comesIn 158 = .ok (.iload_n 1, 1) := by decide +kernel
theorem dX11_comesIn_159 : decode cX11_comesIn 159 = .ok (.imul, 1) := by decide +kernel
theorem dX11_comesIn_160 : decode cX11_comesIn 160 = .ok (.iconst 4, 1) := by decide +kernel
theorem dX11_comesIn_161 : decode cX11_comesIn 161 = .ok (.iadd, 1) := by decide +kernel
theorem dX11_comesIn_162 : decode cX11_comesIn 162 = .ok (.iload_n 2, 1) := by decide +kernel
theorem dX11_comesIn_163 : decode cX11_comesIn 163 = .ok (.ifCond .eq 7, 3) := by decide +kernel
theorem dX11_comesIn_166 : decode cX11_comesIn 166 = .ok (.iconst 1, 1) := by decide +kernel
theorem dX11_comesIn_167 : decode cX11_comesIn 167 = .ok (.goto 4, 3) := by decide +kernel
theorem dX11_comesIn_170 : decode cX11_comesIn 170 = .ok (.iconst 3, 1) := by decide +kernel
theorem dX11_comesIn_171 : decode cX11_comesIn 171 = .ok (.iastore, 1) := by decide +kernel
theorem dX11_comesIn_172 : decode cX11_comesIn 172 = .ok (.iload_n 2, 1) := by decide +kernel
theorem dX11_comesIn_173 : decode cX11_comesIn 173 = .ok (.ifCond .ne 4, 3) := by decide +kernel
theorem dX11_comesIn_176 : decode cX11_comesIn 176 = .ok (.return_, 1) := by decide +kernel
theorem dX11_comesIn_177 : decode cX11_comesIn 177 = .ok (.aload_n 0, 1) := by decide +kernel
theorem dX11_comesIn_178 : decode cX11_comesIn 178 = .ok (.iconst 0, 1) := by decide +kernel
theorem dX11_comesIn_179 : decode cX11_comesIn 179 = .ok (.aload_n 0, 1) := by decide +kernel
theorem dX11_comesIn_180 : decode cX11_comesIn 180 = .ok (.iload_n 1, 1) := by decide +kernel
theorem dX11_comesIn_181 : decode cX11_comesIn 181 = .ok (.iconst 0, 1) := by decide +kernel
theorem dX11_comesIn_182 : decode cX11_comesIn 182 = .ok (.invokevirtual 428, 3) := by decide +kernel
theorem dX11_comesIn_185 : decode cX11_comesIn 185 = .ok (.aload_n 0, 1) := by decide +kernel
theorem dX11_comesIn_186 : decode cX11_comesIn 186 = .ok (.iload_n 1, 1) := by decide +kernel
theorem dX11_comesIn_187 : decode cX11_comesIn 187 = .ok (.iconst 1, 1) := by decide +kernel
theorem dX11_comesIn_188 : decode cX11_comesIn 188 = .ok (.invokevirtual 428, 3) := by decide +kernel
theorem dX11_comesIn_191 : decode cX11_comesIn 191 = .ok (.i2l, 1) := by decide +kernel
theorem dX11_comesIn_192 : decode cX11_comesIn 192 = .ok (.aload_n 0, 1) := by decide +kernel
theorem dX11_comesIn_193 : decode cX11_comesIn 193 = .ok (.iload_n 1, 1) := by decide +kernel
theorem dX11_comesIn_194 : decode cX11_comesIn 194 = .ok (.iconst 2, 1) := by decide +kernel
theorem dX11_comesIn_195 : decode cX11_comesIn 195 = .ok (.invokevirtual 428, 3) := by decide +kernel
theorem dX11_comesIn_198 : decode cX11_comesIn 198 = .ok (.i2l, 1) := by decide +kernel
theorem dX11_comesIn_199 : decode cX11_comesIn 199 = .ok (.aload_n 0, 1) := by decide +kernel
theorem dX11_comesIn_200 : decode cX11_comesIn 200 = .ok (.iload_n 1, 1) := by decide +kernel
theorem dX11_comesIn_201 : decode cX11_comesIn 201 = .ok (.iconst 3, 1) := by decide +kernel
theorem dX11_comesIn_202 : decode cX11_comesIn 202 = .ok (.invokevirtual 428, 3) := by decide +kernel
theorem dX11_comesIn_205 : decode cX11_comesIn 205 = .ok (.i2l, 1) := by decide +kernel
theorem dX11_comesIn_206 : decode cX11_comesIn 206 = .ok (.invokevirtual 378, 3) := by decide +kernel
theorem dX11_comesIn_209 : decode cX11_comesIn 209 = .ok (.aload_n 0, 1) := by decide +kernel
theorem dX11_comesIn_210 : decode cX11_comesIn 210 = .ok (.getfield 226, 3) := by decide +kernel
theorem dX11_comesIn_213 : decode cX11_comesIn 213 = .ok (.bipush 14, 2) := by decide +kernel
theorem dX11_comesIn_215 : decode cX11_comesIn 215 = .ok (.iload_n 1, 1) := by decide +kernel
theorem dX11_comesIn_216 : decode cX11_comesIn 216 = .ok (.imul, 1) := by decide +kernel
theorem dX11_comesIn_217 : decode cX11_comesIn 217 = .ok (.bipush 8, 2) := by decide +kernel
theorem dX11_comesIn_219 : decode cX11_comesIn 219 = .ok (.iadd, 1) := by decide +kernel
theorem dX11_comesIn_220 : decode cX11_comesIn 220 = .ok (.aload_n 0, 1) := by decide +kernel
theorem dX11_comesIn_221 : decode cX11_comesIn 221 = .ok (.getfield 337, 3) := by decide +kernel
theorem dX11_comesIn_224 : decode cX11_comesIn 224 = .ok (.iastore, 1) := by decide +kernel
theorem dX11_comesIn_225 : decode cX11_comesIn 225 = .ok (.aload_n 0, 1) := by decide +kernel
theorem dX11_comesIn_226 : decode cX11_comesIn 226 = .ok (.iload_n 1, 1) := by decide +kernel
theorem dX11_comesIn_227 : decode cX11_comesIn 227 = .ok (.invokevirtual 440, 3) := by decide +kernel
theorem dX11_comesIn_230 : decode cX11_comesIn 230 = .ok (.return_, 1) := by decide +kernel
theorem dX11_ticks_0 : decode cX11_ticks 0 = .ok (.aload_n 0, 1) := by decide +kernel
theorem dX11_ticks_1 : decode cX11_ticks 1 = .ok (.dup, 1) := by decide +kernel
theorem dX11_ticks_2 : decode cX11_ticks 2 = .ok (.getfield 267, 3) := by decide +kernel
theorem dX11_ticks_5 : decode cX11_ticks 5 = .ok (.iconst 1, 1) := by decide +kernel
theorem dX11_ticks_6 : decode cX11_ticks 6 = .ok (.iadd, 1) := by decide +kernel
theorem dX11_ticks_7 : decode cX11_ticks 7 = .ok (.putfield 267, 3) := by decide +kernel
theorem dX11_ticks_10 : decode cX11_ticks 10 = .ok (.aload_n 0, 1) := by decide +kernel
theorem dX11_ticks_11 : decode cX11_ticks 11 = .ok (.getfield 270, 3) := by decide +kernel
theorem dX11_ticks_14 : decode cX11_ticks 14 = .ok (.ifCond .eq 5, 3) := by decide +kernel
theorem dX11_ticks_17 : decode cX11_ticks 17 = .ok (.iconst 0, 1) := by decide +kernel
theorem dX11_ticks_18 : decode cX11_ticks 18 = .ok (.ireturn, 1) := by decide +kernel
theorem dX11_ticks_19 : decode cX11_ticks 19 = .ok (.iconst 0, 1) := by decide +kernel
theorem dX11_ticks_20 : decode cX11_ticks 20 = .ok (.istore_n 1, 1) := by decide +kernel
theorem dX11_ticks_21 : decode cX11_ticks 21 = .ok (.iconst 0, 1) := by decide +kernel
theorem dX11_ticks_22 : decode cX11_ticks 22 = .ok (.istore_n 2, 1) := by decide +kernel
theorem dX11_ticks_23 : decode cX11_ticks 23 = .ok (.iload_n 2, 1) := by decide +kernel
theorem dX11_ticks_24 : decode cX11_ticks 24 = .ok (.aload_n 0, 1) := by decide +kernel
theorem dX11_ticks_25 : decode cX11_ticks 25 = .ok (.getfield 273, 3) := by decide +kernel
theorem dX11_ticks_28 : decode cX11_ticks 28 = .ok (.if_icmp .ge 27, 3) := by decide +kernel
theorem dX11_ticks_31 : decode cX11_ticks 31 = .ok (.aload_n 0, 1) := by decide +kernel
theorem dX11_ticks_32 : decode cX11_ticks 32 = .ok (.iload_n 2, 1) := by decide +kernel
theorem dX11_ticks_33 : decode cX11_ticks 33 = .ok (.iconst 4, 1) := by decide +kernel
theorem dX11_ticks_34 : decode cX11_ticks 34 = .ok (.invokevirtual 428, 3) := by decide +kernel
theorem dX11_ticks_37 : decode cX11_ticks 37 = .ok (.iconst 1, 1) := by decide +kernel
theorem dX11_ticks_38 : decode cX11_ticks 38 = .ok (.if_icmp .ne 11, 3) := by decide +kernel
theorem dX11_ticks_41 : decode cX11_ticks 41 = .ok (.iload_n 1, 1) := by decide +kernel
theorem dX11_ticks_42 : decode cX11_ticks 42 = .ok (.aload_n 0, 1) := by decide +kernel
theorem dX11_ticks_43 : decode cX11_ticks 43 = .ok (.iload_n 2, 1) := by decide +kernel
theorem dX11_ticks_44 : decode cX11_ticks 44 = .ok (.invokevirtual 443, 3) := by decide +kernel
theorem dX11_ticks_47 : decode cX11_ticks 47 = .ok (.iadd, 1) := by decide +kernel
theorem dX11_ticks_48 : decode cX11_ticks 48 = .ok (.istore_n 1, 1) := by decide +kernel
theorem dX11_ticks_49 : decode cX11_ticks 49 = .ok (.iinc 2 1, 3) := by decide +kernel
theorem dX11_ticks_52 : decode cX11_ticks 52 = .ok (.goto (-29), 3) := by decide +kernel
theorem dX11_ticks_55 : decode cX11_ticks 55 = .ok (.aload_n 0, 1) := by decide +kernel
theorem dX11_ticks_56 : decode cX11_ticks 56 = .ok (.invokevirtual 446, 3) := by decide +kernel
theorem dX11_ticks_59 : decode cX11_ticks 59 = .ok (.istore_n 2, 1) := by decide +kernel
theorem dX11_ticks_60 : decode cX11_ticks 60 = .ok (.iload_n 2, 1) := by decide +kernel
theorem dX11_ticks_61 : decode cX11_ticks 61 = .ok (.iconst (-1), 1) := by decide +kernel
theorem dX11_ticks_62 : decode cX11_ticks 62 = .ok (.if_icmp .eq 25, 3) := by decide +kernel
theorem dX11_ticks_65 : decode cX11_ticks 65 = .ok (.aload_n 0, 1) := by decide +kernel
theorem dX11_ticks_66 : decode cX11_ticks 66 = .ok (.iconst 0, 1) := by decide +kernel
theorem dX11_ticks_67 : decode cX11_ticks 67 = .ok (.invokevirtual 449, 3) := by decide +kernel
theorem dX11_ticks_70 : decode cX11_ticks 70 = .ok (.iconst (-1), 1) := by decide +kernel
theorem dX11_ticks_71 : decode cX11_ticks 71 = .ok (.if_icmp .ne 16, 3) := by decide +kernel
theorem dX11_ticks_74 : decode cX11_ticks 74 = .ok (.aload_n 0, 1) := by decide +kernel
theorem dX11_ticks_75 : decode cX11_ticks 75 = .ok (.iload_n 2, 1) := by decide +kernel
theorem dX11_ticks_76 : decode cX11_ticks 76 = .ok (.invokevirtual 452, 3) := by decide +kernel
theorem dX11_ticks_79 : decode cX11_ticks 79 = .ok (.ifCond .ne 8, 3) := by decide +kernel
theorem dX11_ticks_82 : decode cX11_ticks 82 = .ok (.aload_n 0, 1) := by decide +kernel
theorem dX11_ticks_83 : decode cX11_ticks 83 = .ok (.iload_n 2, 1) := by decide +kernel
theorem dX11_ticks_84 : decode cX11_ticks 84 = .ok (.invokevirtual 455, 3) := by decide +kernel
theorem dX11_ticks_87 : decode cX11_ticks 87 = .ok (.iload_n 1, 1) := by decide +kernel
theorem dX11_ticks_88 : decode cX11_ticks 88 = .ok (.ireturn, 1) := by decide +kernel
theorem dX11_clock_0 : decode cX11_clock 0 = .ok (.aload_n 0, 1) := by decide +kernel
theorem dX11_clock_1 : decode cX11_clock 1 = .ok (.iconst 0, 1) := by decide +kernel
theorem dX11_clock_2 : decode cX11_clock 2 = .ok (.putfield 5, 3) := by decide +kernel
theorem dX11_clock_5 : decode cX11_clock 5 = .ok (.aload_n 0, 1) := by decide +kernel
theorem dX11_clock_6 : decode cX11_clock 6 = .ok (.getfield 260, 3) := by decide +kernel
theorem dX11_clock_9 : decode cX11_clock 9 = .ok (.ifCond .ne 9, 3) := by decide +kernel
theorem dX11_clock_12 : decode cX11_clock 12 = .ok (.aload_n 0, 1) := by decide +kernel
theorem dX11_clock_13 : decode cX11_clock 13 = .ok (.iconst 0, 1) := by decide +kernel
theorem dX11_clock_14 : decode cX11_clock 14 = .ok (.invokevirtual 414, 3) := by decide +kernel
theorem dX11_clock_17 : decode cX11_clock 17 = .ok (.ireturn, 1) := by decide +kernel
theorem dX11_clock_18 : decode cX11_clock 18 = .ok (.iload_n 1, 1) := by decide +kernel
theorem dX11_clock_19 : decode cX11_clock 19 = .ok (.i2l, 1) := by decide +kernel
theorem dX11_clock_20 : decode cX11_clock 20 = .ok (.lconst 1, 1) := by decide +kernel
theorem dX11_clock_21 : decode cX11_clock 21 = .ok (.ldc2_w 458, 3) := by decide +kernel
theorem dX11_clock_24 : decode cX11_clock 24 = .ok (.invokestatic 65, 3) := by decide +kernel
theorem dX11_clock_27 : decode cX11_clock 27 = .ok (.ifCond .ne 9, 3) := by decide +kernel
theorem dX11_clock_30 : decode cX11_clock 30 = .ok (.aload_n 0, 1) := by decide +kernel
theorem dX11_clock_31 : decode cX11_clock 31 = .ok (.iconst 1, 1) := by decide +kernel
theorem dX11_clock_32 : decode cX11_clock 32 = .ok (.invokevirtual 414, 3) := by decide +kernel
theorem dX11_clock_35 : decode cX11_clock 35 = .ok (.ireturn, 1) := by decide +kernel
theorem dX11_clock_36 : decode cX11_clock 36 = .ok (.iconst 0, 1) := by decide +kernel
theorem dX11_clock_37 : decode cX11_clock 37 = .ok (.istore_n 2, 1) := by decide +kernel
theorem dX11_clock_38 : decode cX11_clock 38 = .ok (.iconst 0, 1) := by decide +kernel
theorem dX11_clock_39 : decode cX11_clock 39 = .ok (.istore_n 3, 1) := by decide +kernel
theorem dX11_clock_40 : decode cX11_clock 40 = .ok (.iload_n 3, 1) := by decide +kernel
theorem dX11_clock_41 : decode cX11_clock 41 = .ok (.iload_n 1, 1) := by decide +kernel
theorem dX11_clock_42 : decode cX11_clock 42 = .ok (.if_icmp .ge 16, 3) := by decide +kernel
theorem dX11_clock_45 : decode cX11_clock 45 = .ok (.iload_n 2, 1) := by decide +kernel
theorem dX11_clock_46 : decode cX11_clock 46 = .ok (.aload_n 0, 1) := by decide +kernel
theorem dX11_clock_47 : decode cX11_clock 47 = .ok (.invokevirtual 460, 3) := by decide +kernel
theorem dX11_clock_50 : decode cX11_clock 50 = .ok (.iadd, 1) := by decide +kernel
theorem dX11_clock_51 : decode cX11_clock 51 = .ok (.istore_n 2, 1) := by decide +kernel
theorem dX11_clock_52 : decode cX11_clock 52 = .ok (.iinc 3 1, 3) := by decide +kernel
theorem dX11_clock_55 : decode cX11_clock 55 = .ok (.goto (-15), 3) := by decide +kernel
theorem dX11_clock_58 : decode cX11_clock 58 = .ok (.iload_n 2, 1) := by decide +kernel
theorem dX11_clock_59 : decode cX11_clock 59 = .ok (.ireturn, 1) := by decide +kernel
theorem dX11_hold_0 : decode cX11_hold 0 = .ok (.aload_n 0, 1) := by decide +kernel
theorem dX11_hold_1 : decode cX11_hold 1 = .ok (.iconst 0, 1) := by decide +kernel
theorem dX11_hold_2 : decode cX11_hold 2 = .ok (.putfield 5, 3) := by decide +kernel
theorem dX11_hold_5 : decode cX11_hold 5 = .ok (.aload_n 0, 1) := by decide +kernel
theorem dX11_hold_6 : decode cX11_hold 6 = .ok (.getfield 260, 3) := by decide +kernel
theorem dX11_hold_9 : decode cX11_hold 9 = .ok (.ifCond .eq 11, 3) := by decide +kernel
theorem dX11_hold_12 : decode cX11_hold 12 = .ok (.aload_n 0, 1) := by decide +kernel
theorem dX11_hold_13 : decode cX11_hold 13 = .ok (.getfield 270, 3) := by decide +kernel
theorem dX11_hold_16 : decode cX11_hold 16 = .ok (.iload_n 1, 1) := by decide +kernel
theorem dX11_hold_17 : decode cX11_hold 17 = .ok (.if_icmp .ne 22, 3) := by decide +kernel
theorem dX11_hold_20 : decode cX11_hold 20 = .ok (.aload_n 0, 1) := by decide +kernel
theorem dX11_hold_21 : decode cX11_hold 21 = .ok (.aload_n 0, 1) := by decide +kernel
theorem dX11_hold_22 : decode cX11_hold 22 = .ok (.getfield 260, 3) := by decide +kernel
theorem dX11_hold_25 : decode cX11_hold 25 = .ok (.ifCond .eq 7, 3) := by decide +kernel
theorem dX11_hold_28 : decode cX11_hold 28 = .ok (.iconst 3, 1) := by decide +kernel
theorem dX11_hold_29 : decode cX11_hold 29 = .ok (.goto 4, 3) := by decide +kernel
theorem dX11_hold_32 : decode cX11_hold 32 = .ok (.iconst 0, 1) := by decide +kernel
theorem dX11_hold_33 : decode cX11_hold 33 = .ok (.invokevirtual 414, 3) := by decide +kernel
theorem dX11_hold_36 : decode cX11_hold 36 = .ok (.istore_n 2, 1) := by decide +kernel
theorem dX11_hold_37 : decode cX11_hold 37 = .ok (.iconst 0, 1) := by decide +kernel
theorem dX11_hold_38 : decode cX11_hold 38 = .ok (.ireturn, 1) := by decide +kernel
theorem dX11_hold_39 : decode cX11_hold 39 = .ok (.aload_n 0, 1) := by decide +kernel
theorem dX11_hold_40 : decode cX11_hold 40 = .ok (.iload_n 1, 1) := by decide +kernel
theorem dX11_hold_41 : decode cX11_hold 41 = .ok (.putfield 270, 3) := by decide +kernel
theorem dX11_hold_44 : decode cX11_hold 44 = .ok (.iconst 1, 1) := by decide +kernel
theorem dX11_hold_45 : decode cX11_hold 45 = .ok (.ireturn, 1) := by decide +kernel
theorem dX11_howMany_0 : decode cX11_howMany 0 = .ok (.iconst 0, 1) := by decide +kernel
theorem dX11_howMany_1 : decode cX11_howMany 1 = .ok (.istore_n 2, 1) := by decide +kernel
theorem dX11_howMany_2 : decode cX11_howMany 2 = .ok (.iconst 0, 1) := by decide +kernel
theorem dX11_howMany_3 : decode cX11_howMany 3 = .ok (.istore_n 3, 1) := by decide +kernel
theorem dX11_howMany_4 : decode cX11_howMany 4 = .ok (.iload_n 3, 1) := by decide +kernel
theorem dX11_howMany_5 : decode cX11_howMany 5 = .ok (.aload_n 0, 1) := by decide +kernel
theorem dX11_howMany_6 : decode cX11_howMany 6 = .ok (.getfield 273, 3) := by decide +kernel
theorem dX11_howMany_9 : decode cX11_howMany 9 = .ok (.if_icmp .ge 27, 3) := by decide +kernel
theorem dX11_howMany_12 : decode cX11_howMany 12 = .ok (.iload_n 2, 1) := by decide +kernel
theorem dX11_howMany_13 : decode cX11_howMany 13 = .ok (.aload_n 0, 1) := by decide +kernel
theorem dX11_howMany_14 : decode cX11_howMany 14 = .ok (.iload_n 3, 1) := by decide +kernel
theorem dX11_howMany_15 : decode cX11_howMany 15 = .ok (.iconst 4, 1) := by decide +kernel
theorem dX11_howMany_16 : decode cX11_howMany 16 = .ok (.invokevirtual 428, 3) := by decide +kernel
theorem dX11_howMany_19 : decode cX11_howMany 19 = .ok (.iload_n 1, 1) := by decide +kernel
theorem dX11_howMany_20 : decode cX11_howMany 20 = .ok (.if_icmp .ne 7, 3) := by decide +kernel
theorem dX11_howMany_23 : decode cX11_howMany 23 = .ok (.iconst 1, 1) := by decide +kernel
theorem dX11_howMany_24 : decode cX11_howMany 24 = .ok (.goto 4, 3) := by decide +kernel
theorem dX11_howMany_27 : decode cX11_howMany 27 = .ok (.iconst 0, 1) := by decide +kernel
theorem dX11_howMany_28 : decode cX11_howMany 28 = .ok (.iadd, 1) := by decide +kernel
theorem dX11_howMany_29 : decode cX11_howMany 29 = .ok (.istore_n 2, 1) := by decide +kernel
theorem dX11_howMany_30 : decode cX11_howMany 30 = .ok (.iinc 3 1, 3) := by decide +kernel
theorem dX11_howMany_33 : decode cX11_howMany 33 = .ok (.goto (-29), 3) := by decide +kernel
theorem dX11_howMany_36 : decode cX11_howMany 36 = .ok (.iload_n 2, 1) := by decide +kernel
theorem dX11_howMany_37 : decode cX11_howMany 37 = .ok (.ireturn, 1) := by decide +kernel
theorem dX11_rule_0 : decode cX11_rule 0 = .ok (.aload_n 0, 1) := by decide +kernel
theorem dX11_rule_1 : decode cX11_rule 1 = .ok (.iconst 0, 1) := by decide +kernel
theorem dX11_rule_2 : decode cX11_rule 2 = .ok (.putfield 5, 3) := by decide +kernel
theorem dX11_rule_5 : decode cX11_rule 5 = .ok (.aload_n 0, 1) := by decide +kernel
theorem dX11_rule_6 : decode cX11_rule 6 = .ok (.getfield 260, 3) := by decide +kernel
theorem dX11_rule_9 : decode cX11_rule 9 = .ok (.ifCond .ne 5, 3) := by decide +kernel
theorem dX11_rule_12 : decode cX11_rule 12 = .ok (.iconst (-1), 1) := by decide +kernel
theorem dX11_rule_13 : decode cX11_rule 13 = .ok (.ireturn, 1) := by decide +kernel
theorem dX11_rule_14 : decode cX11_rule 14 = .ok (.iload_n 1, 1) := by decide +kernel
theorem dX11_rule_15 : decode cX11_rule 15 = .ok (.tableswitch 149 0 11 #[61, 68, 75, 82, 87, 102, 107, 112, 118, 124, 130, 143], 61) := by decide +kernel
theorem dX11_rule_76 : decode cX11_rule 76 = .ok (.aload_n 0, 1) := by decide +kernel
theorem dX11_rule_77 : decode cX11_rule 77 = .ok (.getfield 192, 3) := by decide +kernel
theorem dX11_rule_80 : decode cX11_rule 80 = .ok (.iconst 0, 1) := by decide +kernel
theorem dX11_rule_81 : decode cX11_rule 81 = .ok (.iaload, 1) := by decide +kernel
theorem dX11_rule_82 : decode cX11_rule 82 = .ok (.ireturn, 1) := by decide +kernel
theorem dX11_rule_83 : decode cX11_rule 83 = .ok (.aload_n 0, 1) := by decide +kernel
theorem dX11_rule_84 : decode cX11_rule 84 = .ok (.getfield 194, 3) := by decide +kernel
theorem dX11_rule_87 : decode cX11_rule 87 = .ok (.iconst 0, 1) := by decide +kernel
theorem dX11_rule_88 : decode cX11_rule 88 = .ok (.iaload, 1) := by decide +kernel
theorem dX11_rule_89 : decode cX11_rule 89 = .ok (.ireturn, 1) := by decide +kernel
theorem dX11_rule_90 : decode cX11_rule 90 = .ok (.aload_n 0, 1) := by decide +kernel
theorem dX11_rule_91 : decode cX11_rule 91 = .ok (.getfield 171, 3) := by decide +kernel
theorem dX11_rule_94 : decode cX11_rule 94 = .ok (.iconst 0, 1) := by decide +kernel
theorem dX11_rule_95 : decode cX11_rule 95 = .ok (.iaload, 1) := by decide +kernel
theorem dX11_rule_96 : decode cX11_rule 96 = .ok (.ireturn, 1) := by decide +kernel
theorem dX11_rule_97 : decode cX11_rule 97 = .ok (.aload_n 0, 1) := by decide +kernel
theorem dX11_rule_98 : decode cX11_rule 98 = .ok (.getfield 264, 3) := by decide +kernel
theorem dX11_rule_101 : decode cX11_rule 101 = .ok (.ireturn, 1) := by decide +kernel
theorem dX11_rule_102 : decode cX11_rule 102 = .ok (.aload_n 0, 1) := by decide +kernel
theorem dX11_rule_103 : decode cX11_rule 103 = .ok (.getfield 196, 3) := by decide +kernel
theorem dX11_rule_106 : decode cX11_rule 106 = .ok (.iconst 0, 1) := by decide +kernel
theorem dX11_rule_107 : decode cX11_rule 107 = .ok (.baload, 1) := by decide +kernel
theorem dX11_rule_108 : decode cX11_rule 108 = .ok (.ifCond .eq 7, 3) := by decide +kernel
theorem dX11_rule_111 : decode cX11_rule 111 = .ok (.iconst 1, 1) := by decide +kernel
theorem dX11_rule_112 : decode cX11_rule 112 = .ok (.goto 4, 3) := by decide +kernel
theorem dX11_rule_115 : decode cX11_rule 115 = .ok (.iconst 0, 1) := by decide +kernel
theorem dX11_rule_116 : decode cX11_rule 116 = .ok (.ireturn, 1) := by decide +kernel
theorem dX11_rule_117 : decode cX11_rule 117 = .ok (.aload_n 0, 1) := by decide +kernel
theorem dX11_rule_118 : decode cX11_rule 118 = .ok (.getfield 267, 3) := by decide +kernel
theorem dX11_rule_121 : decode cX11_rule 121 = .ok (.ireturn, 1) := by decide +kernel
theorem dX11_rule_122 : decode cX11_rule 122 = .ok (.aload_n 0, 1) := by decide +kernel
theorem dX11_rule_123 : decode cX11_rule 123 = .ok (.getfield 273, 3) := by decide +kernel
theorem dX11_rule_126 : decode cX11_rule 126 = .ok (.ireturn, 1) := by decide +kernel
theorem dX11_rule_127 : decode cX11_rule 127 = .ok (.aload_n 0, 1) := by decide +kernel
theorem dX11_rule_128 : decode cX11_rule 128 = .ok (.iconst 0, 1) := by decide +kernel
theorem dX11_rule_129 : decode cX11_rule 129 = .ok (.invokevirtual 463, 3) := by decide +kernel
theorem dX11_rule_132 : decode cX11_rule 132 = .ok (.ireturn, 1) := by decide +kernel
theorem dX11_rule_133 : decode cX11_rule 133 = .ok (.aload_n 0, 1) := by decide +kernel
theorem dX11_rule_134 : decode cX11_rule 134 = .ok (.iconst 1, 1) := by decide +kernel
theorem dX11_rule_135 : decode cX11_rule 135 = .ok (.invokevirtual 463, 3) := by decide +kernel
theorem dX11_rule_138 : decode cX11_rule 138 = .ok (.ireturn, 1) := by decide +kernel
theorem dX11_rule_139 : decode cX11_rule 139 = .ok (.aload_n 0, 1) := by decide +kernel
theorem dX11_rule_140 : decode cX11_rule 140 = .ok (.iconst 2, 1) := by decide +kernel
theorem dX11_rule_141 : decode cX11_rule 141 = .ok (.invokevirtual 463, 3) := by decide +kernel
theorem dX11_rule_144 : decode cX11_rule 144 = .ok (.ireturn, 1) := by decide +kernel
theorem dX11_rule_145 : decode cX11_rule 145 = .ok (.aload_n 0, 1) := by decide +kernel
theorem dX11_rule_146 : decode cX11_rule 146 = .ok (.getfield 270, 3) := by decide +kernel
theorem dX11_rule_149 : decode cX11_rule 149 = .ok (.ifCond .eq 7, 3) := by decide +kernel
theorem dX11_rule_152 : decode cX11_rule 152 = .ok (.iconst 1, 1) := by decide +kernel
theorem dX11_rule_153 : decode cX11_rule 153 = .ok (.goto 4, 3) := by decide +kernel
theorem dX11_rule_156 : decode cX11_rule 156 = .ok (.iconst 0, 1) := by decide +kernel
theorem dX11_rule_157 : decode cX11_rule 157 = .ok (.ireturn, 1) := by decide +kernel
theorem dX11_rule_158 : decode cX11_rule 158 = .ok (.aload_n 0, 1) := by decide +kernel
theorem dX11_rule_159 : decode cX11_rule 159 = .ok (.iconst 3, 1) := by decide +kernel
theorem dX11_rule_160 : decode cX11_rule 160 = .ok (.invokevirtual 463, 3) := by decide +kernel
theorem dX11_rule_163 : decode cX11_rule 163 = .ok (.ireturn, 1) := by decide +kernel
theorem dX11_rule_164 : decode cX11_rule 164 = .ok (.iconst (-1), 1) := by decide +kernel
theorem dX11_rule_165 : decode cX11_rule 165 = .ok (.ireturn, 1) := by decide +kernel
theorem dX11_told_0 : decode cX11_told 0 = .ok (.aload_n 0, 1) := by decide +kernel
theorem dX11_told_1 : decode cX11_told 1 = .ok (.aload_n 0, 1) := by decide +kernel
theorem dX11_told_2 : decode cX11_told 2 = .ok (.iload_n 1, 1) := by decide +kernel
theorem dX11_told_3 : decode cX11_told 3 = .ok (.invokevirtual 431, 3) := by decide +kernel
theorem dX11_told_6 : decode cX11_told 6 = .ok (.ifCond .eq 19, 3) := by decide +kernel
theorem dX11_told_9 : decode cX11_told 9 = .ok (.iload_n 2, 1) := by decide +kernel
theorem dX11_told_10 : decode cX11_told 10 = .ok (.i2l, 1) := by decide +kernel
theorem dX11_told_11 : decode cX11_told 11 = .ok (.lconst 0, 1) := by decide +kernel
theorem dX11_told_12 : decode cX11_told 12 = .ok (.ldc2_w 466, 3) := by decide +kernel
theorem dX11_told_15 : decode cX11_told 15 = .ok (.invokestatic 65, 3) := by decide +kernel
theorem dX11_told_18 : decode cX11_told 18 = .ok (.ifCond .eq 7, 3) := by decide +kernel
theorem dX11_told_21 : decode cX11_told 21 = .ok (.iconst 0, 1) := by decide +kernel
theorem dX11_told_22 : decode cX11_told 22 = .ok (.goto 4, 3) := by decide +kernel
theorem dX11_told_25 : decode cX11_told 25 = .ok (.iconst 1, 1) := by decide +kernel
theorem dX11_told_26 : decode cX11_told 26 = .ok (.putfield 5, 3) := by decide +kernel
theorem dX11_told_29 : decode cX11_told 29 = .ok (.aload_n 0, 1) := by decide +kernel
theorem dX11_told_30 : decode cX11_told 30 = .ok (.getfield 5, 3) := by decide +kernel
theorem dX11_told_33 : decode cX11_told 33 = .ok (.ifCond .le 5, 3) := by decide +kernel
theorem dX11_told_36 : decode cX11_told 36 = .ok (.iconst 0, 1) := by decide +kernel
theorem dX11_told_37 : decode cX11_told 37 = .ok (.ireturn, 1) := by decide +kernel
theorem dX11_told_38 : decode cX11_told 38 = .ok (.iload_n 2, 1) := by decide +kernel
theorem dX11_told_39 : decode cX11_told 39 = .ok (.bipush 8, 2) := by decide +kernel
theorem dX11_told_41 : decode cX11_told 41 = .ok (.if_icmp .ne 14, 3) := by decide +kernel
theorem dX11_told_44 : decode cX11_told 44 = .ok (.getstatic 362, 3) := by decide +kernel
theorem dX11_told_47 : decode cX11_told 47 = .ok (.aload_n 0, 1) := by decide +kernel
theorem dX11_told_48 : decode cX11_told 48 = .ok (.iload_n 1, 1) := by decide +kernel
theorem dX11_told_49 : decode cX11_told 49 = .ok (.iconst 0, 1) := by decide +kernel
theorem dX11_told_50 : decode cX11_told 50 = .ok (.invokevirtual 428, 3) := by decide +kernel
theorem dX11_told_53 : decode cX11_told 53 = .ok (.iaload, 1) := by decide +kernel
theorem dX11_told_54 : decode cX11_told 54 = .ok (.ireturn, 1) := by decide +kernel
theorem dX11_told_55 : decode cX11_told 55 = .ok (.iload_n 2, 1) := by decide +kernel
theorem dX11_told_56 : decode cX11_told 56 = .ok (.bipush 9, 2) := by decide +kernel
theorem dX11_told_58 : decode cX11_told 58 = .ok (.if_icmp .ne 23, 3) := by decide +kernel
theorem dX11_told_61 : decode cX11_told 61 = .ok (.aload_n 0, 1) := by decide +kernel
theorem dX11_told_62 : decode cX11_told 62 = .ok (.iload_n 1, 1) := by decide +kernel
theorem dX11_told_63 : decode cX11_told 63 = .ok (.iconst 0, 1) := by decide +kernel
theorem dX11_told_64 : decode cX11_told 64 = .ok (.invokevirtual 428, 3) := by decide +kernel
theorem dX11_told_67 : decode cX11_told 67 = .ok (.invokestatic 365, 3) := by decide +kernel
theorem dX11_told_70 : decode cX11_told 70 = .ok (.ifCond .eq 7, 3) := by decide +kernel
theorem dX11_told_73 : decode cX11_told 73 = .ok (.iconst 1, 1) := by decide +kernel
theorem dX11_told_74 : decode cX11_told 74 = .ok (.goto 13, 3) := by decide +kernel
theorem dX11_told_77 : decode cX11_told 77 = .ok (.iconst 0, 1) := by decide +kernel
theorem dX11_told_78 : decode cX11_told 78 = .ok (.goto 9, 3) := by decide +kernel
theorem dX11_told_81 : decode cX11_told 81 = .ok (.aload_n 0, 1) := by decide +kernel
theorem dX11_told_82 : decode cX11_told 82 = .ok (.iload_n 1, 1) := by decide +kernel
theorem dX11_told_83 : decode cX11_told 83 = .ok (.iload_n 2, 1) := by decide +kernel
theorem dX11_told_84 : decode cX11_told 84 = .ok (.invokevirtual 428, 3) := by decide +kernel
theorem dX11_told_87 : decode cX11_told 87 = .ok (.ireturn, 1) := by decide +kernel
theorem dX11_result_0 : decode cX11_result 0 = .ok (.aload_n 0, 1) := by decide +kernel
theorem dX11_result_1 : decode cX11_result 1 = .ok (.iconst 0, 1) := by decide +kernel
theorem dX11_result_2 : decode cX11_result 2 = .ok (.putfield 5, 3) := by decide +kernel
theorem dX11_result_5 : decode cX11_result 5 = .ok (.aload_n 0, 1) := by decide +kernel
theorem dX11_result_6 : decode cX11_result 6 = .ok (.iload_n 1, 1) := by decide +kernel
theorem dX11_result_7 : decode cX11_result 7 = .ok (.invokevirtual 431, 3) := by decide +kernel
theorem dX11_result_10 : decode cX11_result 10 = .ok (.ifCond .eq 36, 3) := by decide +kernel
theorem dX11_result_13 : decode cX11_result 13 = .ok (.iload_n 2, 1) := by decide +kernel
theorem dX11_result_14 : decode cX11_result 14 = .ok (.i2l, 1) := by decide +kernel
theorem dX11_result_15 : decode cX11_result 15 = .ok (.lconst 0, 1) := by decide +kernel
theorem dX11_result_16 : decode cX11_result 16 = .ok (.lconst 1, 1) := by decide +kernel
theorem dX11_result_17 : decode cX11_result 17 = .ok (.invokestatic 65, 3) := by decide +kernel
theorem dX11_result_20 : decode cX11_result 20 = .ok (.ifCond .eq 26, 3) := by decide +kernel
theorem dX11_result_23 : decode cX11_result 23 = .ok (.aload_n 0, 1) := by decide +kernel
theorem dX11_result_24 : decode cX11_result 24 = .ok (.iload_n 1, 1) := by decide +kernel
theorem dX11_result_25 : decode cX11_result 25 = .ok (.iconst 4, 1) := by decide +kernel
theorem dX11_result_26 : decode cX11_result 26 = .ok (.invokevirtual 428, 3) := by decide +kernel
theorem dX11_result_29 : decode cX11_result 29 = .ok (.iconst 2, 1) := by decide +kernel
theorem dX11_result_30 : decode cX11_result 30 = .ok (.if_icmp .ne 16, 3) := by decide +kernel
theorem dX11_result_33 : decode cX11_result 33 = .ok (.aload_n 0, 1) := by decide +kernel
theorem dX11_result_34 : decode cX11_result 34 = .ok (.getfield 232, 3) := by decide +kernel
theorem dX11_result_37 : decode cX11_result 37 = .ok (.iconst 2, 1) := by decide +kernel
theorem dX11_result_38 : decode cX11_result 38 = .ok (.iload_n 1, 1) := by decide +kernel
theorem dX11_result_39 : decode cX11_result 39 = .ok (.imul, 1) := by decide +kernel
theorem dX11_result_40 : decode cX11_result 40 = .ok (.iload_n 2, 1) := by decide +kernel
theorem dX11_result_41 : decode cX11_result 41 = .ok (.iadd, 1) := by decide +kernel
theorem dX11_result_42 : decode cX11_result 42 = .ok (.iaload, 1) := by decide +kernel
theorem dX11_result_43 : decode cX11_result 43 = .ok (.goto 6, 3) := by decide +kernel
theorem dX11_result_46 : decode cX11_result 46 = .ok (.ldc_w 297, 3) := by decide +kernel
theorem dX11_result_49 : decode cX11_result 49 = .ok (.ireturn, 1) := by decide +kernel
theorem dX11_hasBegun_0 : decode cX11_hasBegun 0 = .ok (.aload_n 0, 1) := by decide +kernel
theorem dX11_hasBegun_1 : decode cX11_hasBegun 1 = .ok (.iload_n 1, 1) := by decide +kernel
theorem dX11_hasBegun_2 : decode cX11_hasBegun 2 = .ok (.invokevirtual 431, 3) := by decide +kernel
theorem dX11_hasBegun_5 : decode cX11_hasBegun 5 = .ok (.ifCond .eq 27, 3) := by decide +kernel
theorem dX11_hasBegun_8 : decode cX11_hasBegun 8 = .ok (.aload_n 0, 1) := by decide +kernel
theorem dX11_hasBegun_9 : decode cX11_hasBegun 9 = .ok (.iload_n 1, 1) := by decide +kernel
theorem dX11_hasBegun_10 : decode cX11_hasBegun 10 = .ok (.iconst 4, 1) := by decide +kernel
theorem dX11_hasBegun_11 : decode cX11_hasBegun 11 = .ok (.invokevirtual 428, 3) := by decide +kernel
theorem dX11_hasBegun_14 : decode cX11_hasBegun 14 = .ok (.iconst 1, 1) := by decide +kernel
theorem dX11_hasBegun_15 : decode cX11_hasBegun 15 = .ok (.if_icmp .eq 13, 3) := by decide +kernel
theorem dX11_hasBegun_18 : decode cX11_hasBegun 18 = .ok (.aload_n 0, 1) := by decide +kernel
theorem dX11_hasBegun_19 : decode cX11_hasBegun 19 = .ok (.iload_n 1, 1) := by decide +kernel
theorem dX11_hasBegun_20 : decode cX11_hasBegun 20 = .ok (.iconst 4, 1) := by decide +kernel
theorem dX11_hasBegun_21 : decode cX11_hasBegun 21 = .ok (.invokevirtual 428, 3) := by decide +kernel
theorem dX11_hasBegun_24 : decode cX11_hasBegun 24 = .ok (.iconst 2, 1) := by decide +kernel
theorem dX11_hasBegun_25 : decode cX11_hasBegun 25 = .ok (.if_icmp .ne 7, 3) := by decide +kernel
theorem dX11_hasBegun_28 : decode cX11_hasBegun 28 = .ok (.iconst 1, 1) := by decide +kernel
theorem dX11_hasBegun_29 : decode cX11_hasBegun 29 = .ok (.goto 4, 3) := by decide +kernel
theorem dX11_hasBegun_32 : decode cX11_hasBegun 32 = .ok (.iconst 0, 1) := by decide +kernel
theorem dX11_hasBegun_33 : decode cX11_hasBegun 33 = .ok (.ireturn, 1) := by decide +kernel
theorem dX11_trace_0 : decode cX11_trace 0 = .ok (.aload_n 0, 1) := by decide +kernel
theorem dX11_trace_1 : decode cX11_trace 1 = .ok (.iconst 0, 1) := by decide +kernel
theorem dX11_trace_2 : decode cX11_trace 2 = .ok (.putfield 5, 3) := by decide +kernel
theorem dX11_trace_5 : decode cX11_trace 5 = .ok (.aload_n 0, 1) := by decide +kernel
theorem dX11_trace_6 : decode cX11_trace 6 = .ok (.iload_n 1, 1) := by decide +kernel
theorem dX11_trace_7 : decode cX11_trace 7 = .ok (.invokevirtual 468, 3) := by decide +kernel
theorem dX11_trace_10 : decode cX11_trace 10 = .ok (.ifCond .eq 49, 3) := by decide +kernel
theorem dX11_trace_13 : decode cX11_trace 13 = .ok (.iload_n 2, 1) := by decide +kernel
theorem dX11_trace_14 : decode cX11_trace 14 = .ok (.i2l, 1) := by decide +kernel
theorem dX11_trace_15 : decode cX11_trace 15 = .ok (.lconst 0, 1) := by decide +kernel
theorem dX11_trace_16 : decode cX11_trace 16 = .ok (.aload_n 0, 1) := by decide +kernel
theorem dX11_trace_17 : decode cX11_trace 17 = .ok (.iload_n 1, 1) := by decide +kernel
theorem dX11_trace_18 : decode cX11_trace 18 = .ok (.iconst 5, 1) := by decide +kernel
theorem dX11_trace_19 : decode cX11_trace 19 = .ok (.invokevirtual 428, 3) := by decide +kernel
theorem dX11_trace_22 : decode cX11_trace 22 = .ok (.i2l, 1) := by decide +kernel
theorem dX11_trace_23 : decode cX11_trace 23 = .ok (.invokestatic 65, 3) := by decide +kernel
theorem dX11_trace_26 : decode cX11_trace 26 = .ok (.ifCond .eq 33, 3) := by decide +kernel
theorem dX11_trace_29 : decode cX11_trace 29 = .ok (.iload_n 3, 1) := by decide +kernel
theorem dX11_trace_30 : decode cX11_trace 30 = .ok (.i2l, 1) := by decide +kernel
theorem dX11_trace_31 : decode cX11_trace 31 = .ok (.lconst 0, 1) := by decide +kernel
theorem dX11_trace_32 : decode cX11_trace 32 = .ok (.ldc2_w 178, 3) := by decide +kernel
theorem dX11_trace_35 : decode cX11_trace 35 = .ok (.invokestatic 65, 3) := by decide +kernel
theorem dX11_trace_38 : decode cX11_trace 38 = .ok (.ifCond .eq 21, 3) := by decide +kernel
theorem dX11_trace_41 : decode cX11_trace 41 = .ok (.aload_n 0, 1) := by decide +kernel
theorem dX11_trace_42 : decode cX11_trace 42 = .ok (.getfield 238, 3) := by decide +kernel
theorem dX11_trace_45 : decode cX11_trace 45 = .ok (.bipush 75, 2) := by decide +kernel
theorem dX11_trace_47 : decode cX11_trace 47 = .ok (.iload_n 1, 1) := by decide +kernel
theorem dX11_trace_48 : decode cX11_trace 48 = .ok (.imul, 1) := by decide +kernel
theorem dX11_trace_49 : decode cX11_trace 49 = .ok (.iconst 3, 1) := by decide +kernel
theorem dX11_trace_50 : decode cX11_trace 50 = .ok (.iload_n 2, 1) := by decide +kernel
theorem dX11_trace_51 : decode cX11_trace 51 = .ok (.imul, 1) := by decide +kernel
theorem dX11_trace_52 : decode cX11_trace 52 = .ok (.iadd, 1) := by decide +kernel
theorem dX11_trace_53 : decode cX11_trace 53 = .ok (.iload_n 3, 1) := by decide +kernel
theorem dX11_trace_54 : decode cX11_trace 54 = .ok (.iadd, 1) := by decide +kernel
theorem dX11_trace_55 : decode cX11_trace 55 = .ok (.laload, 1) := by decide +kernel
theorem dX11_trace_56 : decode cX11_trace 56 = .ok (.goto 6, 3) := by decide +kernel
theorem dX11_trace_59 : decode cX11_trace 59 = .ok (.ldc2_w 403, 3) := by decide +kernel
theorem dX11_trace_62 : decode cX11_trace 62 = .ok (.lreturn, 1) := by decide +kernel
theorem dX11_signs_0 : decode cX11_signs 0 = .ok (.aload_n 0, 1) := by decide +kernel
theorem dX11_signs_1 : decode cX11_signs 1 = .ok (.iconst 0, 1) := by decide +kernel
theorem dX11_signs_2 : decode cX11_signs 2 = .ok (.putfield 5, 3) := by decide +kernel
theorem dX11_signs_5 : decode cX11_signs 5 = .ok (.aload_n 0, 1) := by decide +kernel
theorem dX11_signs_6 : decode cX11_signs 6 = .ok (.iload_n 1, 1) := by decide +kernel
theorem dX11_signs_7 : decode cX11_signs 7 = .ok (.invokevirtual 468, 3) := by decide +kernel
theorem dX11_signs_10 : decode cX11_signs 10 = .ok (.ifCond .eq 13, 3) := by decide +kernel
theorem dX11_signs_13 : decode cX11_signs 13 = .ok (.aload_n 0, 1) := by decide +kernel
theorem dX11_signs_14 : decode cX11_signs 14 = .ok (.iload_n 1, 1) := by decide +kernel
theorem dX11_signs_15 : decode cX11_signs 15 = .ok (.bipush 9, 2) := by decide +kernel
theorem dX11_signs_17 : decode cX11_signs 17 = .ok (.invokevirtual 428, 3) := by decide +kernel
theorem dX11_signs_20 : decode cX11_signs 20 = .ok (.goto 4, 3) := by decide +kernel
theorem dX11_signs_23 : decode cX11_signs 23 = .ok (.iconst (-1), 1) := by decide +kernel
theorem dX11_signs_24 : decode cX11_signs 24 = .ok (.ireturn, 1) := by decide +kernel
theorem dX11_register_0 : decode cX11_register 0 = .ok (.aload_n 0, 1) := by decide +kernel
theorem dX11_register_1 : decode cX11_register 1 = .ok (.iconst 0, 1) := by decide +kernel
theorem dX11_register_2 : decode cX11_register 2 = .ok (.putfield 5, 3) := by decide +kernel
theorem dX11_register_5 : decode cX11_register 5 = .ok (.aload_n 0, 1) := by decide +kernel
theorem dX11_register_6 : decode cX11_register 6 = .ok (.getfield 260, 3) := by decide +kernel
theorem dX11_register_9 : decode cX11_register 9 = .ok (.ifCond .eq 19, 3) := by decide +kernel
theorem dX11_register_12 : decode cX11_register 12 = .ok (.iload_n 1, 1) := by decide +kernel
theorem dX11_register_13 : decode cX11_register 13 = .ok (.i2l, 1) := by decide +kernel
theorem dX11_register_14 : decode cX11_register 14 = .ok (.lconst 0, 1) := by decide +kernel
theorem dX11_register_15 : decode cX11_register 15 = .ok (.aload_n 0, 1) := by decide +kernel
theorem dX11_register_16 : decode cX11_register 16 = .ok (.getfield 171, 3) := by decide +kernel
theorem dX11_register_19 : decode cX11_register 19 = .ok (.iconst 0, 1) := by decide +kernel
theorem dX11_register_20 : decode cX11_register 20 = .ok (.iaload, 1) := by decide +kernel
theorem dX11_register_21 : decode cX11_register 21 = .ok (.i2l, 1) := by decide +kernel
theorem dX11_register_22 : decode cX11_register 22 = .ok (.invokestatic 65, 3) := by decide +kernel
theorem dX11_register_25 : decode cX11_register 25 = .ok (.ifCond .ne 5, 3) := by decide +kernel
theorem dX11_register_28 : decode cX11_register 28 = .ok (.iconst (-1), 1) := by decide +kernel
theorem dX11_register_29 : decode cX11_register 29 = .ok (.ireturn, 1) := by decide +kernel
theorem dX11_register_30 : decode cX11_register 30 = .ok (.iconst 0, 1) := by decide +kernel
theorem dX11_register_31 : decode cX11_register 31 = .ok (.istore_n 2, 1) := by decide +kernel
theorem dX11_register_32 : decode cX11_register 32 = .ok (.iload_n 2, 1) := by decide +kernel
theorem dX11_register_33 : decode cX11_register 33 = .ok (.aload_n 0, 1) := by decide +kernel
theorem dX11_register_34 : decode cX11_register 34 = .ok (.getfield 273, 3) := by decide +kernel
theorem dX11_register_37 : decode cX11_register 37 = .ok (.if_icmp .ge 31, 3) := by decide +kernel
theorem dX11_register_40 : decode cX11_register 40 = .ok (.aload_n 0, 1) := by decide +kernel
theorem dX11_register_41 : decode cX11_register 41 = .ok (.iload_n 2, 1) := by decide +kernel
theorem dX11_register_42 : decode cX11_register 42 = .ok (.iconst 4, 1) := by decide +kernel
theorem dX11_register_43 : decode cX11_register 43 = .ok (.invokevirtual 428, 3) := by decide +kernel
theorem dX11_register_46 : decode cX11_register 46 = .ok (.iconst 1, 1) := by decide +kernel
theorem dX11_register_47 : decode cX11_register 47 = .ok (.if_icmp .ne 15, 3) := by decide +kernel
theorem dX11_register_50 : decode cX11_register 50 = .ok (.aload_n 0, 1) := by decide +kernel
theorem dX11_register_51 : decode cX11_register 51 = .ok (.iload_n 2, 1) := by decide +kernel
theorem dX11_register_52 : decode cX11_register 52 = .ok (.iconst 5, 1) := by decide +kernel
theorem dX11_register_53 : decode cX11_register 53 = .ok (.invokevirtual 428, 3) := by decide +kernel
theorem dX11_register_56 : decode cX11_register 56 = .ok (.iload_n 1, 1) := by decide +kernel
theorem dX11_register_57 : decode cX11_register 57 = .ok (.if_icmp .ne 5, 3) := by decide +kernel
theorem dX11_register_60 : decode cX11_register 60 = .ok (.iload_n 2, 1) := by decide +kernel
theorem dX11_register_61 : decode cX11_register 61 = .ok (.ireturn, 1) := by decide +kernel
theorem dX11_register_62 : decode cX11_register 62 = .ok (.iinc 2 1, 3) := by decide +kernel
theorem dX11_register_65 : decode cX11_register 65 = .ok (.goto (-33), 3) := by decide +kernel
theorem dX11_register_68 : decode cX11_register 68 = .ok (.iconst (-1), 1) := by decide +kernel
theorem dX11_register_69 : decode cX11_register 69 = .ok (.ireturn, 1) := by decide +kernel
theorem dX11_place_0 : decode cX11_place 0 = .ok (.aload_n 0, 1) := by decide +kernel
theorem dX11_place_1 : decode cX11_place 1 = .ok (.iconst 0, 1) := by decide +kernel
theorem dX11_place_2 : decode cX11_place 2 = .ok (.putfield 5, 3) := by decide +kernel
theorem dX11_place_5 : decode cX11_place 5 = .ok (.aload_n 0, 1) := by decide +kernel
theorem dX11_place_6 : decode cX11_place 6 = .ok (.getfield 260, 3) := by decide +kernel
theorem dX11_place_9 : decode cX11_place 9 = .ok (.ifCond .eq 27, 3) := by decide +kernel
theorem dX11_place_12 : decode cX11_place 12 = .ok (.iload_n 1, 1) := by decide +kernel
theorem dX11_place_13 : decode cX11_place 13 = .ok (.i2l, 1) := by decide +kernel
theorem dX11_place_14 : decode cX11_place 14 = .ok (.lconst 0, 1) := by decide +kernel
theorem dX11_place_15 : decode cX11_place 15 = .ok (.aload_n 0, 1) := by decide +kernel
theorem dX11_place_16 : decode cX11_place 16 = .ok (.getfield 264, 3) := by decide +kernel
theorem dX11_place_19 : decode cX11_place 19 = .ok (.iconst 1, 1) := by decide +kernel
theorem dX11_place_20 : decode cX11_place 20 = .ok (.isub, 1) := by decide +kernel
theorem dX11_place_21 : decode cX11_place 21 = .ok (.i2l, 1) := by decide +kernel
theorem dX11_place_22 : decode cX11_place 22 = .ok (.invokestatic 65, 3) := by decide +kernel
theorem dX11_place_25 : decode cX11_place 25 = .ok (.ifCond .eq 11, 3) := by decide +kernel
theorem dX11_place_28 : decode cX11_place 28 = .ok (.aload_n 0, 1) := by decide +kernel
theorem dX11_place_29 : decode cX11_place 29 = .ok (.iload_n 1, 1) := by decide +kernel
theorem dX11_place_30 : decode cX11_place 30 = .ok (.invokevirtual 449, 3) := by decide +kernel
theorem dX11_place_33 : decode cX11_place 33 = .ok (.goto 4, 3) := by decide +kernel
theorem dX11_place_36 : decode cX11_place 36 = .ok (.iconst (-1), 1) := by decide +kernel
theorem dX11_place_37 : decode cX11_place 37 = .ok (.ireturn, 1) := by decide +kernel
theorem dX11_copies_0 : decode cX11_copies 0 = .ok (.iconst 0, 1) := by decide +kernel
theorem dX11_copies_1 : decode cX11_copies 1 = .ok (.istore_n 2, 1) := by decide +kernel
theorem dX11_copies_2 : decode cX11_copies 2 = .ok (.iload_n 2, 1) := by decide +kernel
theorem dX11_copies_3 : decode cX11_copies 3 = .ok (.aload_n 1, 1) := by decide +kernel
theorem dX11_copies_4 : decode cX11_copies 4 = .ok (.arraylength, 1) := by decide +kernel
theorem dX11_copies_5 : decode cX11_copies 5 = .ok (.if_icmp .ge 15, 3) := by decide +kernel
theorem dX11_copies_8 : decode cX11_copies 8 = .ok (.aload_n 1, 1) := by decide +kernel
theorem dX11_copies_9 : decode cX11_copies 9 = .ok (.iload_n 2, 1) := by decide +kernel
theorem dX11_copies_10 : decode cX11_copies 10 = .ok (.aload_n 0, 1) := by decide +kernel
theorem dX11_copies_11 : decode cX11_copies 11 = .ok (.iload_n 2, 1) := by decide +kernel
theorem dX11_copies_12 : decode cX11_copies 12 = .ok (.iaload, 1) := by decide +kernel
theorem dX11_copies_13 : decode cX11_copies 13 = .ok (.iastore, 1) := by decide +kernel
theorem dX11_copies_14 : decode cX11_copies 14 = .ok (.iinc 2 1, 3) := by decide +kernel
theorem dX11_copies_17 : decode cX11_copies 17 = .ok (.goto (-15), 3) := by decide +kernel
theorem dX11_copies_20 : decode cX11_copies 20 = .ok (.return_, 1) := by decide +kernel
theorem dX11_copies__0 : decode cX11_copies_ 0 = .ok (.iconst 0, 1) := by decide +kernel
theorem dX11_copies__1 : decode cX11_copies_ 1 = .ok (.istore_n 2, 1) := by decide +kernel
theorem dX11_copies__2 : decode cX11_copies_ 2 = .ok (.iload_n 2, 1) := by decide +kernel
theorem dX11_copies__3 : decode cX11_copies_ 3 = .ok (.aload_n 1, 1) := by decide +kernel
theorem dX11_copies__4 : decode cX11_copies_ 4 = .ok (.arraylength, 1) := by decide +kernel
theorem dX11_copies__5 : decode cX11_copies_ 5 = .ok (.if_icmp .ge 15, 3) := by decide +kernel
theorem dX11_copies__8 : decode cX11_copies_ 8 = .ok (.aload_n 1, 1) := by decide +kernel
theorem dX11_copies__9 : decode cX11_copies_ 9 = .ok (.iload_n 2, 1) := by decide +kernel
theorem dX11_copies__10 : decode cX11_copies_ 10 = .ok (.aload_n 0, 1) := by decide +kernel
theorem dX11_copies__11 : decode cX11_copies_ 11 = .ok (.iload_n 2, 1) := by decide +kernel
theorem dX11_copies__12 : decode cX11_copies_ 12 = .ok (.laload, 1) := by decide +kernel
theorem dX11_copies__13 : decode cX11_copies_ 13 = .ok (.lastore, 1) := by decide +kernel
theorem dX11_copies__14 : decode cX11_copies_ 14 = .ok (.iinc 2 1, 3) := by decide +kernel
theorem dX11_copies__17 : decode cX11_copies_ 17 = .ok (.goto (-15), 3) := by decide +kernel
theorem dX11_copies__20 : decode cX11_copies_ 20 = .ok (.return_, 1) := by decide +kernel
theorem dX11_allOver_0 : decode cX11_allOver 0 = .ok (.aload_n 0, 1) := by decide +kernel
theorem dX11_allOver_1 : decode cX11_allOver 1 = .ok (.iconst 0, 1) := by decide +kernel
theorem dX11_allOver_2 : decode cX11_allOver 2 = .ok (.putfield 5, 3) := by decide +kernel
theorem dX11_allOver_5 : decode cX11_allOver 5 = .ok (.aload_n 0, 1) := by decide +kernel
theorem dX11_allOver_6 : decode cX11_allOver 6 = .ok (.getfield 260, 3) := by decide +kernel
theorem dX11_allOver_9 : decode cX11_allOver 9 = .ok (.ifCond .ne 5, 3) := by decide +kernel
theorem dX11_allOver_12 : decode cX11_allOver 12 = .ok (.iconst (-1), 1) := by decide +kernel
theorem dX11_allOver_13 : decode cX11_allOver 13 = .ok (.ireturn, 1) := by decide +kernel
theorem dX11_allOver_14 : decode cX11_allOver 14 = .ok (.aload_n 0, 1) := by decide +kernel
theorem dX11_allOver_15 : decode cX11_allOver 15 = .ok (.getfield 226, 3) := by decide +kernel
theorem dX11_allOver_18 : decode cX11_allOver 18 = .ok (.aload_n 0, 1) := by decide +kernel
theorem dX11_allOver_19 : decode cX11_allOver 19 = .ok (.getfield 229, 3) := by decide +kernel
theorem dX11_allOver_22 : decode cX11_allOver 22 = .ok (.invokestatic 471, 3) := by decide +kernel
theorem dX11_allOver_25 : decode cX11_allOver 25 = .ok (.aload_n 0, 1) := by decide +kernel
theorem dX11_allOver_26 : decode cX11_allOver 26 = .ok (.getfield 232, 3) := by decide +kernel
theorem dX11_allOver_29 : decode cX11_allOver 29 = .ok (.aload_n 0, 1) := by decide +kernel
theorem dX11_allOver_30 : decode cX11_allOver 30 = .ok (.getfield 235, 3) := by decide +kernel
theorem dX11_allOver_33 : decode cX11_allOver 33 = .ok (.invokestatic 471, 3) := by decide +kernel
theorem dX11_allOver_36 : decode cX11_allOver 36 = .ok (.aload_n 0, 1) := by decide +kernel
theorem dX11_allOver_37 : decode cX11_allOver 37 = .ok (.getfield 238, 3) := by decide +kernel
theorem dX11_allOver_40 : decode cX11_allOver 40 = .ok (.aload_n 0, 1) := by decide +kernel
theorem dX11_allOver_41 : decode cX11_allOver 41 = .ok (.getfield 241, 3) := by decide +kernel
theorem dX11_allOver_44 : decode cX11_allOver 44 = .ok (.invokestatic 475, 3) := by decide +kernel
theorem dX11_allOver_47 : decode cX11_allOver 47 = .ok (.aload_n 0, 1) := by decide +kernel
theorem dX11_allOver_48 : decode cX11_allOver 48 = .ok (.getfield 267, 3) := by decide +kernel
theorem dX11_allOver_51 : decode cX11_allOver 51 = .ok (.istore_n 1, 1) := by decide +kernel
theorem dX11_allOver_52 : decode cX11_allOver 52 = .ok (.aload_n 0, 1) := by decide +kernel
theorem dX11_allOver_53 : decode cX11_allOver 53 = .ok (.getfield 270, 3) := by decide +kernel
theorem dX11_allOver_56 : decode cX11_allOver 56 = .ok (.istore_n 2, 1) := by decide +kernel
theorem dX11_allOver_57 : decode cX11_allOver 57 = .ok (.aload_n 0, 1) := by decide +kernel
theorem dX11_allOver_58 : decode cX11_allOver 58 = .ok (.iconst 0, 1) := by decide +kernel
theorem dX11_allOver_59 : decode cX11_allOver 59 = .ok (.putfield 270, 3) := by decide +kernel
theorem dX11_allOver_62 : decode cX11_allOver 62 = .ok (.iconst 0, 1) := by decide +kernel
theorem dX11_allOver_63 : decode cX11_allOver 63 = .ok (.istore_n 3, 1) := by decide +kernel
theorem dX11_allOver_64 : decode cX11_allOver 64 = .ok (.aload_n 0, 1) := by decide +kernel
theorem dX11_allOver_65 : decode cX11_allOver 65 = .ok (.iconst 0, 1) := by decide +kernel
theorem dX11_allOver_66 : decode cX11_allOver 66 = .ok (.invokevirtual 463, 3) := by decide +kernel
theorem dX11_allOver_69 : decode cX11_allOver 69 = .ok (.aload_n 0, 1) := by decide +kernel
theorem dX11_allOver_70 : decode cX11_allOver 70 = .ok (.iconst 1, 1) := by decide +kernel
theorem dX11_allOver_71 : decode cX11_allOver 71 = .ok (.invokevirtual 463, 3) := by decide +kernel
theorem dX11_allOver_74 : decode cX11_allOver 74 = .ok (.iadd, 1) := by decide +kernel
theorem dX11_allOver_75 : decode cX11_allOver 75 = .ok (.ifCond .le 15, 3) := by decide +kernel
theorem dX11_allOver_78 : decode cX11_allOver 78 = .ok (.aload_n 0, 1) := by decide +kernel
theorem dX11_allOver_79 : decode cX11_allOver 79 = .ok (.invokevirtual 460, 3) := by decide +kernel
theorem dX11_allOver_82 : decode cX11_allOver 82 = .ok (.istore 4, 2) := by decide +kernel
theorem dX11_allOver_84 : decode cX11_allOver 84 = .ok (.iinc 3 1, 3) := by decide +kernel
theorem dX11_allOver_87 : decode cX11_allOver 87 = .ok (.goto (-23), 3) := by decide +kernel
theorem dX11_allOver_90 : decode cX11_allOver 90 = .ok (.aload_n 0, 1) := by decide +kernel
theorem dX11_allOver_91 : decode cX11_allOver 91 = .ok (.iload_n 2, 1) := by decide +kernel
theorem dX11_allOver_92 : decode cX11_allOver 92 = .ok (.putfield 270, 3) := by decide +kernel
theorem dX11_allOver_95 : decode cX11_allOver 95 = .ok (.aload_n 0, 1) := by decide +kernel
theorem dX11_allOver_96 : decode cX11_allOver 96 = .ok (.iload_n 1, 1) := by decide +kernel
theorem dX11_allOver_97 : decode cX11_allOver 97 = .ok (.putfield 267, 3) := by decide +kernel
theorem dX11_allOver_100 : decode cX11_allOver 100 = .ok (.aload_n 0, 1) := by decide +kernel
theorem dX11_allOver_101 : decode cX11_allOver 101 = .ok (.getfield 229, 3) := by decide +kernel
theorem dX11_allOver_104 : decode cX11_allOver 104 = .ok (.aload_n 0, 1) := by decide +kernel
theorem dX11_allOver_105 : decode cX11_allOver 105 = .ok (.getfield 226, 3) := by decide +kernel
theorem dX11_allOver_108 : decode cX11_allOver 108 = .ok (.invokestatic 471, 3) := by decide +kernel
theorem dX11_allOver_111 : decode cX11_allOver 111 = .ok (.aload_n 0, 1) := by decide +kernel
theorem dX11_allOver_112 : decode cX11_allOver 112 = .ok (.getfield 235, 3) := by decide +kernel
theorem dX11_allOver_115 : decode cX11_allOver 115 = .ok (.aload_n 0, 1) := by decide +kernel
theorem dX11_allOver_116 : decode cX11_allOver 116 = .ok (.getfield 232, 3) := by decide +kernel
theorem dX11_allOver_119 : decode cX11_allOver 119 = .ok (.invokestatic 471, 3) := by decide +kernel
theorem dX11_allOver_122 : decode cX11_allOver 122 = .ok (.aload_n 0, 1) := by decide +kernel
theorem dX11_allOver_123 : decode cX11_allOver 123 = .ok (.getfield 241, 3) := by decide +kernel
theorem dX11_allOver_126 : decode cX11_allOver 126 = .ok (.aload_n 0, 1) := by decide +kernel
theorem dX11_allOver_127 : decode cX11_allOver 127 = .ok (.getfield 238, 3) := by decide +kernel
theorem dX11_allOver_130 : decode cX11_allOver 130 = .ok (.invokestatic 475, 3) := by decide +kernel
theorem dX11_allOver_133 : decode cX11_allOver 133 = .ok (.iload_n 3, 1) := by decide +kernel
theorem dX11_allOver_134 : decode cX11_allOver 134 = .ok (.ireturn, 1) := by decide +kernel
theorem dX11_image_0 : decode cX11_image 0 = .ok (.aload_n 0, 1) := by decide +kernel
theorem dX11_image_1 : decode cX11_image 1 = .ok (.iconst 0, 1) := by decide +kernel
theorem dX11_image_2 : decode cX11_image 2 = .ok (.putfield 5, 3) := by decide +kernel
theorem dX11_image_5 : decode cX11_image 5 = .ok (.aload_n 0, 1) := by decide +kernel
theorem dX11_image_6 : decode cX11_image 6 = .ok (.getfield 260, 3) := by decide +kernel
theorem dX11_image_9 : decode cX11_image 9 = .ok (.ifCond .ne 5, 3) := by decide +kernel
theorem dX11_image_12 : decode cX11_image 12 = .ok (.iconst (-1), 1) := by decide +kernel
theorem dX11_image_13 : decode cX11_image 13 = .ok (.ireturn, 1) := by decide +kernel
theorem dX11_image_14 : decode cX11_image 14 = .ok (.aload_n 0, 1) := by decide +kernel
theorem dX11_image_15 : decode cX11_image 15 = .ok (.getfield 226, 3) := by decide +kernel
theorem dX11_image_18 : decode cX11_image 18 = .ok (.aload_n 0, 1) := by decide +kernel
theorem dX11_image_19 : decode cX11_image 19 = .ok (.getfield 244, 3) := by decide +kernel
theorem dX11_image_22 : decode cX11_image 22 = .ok (.invokestatic 471, 3) := by decide +kernel
theorem dX11_image_25 : decode cX11_image 25 = .ok (.aload_n 0, 1) := by decide +kernel
theorem dX11_image_26 : decode cX11_image 26 = .ok (.getfield 232, 3) := by decide +kernel
theorem dX11_image_29 : decode cX11_image 29 = .ok (.aload_n 0, 1) := by decide +kernel
theorem dX11_image_30 : decode cX11_image 30 = .ok (.getfield 247, 3) := by decide +kernel
theorem dX11_image_33 : decode cX11_image 33 = .ok (.invokestatic 471, 3) := by decide +kernel
theorem dX11_image_36 : decode cX11_image 36 = .ok (.aload_n 0, 1) := by decide +kernel
theorem dX11_image_37 : decode cX11_image 37 = .ok (.getfield 238, 3) := by decide +kernel
theorem dX11_image_40 : decode cX11_image 40 = .ok (.aload_n 0, 1) := by decide +kernel
theorem dX11_image_41 : decode cX11_image 41 = .ok (.getfield 250, 3) := by decide +kernel
theorem dX11_image_44 : decode cX11_image 44 = .ok (.invokestatic 475, 3) := by decide +kernel
theorem dX11_image_47 : decode cX11_image 47 = .ok (.aload_n 0, 1) := by decide +kernel
theorem dX11_image_48 : decode cX11_image 48 = .ok (.aload_n 0, 1) := by decide +kernel
theorem dX11_image_49 : decode cX11_image 49 = .ok (.getfield 273, 3) := by decide +kernel
theorem dX11_image_52 : decode cX11_image 52 = .ok (.putfield 478, 3) := by decide +kernel
theorem dX11_image_55 : decode cX11_image 55 = .ok (.aload_n 0, 1) := by decide +kernel
theorem dX11_image_56 : decode cX11_image 56 = .ok (.aload_n 0, 1) := by decide +kernel
theorem dX11_image_57 : decode cX11_image 57 = .ok (.getfield 267, 3) := by decide +kernel
theorem dX11_image_60 : decode cX11_image 60 = .ok (.putfield 481, 3) := by decide +kernel
theorem dX11_image_63 : decode cX11_image 63 = .ok (.aload_n 0, 1) := by decide +kernel
theorem dX11_image_64 : decode cX11_image 64 = .ok (.aload_n 0, 1) := by decide +kernel
theorem dX11_image_65 : decode cX11_image 65 = .ok (.getfield 270, 3) := by decide +kernel
theorem dX11_image_68 : decode cX11_image 68 = .ok (.putfield 484, 3) := by decide +kernel
theorem dX11_image_71 : decode cX11_image 71 = .ok (.aload_n 0, 1) := by decide +kernel
theorem dX11_image_72 : decode cX11_image 72 = .ok (.iconst 1, 1) := by decide +kernel
theorem dX11_image_73 : decode cX11_image 73 = .ok (.putfield 276, 3) := by decide +kernel
theorem dX11_image_76 : decode cX11_image 76 = .ok (.aload_n 0, 1) := by decide +kernel
theorem dX11_image_77 : decode cX11_image 77 = .ok (.getfield 267, 3) := by decide +kernel
theorem dX11_image_80 : decode cX11_image 80 = .ok (.ireturn, 1) := by decide +kernel
theorem dX11_back_0 : decode cX11_back 0 = .ok (.aload_n 0, 1) := by decide +kernel
theorem dX11_back_1 : decode cX11_back 1 = .ok (.iconst 0, 1) := by decide +kernel
theorem dX11_back_2 : decode cX11_back 2 = .ok (.putfield 5, 3) := by decide +kernel
theorem dX11_back_5 : decode cX11_back 5 = .ok (.aload_n 0, 1) := by decide +kernel
theorem dX11_back_6 : decode cX11_back 6 = .ok (.getfield 276, 3) := by decide +kernel
theorem dX11_back_9 : decode cX11_back 9 = .ok (.ifCond .ne 5, 3) := by decide +kernel
theorem dX11_back_12 : decode cX11_back 12 = .ok (.iconst (-1), 1) := by decide +kernel
theorem dX11_back_13 : decode cX11_back 13 = .ok (.ireturn, 1) := by decide +kernel
theorem dX11_back_14 : decode cX11_back 14 = .ok (.aload_n 0, 1) := by decide +kernel
theorem dX11_back_15 : decode cX11_back 15 = .ok (.getfield 244, 3) := by decide +kernel
theorem dX11_back_18 : decode cX11_back 18 = .ok (.aload_n 0, 1) := by decide +kernel
theorem dX11_back_19 : decode cX11_back 19 = .ok (.getfield 226, 3) := by decide +kernel
theorem dX11_back_22 : decode cX11_back 22 = .ok (.invokestatic 471, 3) := by decide +kernel
theorem dX11_back_25 : decode cX11_back 25 = .ok (.aload_n 0, 1) := by decide +kernel
theorem dX11_back_26 : decode cX11_back 26 = .ok (.getfield 247, 3) := by decide +kernel
theorem dX11_back_29 : decode cX11_back 29 = .ok (.aload_n 0, 1) := by decide +kernel
theorem dX11_back_30 : decode cX11_back 30 = .ok (.getfield 232, 3) := by decide +kernel
theorem dX11_back_33 : decode cX11_back 33 = .ok (.invokestatic 471, 3) := by decide +kernel
theorem dX11_back_36 : decode cX11_back 36 = .ok (.aload_n 0, 1) := by decide +kernel
theorem dX11_back_37 : decode cX11_back 37 = .ok (.getfield 250, 3) := by decide +kernel
theorem dX11_back_40 : decode cX11_back 40 = .ok (.aload_n 0, 1) := by decide +kernel
theorem dX11_back_41 : decode cX11_back 41 = .ok (.getfield 238, 3) := by decide +kernel
theorem dX11_back_44 : decode cX11_back 44 = .ok (.invokestatic 475, 3) := by decide +kernel
theorem dX11_back_47 : decode cX11_back 47 = .ok (.aload_n 0, 1) := by decide +kernel
theorem dX11_back_48 : decode cX11_back 48 = .ok (.aload_n 0, 1) := by decide +kernel
theorem dX11_back_49 : decode cX11_back 49 = .ok (.getfield 478, 3) := by decide +kernel
theorem dX11_back_52 : decode cX11_back 52 = .ok (.putfield 273, 3) := by decide +kernel
theorem dX11_back_55 : decode cX11_back 55 = .ok (.aload_n 0, 1) := by decide +kernel
theorem dX11_back_56 : decode cX11_back 56 = .ok (.aload_n 0, 1) := by decide +kernel
theorem dX11_back_57 : decode cX11_back 57 = .ok (.getfield 481, 3) := by decide +kernel
theorem dX11_back_60 : decode cX11_back 60 = .ok (.putfield 267, 3) := by decide +kernel
theorem dX11_back_63 : decode cX11_back 63 = .ok (.aload_n 0, 1) := by decide +kernel
theorem dX11_back_64 : decode cX11_back 64 = .ok (.aload_n 0, 1) := by decide +kernel
theorem dX11_back_65 : decode cX11_back 65 = .ok (.getfield 484, 3) := by decide +kernel
theorem dX11_back_68 : decode cX11_back 68 = .ok (.putfield 270, 3) := by decide +kernel
theorem dX11_back_71 : decode cX11_back 71 = .ok (.aload_n 0, 1) := by decide +kernel
theorem dX11_back_72 : decode cX11_back 72 = .ok (.getfield 267, 3) := by decide +kernel
theorem dX11_back_75 : decode cX11_back 75 = .ok (.ireturn, 1) := by decide +kernel
theorem dX11_waits_0 : decode cX11_waits 0 = .ok (.aload_n 0, 1) := by decide +kernel
theorem dX11_waits_1 : decode cX11_waits 1 = .ok (.iconst 0, 1) := by decide +kernel
theorem dX11_waits_2 : decode cX11_waits 2 = .ok (.putfield 5, 3) := by decide +kernel
theorem dX11_waits_5 : decode cX11_waits 5 = .ok (.aload_n 0, 1) := by decide +kernel
theorem dX11_waits_6 : decode cX11_waits 6 = .ok (.getfield 260, 3) := by decide +kernel
theorem dX11_waits_9 : decode cX11_waits 9 = .ok (.ifCond .eq 8, 3) := by decide +kernel
theorem dX11_waits_12 : decode cX11_waits 12 = .ok (.iload_n 1, 1) := by decide +kernel
theorem dX11_waits_13 : decode cX11_waits 13 = .ok (.iconst (-1), 1) := by decide +kernel
theorem dX11_waits_14 : decode cX11_waits 14 = .ok (.if_icmp .ge 5, 3) := by decide +kernel
theorem dX11_waits_17 : decode cX11_waits 17 = .ok (.iconst (-1), 1) := by decide +kernel
theorem dX11_waits_18 : decode cX11_waits 18 = .ok (.ireturn, 1) := by decide +kernel
theorem dX11_waits_19 : decode cX11_waits 19 = .ok (.iload_n 1, 1) := by decide +kernel
theorem dX11_waits_20 : decode cX11_waits 20 = .ok (.iconst (-1), 1) := by decide +kernel
theorem dX11_waits_21 : decode cX11_waits 21 = .ok (.if_icmp .ne 9, 3) := by decide +kernel
theorem dX11_waits_24 : decode cX11_waits 24 = .ok (.aload_n 0, 1) := by decide +kernel
theorem dX11_waits_25 : decode cX11_waits 25 = .ok (.iconst 0, 1) := by decide +kernel
theorem dX11_waits_26 : decode cX11_waits 26 = .ok (.invokevirtual 463, 3) := by decide +kernel
theorem dX11_waits_29 : decode cX11_waits 29 = .ok (.ireturn, 1) := by decide +kernel
theorem dX11_waits_30 : decode cX11_waits 30 = .ok (.iconst 0, 1) := by decide +kernel
theorem dX11_waits_31 : decode cX11_waits 31 = .ok (.istore_n 2, 1) := by decide +kernel
theorem dX11_waits_32 : decode cX11_waits 32 = .ok (.iconst 0, 1) := by decide +kernel
theorem dX11_waits_33 : decode cX11_waits 33 = .ok (.istore_n 3, 1) := by decide +kernel
theorem dX11_waits_34 : decode cX11_waits 34 = .ok (.iload_n 3, 1) := by decide +kernel
theorem dX11_waits_35 : decode cX11_waits 35 = .ok (.aload_n 0, 1) := by decide +kernel
theorem dX11_waits_36 : decode cX11_waits 36 = .ok (.getfield 273, 3) := by decide +kernel
theorem dX11_waits_39 : decode cX11_waits 39 = .ok (.if_icmp .ge 31, 3) := by decide +kernel
theorem dX11_waits_42 : decode cX11_waits 42 = .ok (.aload_n 0, 1) := by decide +kernel
theorem dX11_waits_43 : decode cX11_waits 43 = .ok (.iload_n 3, 1) := by decide +kernel
theorem dX11_waits_44 : decode cX11_waits 44 = .ok (.iconst 4, 1) := by decide +kernel
theorem dX11_waits_45 : decode cX11_waits 45 = .ok (.invokevirtual 428, 3) := by decide +kernel
theorem dX11_waits_48 : decode cX11_waits 48 = .ok (.ifCond .eq 6, 3) := by decide +kernel
theorem dX11_waits_51 : decode cX11_waits 51 = .ok (.goto 13, 3) := by decide +kernel
theorem dX11_waits_54 : decode cX11_waits 54 = .ok (.iload_n 2, 1) := by decide +kernel
theorem dX11_waits_55 : decode cX11_waits 55 = .ok (.iload_n 1, 1) := by decide +kernel
theorem dX11_waits_56 : decode cX11_waits 56 = .ok (.if_icmp .ne 5, 3) := by decide +kernel
theorem dX11_waits_59 : decode cX11_waits 59 = .ok (.iload_n 3, 1) := by decide +kernel
theorem dX11_waits_60 : decode cX11_waits 60 = .ok (.ireturn, 1) := by decide +kernel
theorem dX11_waits_61 : decode cX11_waits 61 = .ok (.iinc 2 1, 3) := by decide +kernel
theorem dX11_waits_64 : decode cX11_waits 64 = .ok (.iinc 3 1, 3) := by decide +kernel
theorem dX11_waits_67 : decode cX11_waits 67 = .ok (.goto (-33), 3) := by decide +kernel
theorem dX11_waits_70 : decode cX11_waits 70 = .ok (.iconst (-1), 1) := by decide +kernel
theorem dX11_waits_71 : decode cX11_waits 71 = .ok (.ireturn, 1) := by decide +kernel
theorem dX11_status_0 : decode cX11_status 0 = .ok (.aload_n 0, 1) := by decide +kernel
theorem dX11_status_1 : decode cX11_status 1 = .ok (.iconst 0, 1) := by decide +kernel
theorem dX11_status_2 : decode cX11_status 2 = .ok (.putfield 5, 3) := by decide +kernel
theorem dX11_status_5 : decode cX11_status 5 = .ok (.iload_n 1, 1) := by decide +kernel
theorem dX11_status_6 : decode cX11_status 6 = .ok (.i2l, 1) := by decide +kernel
theorem dX11_status_7 : decode cX11_status 7 = .ok (.lconst 0, 1) := by decide +kernel
theorem dX11_status_8 : decode cX11_status 8 = .ok (.ldc2_w 206, 3) := by decide +kernel
theorem dX11_status_11 : decode cX11_status 11 = .ok (.invokestatic 65, 3) := by decide +kernel
theorem dX11_status_14 : decode cX11_status 14 = .ok (.ifCond .eq 12, 3) := by decide +kernel
theorem dX11_status_17 : decode cX11_status 17 = .ok (.aload_n 0, 1) := by decide +kernel
theorem dX11_status_18 : decode cX11_status 18 = .ok (.getfield 223, 3) := by decide +kernel
theorem dX11_status_21 : decode cX11_status 21 = .ok (.iload_n 1, 1) := by decide +kernel
theorem dX11_status_22 : decode cX11_status 22 = .ok (.iaload, 1) := by decide +kernel
theorem dX11_status_23 : decode cX11_status 23 = .ok (.goto 4, 3) := by decide +kernel
theorem dX11_status_26 : decode cX11_status 26 = .ok (.iconst (-1), 1) := by decide +kernel
theorem dX11_status_27 : decode cX11_status 27 = .ok (.ireturn, 1) := by decide +kernel
theorem dX11_most_0 : decode cX11_most 0 = .ok (.aload_n 0, 1) := by decide +kernel
theorem dX11_most_1 : decode cX11_most 1 = .ok (.iconst 0, 1) := by decide +kernel
theorem dX11_most_2 : decode cX11_most 2 = .ok (.putfield 5, 3) := by decide +kernel
theorem dX11_most_5 : decode cX11_most 5 = .ok (.aload_n 0, 1) := by decide +kernel
theorem dX11_most_6 : decode cX11_most 6 = .ok (.getfield 260, 3) := by decide +kernel
theorem dX11_most_9 : decode cX11_most 9 = .ok (.ifCond .eq 15, 3) := by decide +kernel
theorem dX11_most_12 : decode cX11_most 12 = .ok (.iload_n 1, 1) := by decide +kernel
theorem dX11_most_13 : decode cX11_most 13 = .ok (.i2l, 1) := by decide +kernel
theorem dX11_most_14 : decode cX11_most 14 = .ok (.lconst 0, 1) := by decide +kernel
theorem dX11_most_15 : decode cX11_most 15 = .ok (.ldc2_w 206, 3) := by decide +kernel
theorem dX11_most_18 : decode cX11_most 18 = .ok (.invokestatic 65, 3) := by decide +kernel
theorem dX11_most_21 : decode cX11_most 21 = .ok (.ifCond .ne 7, 3) := by decide +kernel
theorem dX11_most_24 : decode cX11_most 24 = .ok (.ldc2_w 368, 3) := by decide +kernel
theorem dX11_most_27 : decode cX11_most 27 = .ok (.lreturn, 1) := by decide +kernel
theorem dX11_most_28 : decode cX11_most 28 = .ok (.lconst 0, 1) := by decide +kernel
theorem dX11_most_29 : decode cX11_most 29 = .ok (.lstore_n 2, 1) := by decide +kernel
theorem dX11_most_30 : decode cX11_most 30 = .ok (.iconst 0, 1) := by decide +kernel
theorem dX11_most_31 : decode cX11_most 31 = .ok (.istore 4, 2) := by decide +kernel
theorem dX11_most_33 : decode cX11_most 33 = .ok (.iload 4, 2) := by decide +kernel
theorem dX11_most_35 : decode cX11_most 35 = .ok (.aload_n 0, 1) := by decide +kernel
theorem dX11_most_36 : decode cX11_most 36 = .ok (.getfield 273, 3) := by decide +kernel
theorem dX11_most_39 : decode cX11_most 39 = .ok (.if_icmp .ge 168, 3) := by decide +kernel
theorem dX11_most_42 : decode cX11_most 42 = .ok (.aload_n 0, 1) := by decide +kernel
theorem dX11_most_43 : decode cX11_most 43 = .ok (.iload 4, 2) := by decide +kernel
theorem dX11_most_45 : decode cX11_most 45 = .ok (.iconst 4, 1) := by decide +kernel
theorem dX11_most_46 : decode cX11_most 46 = .ok (.invokevirtual 428, 3) := by decide +kernel
theorem dX11_most_49 : decode cX11_most 49 = .ok (.iconst 2, 1) := by decide +kernel
theorem dX11_most_50 : decode cX11_most 50 = .ok (.if_icmp .eq 6, 3) := by decide +kernel
theorem dX11_most_53 : decode cX11_most 53 = .ok (.goto 148, 3) := by decide +kernel
theorem dX11_most_56 : decode cX11_most 56 = .ok (.bipush 75, 2) := by decide +kernel
theorem dX11_most_58 : decode cX11_most 58 = .ok (.iload 4, 2) := by decide +kernel
theorem dX11_most_60 : decode cX11_most 60 = .ok (.imul, 1) := by decide +kernel
theorem dX11_most_61 : decode cX11_most 61 = .ok (.iconst 3, 1) := by decide +kernel
theorem dX11_most_62 : decode cX11_most 62 = .ok (.aload_n 0, 1) := by decide +kernel
theorem dX11_most_63 : decode cX11_most 63 = .ok (.getfield 171, 3) := by decide +kernel
theorem dX11_most_66 : decode cX11_most 66 = .ok (.iconst 0, 1) := by decide +kernel
theorem dX11_most_67 : decode cX11_most 67 = .ok (.iaload, 1) := by decide +kernel
theorem dX11_most_68 : decode cX11_most 68 = .ok (.imul, 1) := by decide +kernel
theorem dX11_most_69 : decode cX11_most 69 = .ok (.iadd, 1) := by decide +kernel
theorem dX11_most_70 : decode cX11_most 70 = .ok (.istore 5, 2) := by decide +kernel
theorem dX11_most_72 : decode cX11_most 72 = .ok (.aload_n 0, 1) := by decide +kernel
theorem dX11_most_73 : decode cX11_most 73 = .ok (.iload 4, 2) := by decide +kernel
theorem dX11_most_75 : decode cX11_most 75 = .ok (.iconst 0, 1) := by decide +kernel
theorem dX11_most_76 : decode cX11_most 76 = .ok (.invokevirtual 428, 3) := by decide +kernel
theorem dX11_most_79 : decode cX11_most 79 = .ok (.invokestatic 365, 3) := by decide +kernel
theorem dX11_most_82 : decode cX11_most 82 = .ok (.istore 6, 2) := by decide +kernel
theorem dX11_most_84 : decode cX11_most 84 = .ok (.iload_n 1, 1) := by decide +kernel
theorem dX11_most_85 : decode cX11_most 85 = .ok (.ifCond .ne 25, 3) := by decide +kernel
theorem dX11_most_88 : decode cX11_most 88 = .ok (.iload 6, 2) := by decide +kernel
theorem dX11_most_90 : decode cX11_most 90 = .ok (.ifCond .eq 20, 3) := by decide +kernel
theorem dX11_most_93 : decode cX11_most 93 = .ok (.lload_n 2, 1) := by decide +kernel
theorem dX11_most_94 : decode cX11_most 94 = .ok (.aload_n 0, 1) := by decide +kernel
theorem dX11_most_95 : decode cX11_most 95 = .ok (.getfield 238, 3) := by decide +kernel
theorem dX11_most_98 : decode cX11_most 98 = .ok (.iload 5, 2) := by decide +kernel
theorem dX11_most_100 : decode cX11_most 100 = .ok (.iconst 2, 1) := by decide +kernel
theorem dX11_most_101 : decode cX11_most 101 = .ok (.iadd, 1) := by decide +kernel
theorem dX11_most_102 : decode cX11_most 102 = .ok (.laload, 1) := by decide +kernel
theorem dX11_most_103 : decode cX11_most 103 = .ok (.invokestatic 314, 3) := by decide +kernel
theorem dX11_most_106 : decode cX11_most 106 = .ok (.invokestatic 487, 3) := by decide +kernel
theorem dX11_most_109 : decode cX11_most 109 = .ok (.lstore_n 2, 1) := by decide +kernel
theorem dX11_most_110 : decode cX11_most 110 = .ok (.iload_n 1, 1) := by decide +kernel
theorem dX11_most_111 : decode cX11_most 111 = .ok (.iconst 1, 1) := by decide +kernel
theorem dX11_most_112 : decode cX11_most 112 = .ok (.if_icmp .ne 25, 3) := by decide +kernel
theorem dX11_most_115 : decode cX11_most 115 = .ok (.iload 6, 2) := by decide +kernel
theorem dX11_most_117 : decode cX11_most 117 = .ok (.ifCond .ne 20, 3) := by decide +kernel
theorem dX11_most_120 : decode cX11_most 120 = .ok (.lload_n 2, 1) := by decide +kernel
theorem dX11_most_121 : decode cX11_most 121 = .ok (.aload_n 0, 1) := by decide +kernel
theorem dX11_most_122 : decode cX11_most 122 = .ok (.getfield 238, 3) := by decide +kernel
theorem dX11_most_125 : decode cX11_most 125 = .ok (.iload 5, 2) := by decide +kernel
theorem dX11_most_127 : decode cX11_most 127 = .ok (.iconst 1, 1) := by decide +kernel
theorem dX11_most_128 : decode cX11_most 128 = .ok (.iadd, 1) := by decide +kernel
theorem dX11_most_129 : decode cX11_most 129 = .ok (.laload, 1) := by decide +kernel
theorem dX11_most_130 : decode cX11_most 130 = .ok (.invokestatic 314, 3) := by decide +kernel
theorem dX11_most_133 : decode cX11_most 133 = .ok (.invokestatic 487, 3) := by decide +kernel
theorem dX11_most_136 : decode cX11_most 136 = .ok (.lstore_n 2, 1) := by decide +kernel
theorem dX11_most_137 : decode cX11_most 137 = .ok (.iload_n 1, 1) := by decide +kernel
theorem dX11_most_138 : decode cX11_most 138 = .ok (.iconst 2, 1) := by decide +kernel
theorem dX11_most_139 : decode cX11_most 139 = .ok (.if_icmp .ne 26, 3) := by decide +kernel
theorem dX11_most_142 : decode cX11_most 142 = .ok (.lload_n 2, 1) := by decide +kernel
theorem dX11_most_143 : decode cX11_most 143 = .ok (.aload_n 0, 1) := by decide +kernel
theorem dX11_most_144 : decode cX11_most 144 = .ok (.iload 4, 2) := by decide +kernel
theorem dX11_most_146 : decode cX11_most 146 = .ok (.bipush 7, 2) := by decide +kernel
theorem dX11_most_148 : decode cX11_most 148 = .ok (.invokevirtual 428, 3) := by decide +kernel
theorem dX11_most_151 : decode cX11_most 151 = .ok (.aload_n 0, 1) := by decide +kernel
theorem dX11_most_152 : decode cX11_most 152 = .ok (.iload 4, 2) := by decide +kernel
theorem dX11_most_154 : decode cX11_most 154 = .ok (.bipush 13, 2) := by decide +kernel
theorem dX11_most_156 : decode cX11_most 156 = .ok (.invokevirtual 428, 3) := by decide +kernel
theorem dX11_most_159 : decode cX11_most 159 = .ok (.isub, 1) := by decide +kernel
theorem dX11_most_160 : decode cX11_most 160 = .ok (.i2l, 1) := by decide +kernel
theorem dX11_most_161 : decode cX11_most 161 = .ok (.invokestatic 487, 3) := by decide +kernel
theorem dX11_most_164 : decode cX11_most 164 = .ok (.lstore_n 2, 1) := by decide +kernel
theorem dX11_most_165 : decode cX11_most 165 = .ok (.iload_n 1, 1) := by decide +kernel
theorem dX11_most_166 : decode cX11_most 166 = .ok (.iconst 3, 1) := by decide +kernel
theorem dX11_most_167 : decode cX11_most 167 = .ok (.if_icmp .ne 34, 3) := by decide +kernel
theorem dX11_most_170 : decode cX11_most 170 = .ok (.lload_n 2, 1) := by decide +kernel
theorem dX11_most_171 : decode cX11_most 171 = .ok (.aload_n 0, 1) := by decide +kernel
theorem dX11_most_172 : decode cX11_most 172 = .ok (.getfield 171, 3) := by decide +kernel
theorem dX11_most_175 : decode cX11_most 175 = .ok (.iconst 0, 1) := by decide +kernel
theorem dX11_most_176 : decode cX11_most 176 = .ok (.iaload, 1) := by decide +kernel
theorem dX11_most_177 : decode cX11_most 177 = .ok (.getstatic 362, 3) := by decide +kernel
theorem dX11_most_180 : decode cX11_most 180 = .ok (.aload_n 0, 1) := by decide +kernel
theorem dX11_most_181 : decode cX11_most 181 = .ok (.iload 4, 2) := by decide +kernel
theorem dX11_most_183 : decode cX11_most 183 = .ok (.iconst 0, 1) := by decide +kernel
theorem dX11_most_184 : decode cX11_most 184 = .ok (.invokevirtual 428, 3) := by decide +kernel
theorem dX11_most_187 : decode cX11_most 187 = .ok (.iaload, 1) := by decide +kernel
theorem dX11_most_188 : decode cX11_most 188 = .ok (.iconst 1, 1) := by decide +kernel
theorem dX11_most_189 : decode cX11_most 189 = .ok (.if_icmp .ne 7, 3) := by decide +kernel
theorem dX11_most_192 : decode cX11_most 192 = .ok (.iconst 2, 1) := by decide +kernel
theorem dX11_most_193 : decode cX11_most 193 = .ok (.goto 4, 3) := by decide +kernel
theorem dX11_most_196 : decode cX11_most 196 = .ok (.iconst 3, 1) := by decide +kernel
theorem dX11_most_197 : decode cX11_most 197 = .ok (.imul, 1) := by decide +kernel
theorem dX11_most_198 : decode cX11_most 198 = .ok (.i2l, 1) := by decide +kernel
theorem dX11_most_199 : decode cX11_most 199 = .ok (.ladd, 1) := by decide +kernel
theorem dX11_most_200 : decode cX11_most 200 = .ok (.lstore_n 2, 1) := by decide +kernel
theorem dX11_most_201 : decode cX11_most 201 = .ok (.iinc 4 1, 3) := by decide +kernel
theorem dX11_most_204 : decode cX11_most 204 = .ok (.goto (-171), 3) := by decide +kernel
theorem dX11_most_207 : decode cX11_most 207 = .ok (.lload_n 2, 1) := by decide +kernel
theorem dX11_most_208 : decode cX11_most 208 = .ok (.lreturn, 1) := by decide +kernel
theorem dX11_count_0 : decode cX11_count 0 = .ok (.aload_n 0, 1) := by decide +kernel
theorem dX11_count_1 : decode cX11_count 1 = .ok (.iconst 0, 1) := by decide +kernel
theorem dX11_count_2 : decode cX11_count 2 = .ok (.putfield 5, 3) := by decide +kernel
theorem dX11_count_5 : decode cX11_count 5 = .ok (.iload_n 1, 1) := by decide +kernel
theorem dX11_count_6 : decode cX11_count 6 = .ok (.ifCond .ne 10, 3) := by decide +kernel
theorem dX11_count_9 : decode cX11_count 9 = .ok (.aload_n 0, 1) := by decide +kernel
theorem dX11_count_10 : decode cX11_count 10 = .ok (.getfield 13, 3) := by decide +kernel
theorem dX11_count_13 : decode cX11_count 13 = .ok (.goto 4, 3) := by decide +kernel
theorem dX11_count_16 : decode cX11_count 16 = .ok (.iconst (-1), 1) := by decide +kernel
theorem dX11_count_17 : decode cX11_count 17 = .ok (.ireturn, 1) := by decide +kernel
theorem dJx29ce0_ordinal_8abf5_0 : decode cJx29ce0_ordinal_8abf5 0 = .ok (.aload_n 0, 1) := by decide +kernel
theorem dJx29ce0_ordinal_8abf5_1 : decode cJx29ce0_ordinal_8abf5 1 = .ok (.getfield 7, 3) := by decide +kernel
theorem dJx29ce0_ordinal_8abf5_4 : decode cJx29ce0_ordinal_8abf5 4 = .ok (.ireturn, 1) := by decide +kernel
theorem dJ6_numberOfLeadingZeros_0f7a4_0 : decode cJ6_numberOfLeadingZeros_0f7a4 0 = .ok (.iload_n 0, 1) := by decide +kernel
theorem dJ6_numberOfLeadingZeros_0f7a4_1 : decode cJ6_numberOfLeadingZeros_0f7a4 1 = .ok (.ifCond .gt 14, 3) := by decide +kernel
theorem dJ6_numberOfLeadingZeros_0f7a4_4 : decode cJ6_numberOfLeadingZeros_0f7a4 4 = .ok (.iload_n 0, 1) := by decide +kernel
theorem dJ6_numberOfLeadingZeros_0f7a4_5 : decode cJ6_numberOfLeadingZeros_0f7a4 5 = .ok (.ifCond .ne 8, 3) := by decide +kernel
theorem dJ6_numberOfLeadingZeros_0f7a4_8 : decode cJ6_numberOfLeadingZeros_0f7a4 8 = .ok (.bipush 32, 2) := by decide +kernel
theorem dJ6_numberOfLeadingZeros_0f7a4_10 : decode cJ6_numberOfLeadingZeros_0f7a4 10 = .ok (.goto 4, 3) := by decide +kernel
theorem dJ6_numberOfLeadingZeros_0f7a4_13 : decode cJ6_numberOfLeadingZeros_0f7a4 13 = .ok (.iconst 0, 1) := by decide +kernel
theorem dJ6_numberOfLeadingZeros_0f7a4_14 : decode cJ6_numberOfLeadingZeros_0f7a4 14 = .ok (.ireturn, 1) := by decide +kernel
theorem dJ6_numberOfLeadingZeros_0f7a4_15 : decode cJ6_numberOfLeadingZeros_0f7a4 15 = .ok (.bipush 31, 2) := by decide +kernel
theorem dJ6_numberOfLeadingZeros_0f7a4_17 : decode cJ6_numberOfLeadingZeros_0f7a4 17 = .ok (.istore_n 1, 1) := by decide +kernel
theorem dJ6_numberOfLeadingZeros_0f7a4_18 : decode cJ6_numberOfLeadingZeros_0f7a4 18 = .ok (.iload_n 0, 1) := by decide +kernel
theorem dJ6_numberOfLeadingZeros_0f7a4_19 : decode cJ6_numberOfLeadingZeros_0f7a4 19 = .ok (.ldc_w 264, 3) := by decide +kernel
theorem dJ6_numberOfLeadingZeros_0f7a4_22 : decode cJ6_numberOfLeadingZeros_0f7a4 22 = .ok (.if_icmp .lt 11, 3) := by decide +kernel
theorem dJ6_numberOfLeadingZeros_0f7a4_25 : decode cJ6_numberOfLeadingZeros_0f7a4 25 = .ok (.iinc 1 (-16), 3) := by decide +kernel
theorem dJ6_numberOfLeadingZeros_0f7a4_28 : decode cJ6_numberOfLeadingZeros_0f7a4 28 = .ok (.iload_n 0, 1) := by decide +kernel
theorem dJ6_numberOfLeadingZeros_0f7a4_29 : decode cJ6_numberOfLeadingZeros_0f7a4 29 = .ok (.bipush 16, 2) := by decide +kernel
theorem dJ6_numberOfLeadingZeros_0f7a4_31 : decode cJ6_numberOfLeadingZeros_0f7a4 31 = .ok (.iushr, 1) := by decide +kernel
theorem dJ6_numberOfLeadingZeros_0f7a4_32 : decode cJ6_numberOfLeadingZeros_0f7a4 32 = .ok (.istore_n 0, 1) := by decide +kernel
theorem dJ6_numberOfLeadingZeros_0f7a4_33 : decode cJ6_numberOfLeadingZeros_0f7a4 33 = .ok (.iload_n 0, 1) := by decide +kernel
theorem dJ6_numberOfLeadingZeros_0f7a4_34 : decode cJ6_numberOfLeadingZeros_0f7a4 34 = .ok (.sipush 256, 3) := by decide +kernel
theorem dJ6_numberOfLeadingZeros_0f7a4_37 : decode cJ6_numberOfLeadingZeros_0f7a4 37 = .ok (.if_icmp .lt 11, 3) := by decide +kernel
theorem dJ6_numberOfLeadingZeros_0f7a4_40 : decode cJ6_numberOfLeadingZeros_0f7a4 40 = .ok (.iinc 1 (-8), 3) := by decide +kernel
theorem dJ6_numberOfLeadingZeros_0f7a4_43 : decode cJ6_numberOfLeadingZeros_0f7a4 43 = .ok (.iload_n 0, 1) := by decide +kernel
theorem dJ6_numberOfLeadingZeros_0f7a4_44 : decode cJ6_numberOfLeadingZeros_0f7a4 44 = .ok (.bipush 8, 2) := by decide +kernel
theorem dJ6_numberOfLeadingZeros_0f7a4_46 : decode cJ6_numberOfLeadingZeros_0f7a4 46 = .ok (.iushr, 1) := by decide +kernel
theorem dJ6_numberOfLeadingZeros_0f7a4_47 : decode cJ6_numberOfLeadingZeros_0f7a4 47 = .ok (.istore_n 0, 1) := by decide +kernel
theorem dJ6_numberOfLeadingZeros_0f7a4_48 : decode cJ6_numberOfLeadingZeros_0f7a4 48 = .ok (.iload_n 0, 1) := by decide +kernel
theorem dJ6_numberOfLeadingZeros_0f7a4_49 : decode cJ6_numberOfLeadingZeros_0f7a4 49 = .ok (.bipush 16, 2) := by decide +kernel
theorem dJ6_numberOfLeadingZeros_0f7a4_51 : decode cJ6_numberOfLeadingZeros_0f7a4 51 = .ok (.if_icmp .lt 10, 3) := by decide +kernel
theorem dJ6_numberOfLeadingZeros_0f7a4_54 : decode cJ6_numberOfLeadingZeros_0f7a4 54 = .ok (.iinc 1 (-4), 3) := by decide +kernel
theorem dJ6_numberOfLeadingZeros_0f7a4_57 : decode cJ6_numberOfLeadingZeros_0f7a4 57 = .ok (.iload_n 0, 1) := by decide +kernel
theorem dJ6_numberOfLeadingZeros_0f7a4_58 : decode cJ6_numberOfLeadingZeros_0f7a4 58 = .ok (.iconst 4, 1) := by decide +kernel
theorem dJ6_numberOfLeadingZeros_0f7a4_59 : decode cJ6_numberOfLeadingZeros_0f7a4 59 = .ok (.iushr, 1) := by decide +kernel
theorem dJ6_numberOfLeadingZeros_0f7a4_60 : decode cJ6_numberOfLeadingZeros_0f7a4 60 = .ok (.istore_n 0, 1) := by decide +kernel
theorem dJ6_numberOfLeadingZeros_0f7a4_61 : decode cJ6_numberOfLeadingZeros_0f7a4 61 = .ok (.iload_n 0, 1) := by decide +kernel
theorem dJ6_numberOfLeadingZeros_0f7a4_62 : decode cJ6_numberOfLeadingZeros_0f7a4 62 = .ok (.iconst 4, 1) := by decide +kernel
theorem dJ6_numberOfLeadingZeros_0f7a4_63 : decode cJ6_numberOfLeadingZeros_0f7a4 63 = .ok (.if_icmp .lt 10, 3) := by decide +kernel
theorem dJ6_numberOfLeadingZeros_0f7a4_66 : decode cJ6_numberOfLeadingZeros_0f7a4 66 = .ok (.iinc 1 (-2), 3) := by decide +kernel
theorem dJ6_numberOfLeadingZeros_0f7a4_69 : decode cJ6_numberOfLeadingZeros_0f7a4 69 = .ok (.iload_n 0, 1) := by decide +kernel
theorem dJ6_numberOfLeadingZeros_0f7a4_70 : decode cJ6_numberOfLeadingZeros_0f7a4 70 = .ok (.iconst 2, 1) := by decide +kernel
theorem dJ6_numberOfLeadingZeros_0f7a4_71 : decode cJ6_numberOfLeadingZeros_0f7a4 71 = .ok (.iushr, 1) := by decide +kernel
theorem dJ6_numberOfLeadingZeros_0f7a4_72 : decode cJ6_numberOfLeadingZeros_0f7a4 72 = .ok (.istore_n 0, 1) := by decide +kernel
theorem dJ6_numberOfLeadingZeros_0f7a4_73 : decode cJ6_numberOfLeadingZeros_0f7a4 73 = .ok (.iload_n 1, 1) := by decide +kernel
theorem dJ6_numberOfLeadingZeros_0f7a4_74 : decode cJ6_numberOfLeadingZeros_0f7a4 74 = .ok (.iload_n 0, 1) := by decide +kernel
theorem dJ6_numberOfLeadingZeros_0f7a4_75 : decode cJ6_numberOfLeadingZeros_0f7a4 75 = .ok (.iconst 1, 1) := by decide +kernel
theorem dJ6_numberOfLeadingZeros_0f7a4_76 : decode cJ6_numberOfLeadingZeros_0f7a4 76 = .ok (.iushr, 1) := by decide +kernel
theorem dJ6_numberOfLeadingZeros_0f7a4_77 : decode cJ6_numberOfLeadingZeros_0f7a4 77 = .ok (.isub, 1) := by decide +kernel
theorem dJ6_numberOfLeadingZeros_0f7a4_78 : decode cJ6_numberOfLeadingZeros_0f7a4 78 = .ok (.ireturn, 1) := by decide +kernel
theorem dJ13_numberOfLeadingZeros_95d88_0 : decode cJ13_numberOfLeadingZeros_95d88 0 = .ok (.lload_n 0, 1) := by decide +kernel
theorem dJ13_numberOfLeadingZeros_95d88_1 : decode cJ13_numberOfLeadingZeros_95d88 1 = .ok (.bipush 32, 2) := by decide +kernel
theorem dJ13_numberOfLeadingZeros_95d88_3 : decode cJ13_numberOfLeadingZeros_95d88 3 = .ok (.lushr, 1) := by decide +kernel
theorem dJ13_numberOfLeadingZeros_95d88_4 : decode cJ13_numberOfLeadingZeros_95d88 4 = .ok (.l2i, 1) := by decide +kernel
theorem dJ13_numberOfLeadingZeros_95d88_5 : decode cJ13_numberOfLeadingZeros_95d88 5 = .ok (.istore_n 2, 1) := by decide +kernel
theorem dJ13_numberOfLeadingZeros_95d88_6 : decode cJ13_numberOfLeadingZeros_95d88 6 = .ok (.iload_n 2, 1) := by decide +kernel
theorem dJ13_numberOfLeadingZeros_95d88_7 : decode cJ13_numberOfLeadingZeros_95d88 7 = .ok (.ifCond .ne 14, 3) := by decide +kernel
theorem dJ13_numberOfLeadingZeros_95d88_10 : decode cJ13_numberOfLeadingZeros_95d88 10 = .ok (.bipush 32, 2) := by decide +kernel
theorem dJ13_numberOfLeadingZeros_95d88_12 : decode cJ13_numberOfLeadingZeros_95d88 12 = .ok (.lload_n 0, 1) := by decide +kernel
theorem dJ13_numberOfLeadingZeros_95d88_13 : decode cJ13_numberOfLeadingZeros_95d88 13 = .ok (.l2i, 1) := by decide +kernel
theorem dJ13_numberOfLeadingZeros_95d88_14 : decode cJ13_numberOfLeadingZeros_95d88 14 = .ok (.invokestatic 308, 3) := by decide +kernel
theorem dJ13_numberOfLeadingZeros_95d88_17 : decode cJ13_numberOfLeadingZeros_95d88 17 = .ok (.iadd, 1) := by decide +kernel
theorem dJ13_numberOfLeadingZeros_95d88_18 : decode cJ13_numberOfLeadingZeros_95d88 18 = .ok (.goto 7, 3) := by decide +kernel
theorem dJ13_numberOfLeadingZeros_95d88_21 : decode cJ13_numberOfLeadingZeros_95d88 21 = .ok (.iload_n 2, 1) := by decide +kernel
theorem dJ13_numberOfLeadingZeros_95d88_22 : decode cJ13_numberOfLeadingZeros_95d88 22 = .ok (.invokestatic 308, 3) := by decide +kernel
theorem dJ13_numberOfLeadingZeros_95d88_25 : decode cJ13_numberOfLeadingZeros_95d88 25 = .ok (.ireturn, 1) := by decide +kernel
theorem dJ9_floorDiv_7cf53_0 : decode cJ9_floorDiv_7cf53 0 = .ok (.iload_n 0, 1) := by decide +kernel
theorem dJ9_floorDiv_7cf53_1 : decode cJ9_floorDiv_7cf53 1 = .ok (.iload_n 1, 1) := by decide +kernel
theorem dJ9_floorDiv_7cf53_2 : decode cJ9_floorDiv_7cf53 2 = .ok (.idiv, 1) := by decide +kernel
theorem dJ9_floorDiv_7cf53_3 : decode cJ9_floorDiv_7cf53 3 = .ok (.istore_n 2, 1) := by decide +kernel
theorem dJ9_floorDiv_7cf53_4 : decode cJ9_floorDiv_7cf53 4 = .ok (.iload_n 0, 1) := by decide +kernel
theorem dJ9_floorDiv_7cf53_5 : decode cJ9_floorDiv_7cf53 5 = .ok (.iload_n 1, 1) := by decide +kernel
theorem dJ9_floorDiv_7cf53_6 : decode cJ9_floorDiv_7cf53 6 = .ok (.ixor, 1) := by decide +kernel
theorem dJ9_floorDiv_7cf53_7 : decode cJ9_floorDiv_7cf53 7 = .ok (.ifCond .ge 14, 3) := by decide +kernel
theorem dJ9_floorDiv_7cf53_10 : decode cJ9_floorDiv_7cf53 10 = .ok (.iload_n 2, 1) := by decide +kernel
theorem dJ9_floorDiv_7cf53_11 : decode cJ9_floorDiv_7cf53 11 = .ok (.iload_n 1, 1) := by decide +kernel
theorem dJ9_floorDiv_7cf53_12 : decode cJ9_floorDiv_7cf53 12 = .ok (.imul, 1) := by decide +kernel
theorem dJ9_floorDiv_7cf53_13 : decode cJ9_floorDiv_7cf53 13 = .ok (.iload_n 0, 1) := by decide +kernel
theorem dJ9_floorDiv_7cf53_14 : decode cJ9_floorDiv_7cf53 14 = .ok (.if_icmp .eq 7, 3) := by decide +kernel
theorem dJ9_floorDiv_7cf53_17 : decode cJ9_floorDiv_7cf53 17 = .ok (.iload_n 2, 1) := by decide +kernel
theorem dJ9_floorDiv_7cf53_18 : decode cJ9_floorDiv_7cf53 18 = .ok (.iconst 1, 1) := by decide +kernel
theorem dJ9_floorDiv_7cf53_19 : decode cJ9_floorDiv_7cf53 19 = .ok (.isub, 1) := by decide +kernel
theorem dJ9_floorDiv_7cf53_20 : decode cJ9_floorDiv_7cf53 20 = .ok (.ireturn, 1) := by decide +kernel
theorem dJ9_floorDiv_7cf53_21 : decode cJ9_floorDiv_7cf53 21 = .ok (.iload_n 2, 1) := by decide +kernel
theorem dJ9_floorDiv_7cf53_22 : decode cJ9_floorDiv_7cf53 22 = .ok (.ireturn, 1) := by decide +kernel
theorem dJ9_floorDiv_f86c9_0 : decode cJ9_floorDiv_f86c9 0 = .ok (.lload_n 0, 1) := by decide +kernel
theorem dJ9_floorDiv_f86c9_1 : decode cJ9_floorDiv_f86c9 1 = .ok (.lload_n 2, 1) := by decide +kernel
theorem dJ9_floorDiv_f86c9_2 : decode cJ9_floorDiv_f86c9 2 = .ok (.ldiv, 1) := by decide +kernel
theorem dJ9_floorDiv_f86c9_3 : decode cJ9_floorDiv_f86c9 3 = .ok (.lstore 4, 2) := by decide +kernel
theorem dJ9_floorDiv_f86c9_5 : decode cJ9_floorDiv_f86c9 5 = .ok (.lload_n 0, 1) := by decide +kernel
theorem dJ9_floorDiv_f86c9_6 : decode cJ9_floorDiv_f86c9 6 = .ok (.lload_n 2, 1) := by decide +kernel
theorem dJ9_floorDiv_f86c9_7 : decode cJ9_floorDiv_f86c9 7 = .ok (.lxor, 1) := by decide +kernel
theorem dJ9_floorDiv_f86c9_8 : decode cJ9_floorDiv_f86c9 8 = .ok (.lconst 0, 1) := by decide +kernel
theorem dJ9_floorDiv_f86c9_9 : decode cJ9_floorDiv_f86c9 9 = .ok (.lcmp, 1) := by decide +kernel
theorem dJ9_floorDiv_f86c9_10 : decode cJ9_floorDiv_f86c9 10 = .ok (.ifCond .ge 17, 3) := by decide +kernel
theorem dJ9_floorDiv_f86c9_13 : decode cJ9_floorDiv_f86c9 13 = .ok (.lload 4, 2) := by decide +kernel
theorem dJ9_floorDiv_f86c9_15 : decode cJ9_floorDiv_f86c9 15 = .ok (.lload_n 2, 1) := by decide +kernel
theorem dJ9_floorDiv_f86c9_16 : decode cJ9_floorDiv_f86c9 16 = .ok (.lmul, 1) := by decide +kernel
theorem dJ9_floorDiv_f86c9_17 : decode cJ9_floorDiv_f86c9 17 = .ok (.lload_n 0, 1) := by decide +kernel
theorem dJ9_floorDiv_f86c9_18 : decode cJ9_floorDiv_f86c9 18 = .ok (.lcmp, 1) := by decide +kernel
theorem dJ9_floorDiv_f86c9_19 : decode cJ9_floorDiv_f86c9 19 = .ok (.ifCond .eq 8, 3) := by decide +kernel
theorem dJ9_floorDiv_f86c9_22 : decode cJ9_floorDiv_f86c9 22 = .ok (.lload 4, 2) := by decide +kernel
theorem dJ9_floorDiv_f86c9_24 : decode cJ9_floorDiv_f86c9 24 = .ok (.lconst 1, 1) := by decide +kernel
theorem dJ9_floorDiv_f86c9_25 : decode cJ9_floorDiv_f86c9 25 = .ok (.lsub, 1) := by decide +kernel
theorem dJ9_floorDiv_f86c9_26 : decode cJ9_floorDiv_f86c9 26 = .ok (.lreturn, 1) := by decide +kernel
theorem dJ9_floorDiv_f86c9_27 : decode cJ9_floorDiv_f86c9 27 = .ok (.lload 4, 2) := by decide +kernel
theorem dJ9_floorDiv_f86c9_29 : decode cJ9_floorDiv_f86c9 29 = .ok (.lreturn, 1) := by decide +kernel
theorem dJ9_abs_067f4_0 : decode cJ9_abs_067f4 0 = .ok (.lload_n 0, 1) := by decide +kernel
theorem dJ9_abs_067f4_1 : decode cJ9_abs_067f4 1 = .ok (.lconst 0, 1) := by decide +kernel
theorem dJ9_abs_067f4_2 : decode cJ9_abs_067f4 2 = .ok (.lcmp, 1) := by decide +kernel
theorem dJ9_abs_067f4_3 : decode cJ9_abs_067f4 3 = .ok (.ifCond .ge 8, 3) := by decide +kernel
theorem dJ9_abs_067f4_6 : decode cJ9_abs_067f4 6 = .ok (.lload_n 0, 1) := by decide +kernel
theorem dJ9_abs_067f4_7 : decode cJ9_abs_067f4 7 = .ok (.lneg, 1) := by decide +kernel
theorem dJ9_abs_067f4_8 : decode cJ9_abs_067f4 8 = .ok (.goto 4, 3) := by decide +kernel
theorem dJ9_abs_067f4_11 : decode cJ9_abs_067f4 11 = .ok (.lload_n 0, 1) := by decide +kernel
theorem dJ9_abs_067f4_12 : decode cJ9_abs_067f4 12 = .ok (.lreturn, 1) := by decide +kernel
theorem dJ9_max_f86c9_0 : decode cJ9_max_f86c9 0 = .ok (.lload_n 0, 1) := by decide +kernel
theorem dJ9_max_f86c9_1 : decode cJ9_max_f86c9 1 = .ok (.lload_n 2, 1) := by decide +kernel
theorem dJ9_max_f86c9_2 : decode cJ9_max_f86c9 2 = .ok (.lcmp, 1) := by decide +kernel
theorem dJ9_max_f86c9_3 : decode cJ9_max_f86c9 3 = .ok (.ifCond .lt 7, 3) := by decide +kernel
theorem dJ9_max_f86c9_6 : decode cJ9_max_f86c9 6 = .ok (.lload_n 0, 1) := by decide +kernel
theorem dJ9_max_f86c9_7 : decode cJ9_max_f86c9 7 = .ok (.goto 4, 3) := by decide +kernel
theorem dJ9_max_f86c9_10 : decode cJ9_max_f86c9 10 = .ok (.lload_n 2, 1) := by decide +kernel
theorem dJ9_max_f86c9_11 : decode cJ9_max_f86c9 11 = .ok (.lreturn, 1) := by decide +kernel
theorem dJ0_length_8abf5_0 : decode cJ0_length_8abf5 0 = .ok (.aload_n 0, 1) := by decide +kernel
theorem dJ0_length_8abf5_1 : decode cJ0_length_8abf5 1 = .ok (.getfield 9, 3) := by decide +kernel
theorem dJ0_length_8abf5_4 : decode cJ0_length_8abf5 4 = .ok (.arraylength, 1) := by decide +kernel
theorem dJ0_length_8abf5_5 : decode cJ0_length_8abf5 5 = .ok (.aload_n 0, 1) := by decide +kernel
theorem dJ0_length_8abf5_6 : decode cJ0_length_8abf5 6 = .ok (.invokevirtual 335, 3) := by decide +kernel
theorem dJ0_length_8abf5_9 : decode cJ0_length_8abf5 9 = .ok (.ishr, 1) := by decide +kernel
theorem dJ0_length_8abf5_10 : decode cJ0_length_8abf5 10 = .ok (.ireturn, 1) := by decide +kernel
theorem dJ0_charAt_5068e_0 : decode cJ0_charAt_5068e 0 = .ok (.aload_n 0, 1) := by decide +kernel
theorem dJ0_charAt_5068e_1 : decode cJ0_charAt_5068e 1 = .ok (.invokevirtual 492, 3) := by decide +kernel
theorem dJ0_charAt_5068e_4 : decode cJ0_charAt_5068e 4 = .ok (.ifCond .eq 12, 3) := by decide +kernel
theorem dJ0_charAt_5068e_7 : decode cJ0_charAt_5068e 7 = .ok (.aload_n 0, 1) := by decide +kernel
theorem dJ0_charAt_5068e_8 : decode cJ0_charAt_5068e 8 = .ok (.getfield 9, 3) := by decide +kernel
theorem dJ0_charAt_5068e_11 : decode cJ0_charAt_5068e 11 = .ok (.iload_n 1, 1) := by decide +kernel
theorem dJ0_charAt_5068e_12 : decode cJ0_charAt_5068e 12 = .ok (.invokestatic 495, 3) := by decide +kernel
theorem dJ0_charAt_5068e_15 : decode cJ0_charAt_5068e 15 = .ok (.ireturn, 1) := by decide +kernel
theorem dJ0_charAt_5068e_16 : decode cJ0_charAt_5068e 16 = .ok (.aload_n 0, 1) := by decide +kernel
theorem dJ0_charAt_5068e_17 : decode cJ0_charAt_5068e 17 = .ok (.getfield 9, 3) := by decide +kernel
theorem dJ0_charAt_5068e_20 : decode cJ0_charAt_5068e 20 = .ok (.iload_n 1, 1) := by decide +kernel
theorem dJ0_charAt_5068e_21 : decode cJ0_charAt_5068e 21 = .ok (.invokestatic 498, 3) := by decide +kernel
theorem dJ0_charAt_5068e_24 : decode cJ0_charAt_5068e 24 = .ok (.ireturn, 1) := by decide +kernel
theorem dJ0_coder_7d493_0 : decode cJ0_coder_7d493 0 = .ok (.getstatic 38, 3) := by decide +kernel
theorem dJ0_coder_7d493_3 : decode cJ0_coder_7d493 3 = .ok (.ifCond .eq 10, 3) := by decide +kernel
theorem dJ0_coder_7d493_6 : decode cJ0_coder_7d493 6 = .ok (.aload_n 0, 1) := by decide +kernel
theorem dJ0_coder_7d493_7 : decode cJ0_coder_7d493 7 = .ok (.getfield 15, 3) := by decide +kernel
theorem dJ0_coder_7d493_10 : decode cJ0_coder_7d493 10 = .ok (.goto 4, 3) := by decide +kernel
theorem dJ0_coder_7d493_13 : decode cJ0_coder_7d493 13 = .ok (.iconst 1, 1) := by decide +kernel
theorem dJ0_coder_7d493_14 : decode cJ0_coder_7d493 14 = .ok (.ireturn, 1) := by decide +kernel
theorem dJ0_isLatin1_aae02_0 : decode cJ0_isLatin1_aae02 0 = .ok (.getstatic 38, 3) := by decide +kernel
theorem dJ0_isLatin1_aae02_3 : decode cJ0_isLatin1_aae02 3 = .ok (.ifCond .eq 14, 3) := by decide +kernel
theorem dJ0_isLatin1_aae02_6 : decode cJ0_isLatin1_aae02 6 = .ok (.aload_n 0, 1) := by decide +kernel
theorem dJ0_isLatin1_aae02_7 : decode cJ0_isLatin1_aae02 7 = .ok (.getfield 15, 3) := by decide +kernel
theorem dJ0_isLatin1_aae02_10 : decode cJ0_isLatin1_aae02 10 = .ok (.ifCond .ne 7, 3) := by decide +kernel
theorem dJ0_isLatin1_aae02_13 : decode cJ0_isLatin1_aae02 13 = .ok (.iconst 1, 1) := by decide +kernel
theorem dJ0_isLatin1_aae02_14 : decode cJ0_isLatin1_aae02 14 = .ok (.goto 4, 3) := by decide +kernel
theorem dJ0_isLatin1_aae02_17 : decode cJ0_isLatin1_aae02 17 = .ok (.iconst 0, 1) := by decide +kernel
theorem dJ0_isLatin1_aae02_18 : decode cJ0_isLatin1_aae02 18 = .ok (.ireturn, 1) := by decide +kernel
theorem dJ0_checkIndex_df160_0 : decode cJ0_checkIndex_df160 0 = .ok (.iload_n 0, 1) := by decide +kernel
theorem dJ0_checkIndex_df160_1 : decode cJ0_checkIndex_df160 1 = .ok (.iload_n 1, 1) := by decide +kernel
theorem dJ0_checkIndex_df160_2 : decode cJ0_checkIndex_df160 2 = .ok (.getstatic 1053, 3) := by decide +kernel
theorem dJ0_checkIndex_df160_5 : decode cJ0_checkIndex_df160 5 = .ok (.invokestatic 1059, 3) := by decide +kernel
theorem dJ0_checkIndex_df160_8 : decode cJ0_checkIndex_df160 8 = .ok (.pop, 1) := by decide +kernel
theorem dJ0_checkIndex_df160_9 : decode cJ0_checkIndex_df160 9 = .ok (.return_, 1) := by decide +kernel
theorem dJ1_charAt_3b067_0 : decode cJ1_charAt_3b067 0 = .ok (.iload_n 1, 1) := by decide +kernel
theorem dJ1_charAt_3b067_1 : decode cJ1_charAt_3b067 1 = .ok (.aload_n 0, 1) := by decide +kernel
theorem dJ1_charAt_3b067_2 : decode cJ1_charAt_3b067 2 = .ok (.arraylength, 1) := by decide +kernel
theorem dJ1_charAt_3b067_3 : decode cJ1_charAt_3b067 3 = .ok (.invokestatic 9, 3) := by decide +kernel
theorem dJ1_charAt_3b067_6 : decode cJ1_charAt_3b067 6 = .ok (.aload_n 0, 1) := by decide +kernel
theorem dJ1_charAt_3b067_7 : decode cJ1_charAt_3b067 7 = .ok (.iload_n 1, 1) := by decide +kernel
theorem dJ1_charAt_3b067_8 : decode cJ1_charAt_3b067 8 = .ok (.baload, 1) := by decide +kernel
theorem dJ1_charAt_3b067_9 : decode cJ1_charAt_3b067 9 = .ok (.sipush 255, 3) := by decide +kernel
theorem dJ1_charAt_3b067_12 : decode cJ1_charAt_3b067 12 = .ok (.iand, 1) := by decide +kernel
theorem dJ1_charAt_3b067_13 : decode cJ1_charAt_3b067 13 = .ok (.i2c, 1) := by decide +kernel
theorem dJ1_charAt_3b067_14 : decode cJ1_charAt_3b067 14 = .ok (.ireturn, 1) := by decide +kernel
theorem dJ2_getChar_3b067_0 : decode cJ2_getChar_3b067 0 = .ok (.getstatic 44, 3) := by decide +kernel
theorem dJ2_getChar_3b067_3 : decode cJ2_getChar_3b067 3 = .ok (.ifCond .ne 25, 3) := by decide +kernel
theorem dJ2_getChar_3b067_6 : decode cJ2_getChar_3b067 6 = .ok (.iload_n 1, 1) := by decide +kernel
theorem dJ2_getChar_3b067_7 : decode cJ2_getChar_3b067 7 = .ok (.ifCond .lt 11, 3) := by decide +kernel
theorem dJ2_getChar_3b067_10 : decode cJ2_getChar_3b067 10 = .ok (.iload_n 1, 1) := by decide +kernel
theorem dJ2_getChar_3b067_11 : decode cJ2_getChar_3b067 11 = .ok (.aload_n 0, 1) := by decide +kernel
theorem dJ2_getChar_3b067_12 : decode cJ2_getChar_3b067 12 = .ok (.invokestatic 48, 3) := by decide +kernel
theorem dJ2_getChar_3b067_15 : decode cJ2_getChar_3b067 15 = .ok (.if_icmp .lt 13, 3) := by decide +kernel
theorem dJ2_getChar_3b067_18 : decode cJ2_getChar_3b067 18 = .ok (.new 52, 3) := by decide +kernel
theorem dJ2_getChar_3b067_21 : decode cJ2_getChar_3b067 21 = .ok (.dup, 1) := by decide +kernel
theorem dJ2_getChar_3b067_22 : decode cJ2_getChar_3b067 22 = .ok (.ldc 54, 2) := by decide +kernel
theorem dJ2_getChar_3b067_24 : decode cJ2_getChar_3b067 24 = .ok (.invokespecial 56, 3) := by decide +kernel
theorem dJ2_getChar_3b067_27 : decode cJ2_getChar_3b067 27 = .ok (.athrow, 1) := by decide +kernel
theorem dJ2_getChar_3b067_28 : decode cJ2_getChar_3b067 28 = .ok (.iload_n 1, 1) := by decide +kernel
theorem dJ2_getChar_3b067_29 : decode cJ2_getChar_3b067 29 = .ok (.iconst 1, 1) := by decide +kernel
theorem dJ2_getChar_3b067_30 : decode cJ2_getChar_3b067 30 = .ok (.ishl, 1) := by decide +kernel
theorem dJ2_getChar_3b067_31 : decode cJ2_getChar_3b067 31 = .ok (.istore_n 1, 1) := by decide +kernel
theorem dJ2_getChar_3b067_32 : decode cJ2_getChar_3b067 32 = .ok (.aload_n 0, 1) := by decide +kernel
theorem dJ2_getChar_3b067_33 : decode cJ2_getChar_3b067 33 = .ok (.iload_n 1, 1) := by decide +kernel
theorem dJ2_getChar_3b067_34 : decode cJ2_getChar_3b067 34 = .ok (.iinc 1 1, 3) := by decide +kernel
theorem dJ2_getChar_3b067_37 : decode cJ2_getChar_3b067 37 = .ok (.baload, 1) := by decide +kernel
theorem dJ2_getChar_3b067_38 : decode cJ2_getChar_3b067 38 = .ok (.sipush 255, 3) := by decide +kernel
theorem dJ2_getChar_3b067_41 : decode cJ2_getChar_3b067 41 = .ok (.iand, 1) := by decide +kernel
theorem dJ2_getChar_3b067_42 : decode cJ2_getChar_3b067 42 = .ok (.getstatic 59, 3) := by decide +kernel
theorem dJ2_getChar_3b067_45 : decode cJ2_getChar_3b067 45 = .ok (.ishl, 1) := by decide +kernel
theorem dJ2_getChar_3b067_46 : decode cJ2_getChar_3b067 46 = .ok (.aload_n 0, 1) := by decide +kernel
theorem dJ2_getChar_3b067_47 : decode cJ2_getChar_3b067 47 = .ok (.iload_n 1, 1) := by decide +kernel
theorem dJ2_getChar_3b067_48 : decode cJ2_getChar_3b067 48 = .ok (.baload, 1) := by decide +kernel
theorem dJ2_getChar_3b067_49 : decode cJ2_getChar_3b067 49 = .ok (.sipush 255, 3) := by decide +kernel
theorem dJ2_getChar_3b067_52 : decode cJ2_getChar_3b067 52 = .ok (.iand, 1) := by decide +kernel
theorem dJ2_getChar_3b067_53 : decode cJ2_getChar_3b067 53 = .ok (.getstatic 63, 3) := by decide +kernel
theorem dJ2_getChar_3b067_56 : decode cJ2_getChar_3b067 56 = .ok (.ishl, 1) := by decide +kernel
theorem dJ2_getChar_3b067_57 : decode cJ2_getChar_3b067 57 = .ok (.ior, 1) := by decide +kernel
theorem dJ2_getChar_3b067_58 : decode cJ2_getChar_3b067 58 = .ok (.i2c, 1) := by decide +kernel
theorem dJ2_getChar_3b067_59 : decode cJ2_getChar_3b067 59 = .ok (.ireturn, 1) := by decide +kernel
theorem dJ2_length_9d52b_0 : decode cJ2_length_9d52b 0 = .ok (.aload_n 0, 1) := by decide +kernel
theorem dJ2_length_9d52b_1 : decode cJ2_length_9d52b 1 = .ok (.arraylength, 1) := by decide +kernel
theorem dJ2_length_9d52b_2 : decode cJ2_length_9d52b 2 = .ok (.iconst 1, 1) := by decide +kernel
theorem dJ2_length_9d52b_3 : decode cJ2_length_9d52b 3 = .ok (.ishr, 1) := by decide +kernel
theorem dJ2_length_9d52b_4 : decode cJ2_length_9d52b 4 = .ok (.ireturn, 1) := by decide +kernel
theorem dJ2_charAt_3b067_0 : decode cJ2_charAt_3b067 0 = .ok (.iload_n 1, 1) := by decide +kernel
theorem dJ2_charAt_3b067_1 : decode cJ2_charAt_3b067 1 = .ok (.aload_n 0, 1) := by decide +kernel
theorem dJ2_charAt_3b067_2 : decode cJ2_charAt_3b067 2 = .ok (.invokestatic 67, 3) := by decide +kernel
theorem dJ2_charAt_3b067_5 : decode cJ2_charAt_3b067 5 = .ok (.aload_n 0, 1) := by decide +kernel
theorem dJ2_charAt_3b067_6 : decode cJ2_charAt_3b067 6 = .ok (.iload_n 1, 1) := by decide +kernel
theorem dJ2_charAt_3b067_7 : decode cJ2_charAt_3b067 7 = .ok (.invokestatic 71, 3) := by decide +kernel
theorem dJ2_charAt_3b067_10 : decode cJ2_charAt_3b067 10 = .ok (.ireturn, 1) := by decide +kernel
theorem dJ2_checkIndex_2214a_0 : decode cJ2_checkIndex_2214a 0 = .ok (.iload_n 0, 1) := by decide +kernel
