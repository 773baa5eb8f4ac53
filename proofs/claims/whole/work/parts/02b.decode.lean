theorem d_M_actionOf_22 : decode b_M_actionOf 22 = .ok (.ifCond .lt 48, 3) := by decide +kernel
theorem d_M_actionOf_25 : decode b_M_actionOf 25 = .ok (.aload_n 0, 1) := by decide +kernel
theorem d_M_actionOf_26 : decode b_M_actionOf 26 = .ok (.getfield 36, 3) := by decide +kernel
theorem d_M_actionOf_29 : decode b_M_actionOf 29 = .ok (.iconst 4, 1) := by decide +kernel
theorem d_M_actionOf_30 : decode b_M_actionOf 30 = .ok (.iload_n 1, 1) := by decide +kernel
theorem d_M_actionOf_31 : decode b_M_actionOf 31 = .ok (.imul, 1) := by decide +kernel
theorem d_M_actionOf_32 : decode b_M_actionOf 32 = .ok (.iload 5, 2) := by decide +kernel
theorem d_M_actionOf_34 : decode b_M_actionOf 34 = .ok (.iadd, 1) := by decide +kernel
theorem d_M_actionOf_35 : decode b_M_actionOf 35 = .ok (.iaload, 1) := by decide +kernel
theorem d_M_actionOf_36 : decode b_M_actionOf 36 = .ok (.istore 6, 2) := by decide +kernel
theorem d_M_actionOf_38 : decode b_M_actionOf 38 = .ok (.aload_n 0, 1) := by decide +kernel
theorem d_M_actionOf_39 : decode b_M_actionOf 39 = .ok (.iload_n 1, 1) := by decide +kernel
theorem d_M_actionOf_40 : decode b_M_actionOf 40 = .ok (.iload 6, 2) := by decide +kernel
theorem d_M_actionOf_42 : decode b_M_actionOf 42 = .ok (.iload_n 2, 1) := by decide +kernel
theorem d_M_actionOf_43 : decode b_M_actionOf 43 = .ok (.invokevirtual 159, 3) := by decide +kernel
theorem d_M_actionOf_46 : decode b_M_actionOf 46 = .ok (.iload_n 3, 1) := by decide +kernel
theorem d_M_actionOf_47 : decode b_M_actionOf 47 = .ok (.if_icmp .ne 13, 3) := by decide +kernel
theorem d_M_actionOf_50 : decode b_M_actionOf 50 = .ok (.aload_n 0, 1) := by decide +kernel
theorem d_M_actionOf_51 : decode b_M_actionOf 51 = .ok (.getfield 17, 3) := by decide +kernel
theorem d_M_actionOf_54 : decode b_M_actionOf 54 = .ok (.iload 6, 2) := by decide +kernel
theorem d_M_actionOf_56 : decode b_M_actionOf 56 = .ok (.iaload, 1) := by decide +kernel
theorem d_M_actionOf_57 : decode b_M_actionOf 57 = .ok (.goto 5, 3) := by decide +kernel
theorem d_M_actionOf_60 : decode b_M_actionOf 60 = .ok (.iload 4, 2) := by decide +kernel
theorem d_M_actionOf_62 : decode b_M_actionOf 62 = .ok (.istore 4, 2) := by decide +kernel
theorem d_M_actionOf_64 : decode b_M_actionOf 64 = .ok (.iinc 5 (-1), 3) := by decide +kernel
theorem d_M_actionOf_67 : decode b_M_actionOf 67 = .ok (.goto (-47), 3) := by decide +kernel
theorem d_M_actionOf_70 : decode b_M_actionOf 70 = .ok (.iload 4, 2) := by decide +kernel
theorem d_M_actionOf_72 : decode b_M_actionOf 72 = .ok (.ireturn, 1) := by decide +kernel
theorem d_M_against_0 : decode b_M_against 0 = .ok (.aload_n 0, 1) := by decide +kernel
theorem d_M_against_1 : decode b_M_against 1 = .ok (.getfield 54, 3) := by decide +kernel
theorem d_M_against_4 : decode b_M_against 4 = .ok (.iload_n 1, 1) := by decide +kernel
theorem d_M_against_5 : decode b_M_against 5 = .ok (.iaload, 1) := by decide +kernel
theorem d_M_against_6 : decode b_M_against 6 = .ok (.ifCond .lt 5, 3) := by decide +kernel
theorem d_M_against_9 : decode b_M_against 9 = .ok (.iconst 1, 1) := by decide +kernel
theorem d_M_against_10 : decode b_M_against 10 = .ok (.ireturn, 1) := by decide +kernel
theorem d_M_against_11 : decode b_M_against 11 = .ok (.aload_n 0, 1) := by decide +kernel
theorem d_M_against_12 : decode b_M_against 12 = .ok (.getfield 176, 3) := by decide +kernel
theorem d_M_against_15 : decode b_M_against 15 = .ok (.ifCond .le 24, 3) := by decide +kernel
theorem d_M_against_18 : decode b_M_against 18 = .ok (.aload_n 0, 1) := by decide +kernel
theorem d_M_against_19 : decode b_M_against 19 = .ok (.getfield 57, 3) := by decide +kernel
theorem d_M_against_22 : decode b_M_against 22 = .ok (.aload_n 0, 1) := by decide +kernel
theorem d_M_against_23 : decode b_M_against 23 = .ok (.getfield 60, 3) := by decide +kernel
theorem d_M_against_26 : decode b_M_against 26 = .ok (.aload_n 0, 1) := by decide +kernel
theorem d_M_against_27 : decode b_M_against 27 = .ok (.getfield 176, 3) := by decide +kernel
theorem d_M_against_30 : decode b_M_against 30 = .ok (.iconst 1, 1) := by decide +kernel
theorem d_M_against_31 : decode b_M_against 31 = .ok (.isub, 1) := by decide +kernel
theorem d_M_against_32 : decode b_M_against 32 = .ok (.iaload, 1) := by decide +kernel
theorem d_M_against_33 : decode b_M_against 33 = .ok (.iaload, 1) := by decide +kernel
theorem d_M_against_34 : decode b_M_against 34 = .ok (.ifCond .ge 5, 3) := by decide +kernel
theorem d_M_against_37 : decode b_M_against 37 = .ok (.iconst 2, 1) := by decide +kernel
theorem d_M_against_38 : decode b_M_against 38 = .ok (.ireturn, 1) := by decide +kernel
theorem d_M_against_39 : decode b_M_against 39 = .ok (.aload_n 0, 1) := by decide +kernel
theorem d_M_against_40 : decode b_M_against 40 = .ok (.iload_n 1, 1) := by decide +kernel
theorem d_M_against_41 : decode b_M_against 41 = .ok (.invokevirtual 156, 3) := by decide +kernel
theorem d_M_against_44 : decode b_M_against 44 = .ok (.ifCond .eq 5, 3) := by decide +kernel
theorem d_M_against_47 : decode b_M_against 47 = .ok (.iconst 3, 1) := by decide +kernel
theorem d_M_against_48 : decode b_M_against 48 = .ok (.ireturn, 1) := by decide +kernel
theorem d_M_against_49 : decode b_M_against 49 = .ok (.aload_n 0, 1) := by decide +kernel
theorem d_M_against_50 : decode b_M_against 50 = .ok (.iload_n 1, 1) := by decide +kernel
theorem d_M_against_51 : decode b_M_against 51 = .ok (.iload_n 3, 1) := by decide +kernel
theorem d_M_against_52 : decode b_M_against 52 = .ok (.invokevirtual 169, 3) := by decide +kernel
theorem d_M_against_55 : decode b_M_against 55 = .ok (.ifCond .ne 5, 3) := by decide +kernel
theorem d_M_against_58 : decode b_M_against 58 = .ok (.iconst 4, 1) := by decide +kernel
theorem d_M_against_59 : decode b_M_against 59 = .ok (.ireturn, 1) := by decide +kernel
theorem d_M_against_60 : decode b_M_against 60 = .ok (.aload_n 0, 1) := by decide +kernel
theorem d_M_against_61 : decode b_M_against 61 = .ok (.iload_n 1, 1) := by decide +kernel
theorem d_M_against_62 : decode b_M_against 62 = .ok (.iload_n 3, 1) := by decide +kernel
theorem d_M_against_63 : decode b_M_against 63 = .ok (.invokevirtual 179, 3) := by decide +kernel
theorem d_M_against_66 : decode b_M_against 66 = .ok (.ifCond .eq 5, 3) := by decide +kernel
theorem d_M_against_69 : decode b_M_against 69 = .ok (.iconst 5, 1) := by decide +kernel
theorem d_M_against_70 : decode b_M_against 70 = .ok (.ireturn, 1) := by decide +kernel
theorem d_M_against_71 : decode b_M_against 71 = .ok (.aload_n 0, 1) := by decide +kernel
theorem d_M_against_72 : decode b_M_against 72 = .ok (.getfield 48, 3) := by decide +kernel
theorem d_M_against_75 : decode b_M_against 75 = .ok (.iload_n 1, 1) := by decide +kernel
theorem d_M_against_76 : decode b_M_against 76 = .ok (.iaload, 1) := by decide +kernel
theorem d_M_against_77 : decode b_M_against 77 = .ok (.iconst 2, 1) := by decide +kernel
theorem d_M_against_78 : decode b_M_against 78 = .ok (.if_icmp .ge 6, 3) := by decide +kernel
theorem d_M_against_81 : decode b_M_against 81 = .ok (.bipush 6, 2) := by decide +kernel
theorem d_M_against_83 : decode b_M_against 83 = .ok (.ireturn, 1) := by decide +kernel
theorem d_M_against_84 : decode b_M_against 84 = .ok (.aload_n 0, 1) := by decide +kernel
theorem d_M_against_85 : decode b_M_against 85 = .ok (.iload_n 1, 1) := by decide +kernel
theorem d_M_against_86 : decode b_M_against 86 = .ok (.iload_n 3, 1) := by decide +kernel
theorem d_M_against_87 : decode b_M_against 87 = .ok (.invokevirtual 173, 3) := by decide +kernel
theorem d_M_against_90 : decode b_M_against 90 = .ok (.iload_n 2, 1) := by decide +kernel
theorem d_M_against_91 : decode b_M_against 91 = .ok (.if_icmp .ne 7, 3) := by decide +kernel
theorem d_M_against_94 : decode b_M_against 94 = .ok (.iconst 0, 1) := by decide +kernel
theorem d_M_against_95 : decode b_M_against 95 = .ok (.goto 5, 3) := by decide +kernel
theorem d_M_against_98 : decode b_M_against 98 = .ok (.bipush 7, 2) := by decide +kernel
theorem d_M_against_100 : decode b_M_against 100 = .ok (.ireturn, 1) := by decide +kernel
theorem d_M_approve_0 : decode b_M_approve 0 = .ok (.aload_n 0, 1) := by decide +kernel
theorem d_M_approve_1 : decode b_M_approve 1 = .ok (.iconst 0, 1) := by decide +kernel
theorem d_M_approve_2 : decode b_M_approve 2 = .ok (.putfield 72, 3) := by decide +kernel
theorem d_M_approve_5 : decode b_M_approve 5 = .ok (.iload_n 1, 1) := by decide +kernel
theorem d_M_approve_6 : decode b_M_approve 6 = .ok (.invokestatic 149, 3) := by decide +kernel
theorem d_M_approve_9 : decode b_M_approve 9 = .ok (.ifCond .ne 5, 3) := by decide +kernel
theorem d_M_approve_12 : decode b_M_approve 12 = .ok (.iconst (-1), 1) := by decide +kernel
theorem d_M_approve_13 : decode b_M_approve 13 = .ok (.ireturn, 1) := by decide +kernel
theorem d_M_approve_14 : decode b_M_approve 14 = .ok (.iload_n 2, 1) := by decide +kernel
theorem d_M_approve_15 : decode b_M_approve 15 = .ok (.iconst 0, 1) := by decide +kernel
theorem d_M_approve_16 : decode b_M_approve 16 = .ok (.bipush 99, 2) := by decide +kernel
theorem d_M_approve_18 : decode b_M_approve 18 = .ok (.invokestatic 76, 3) := by decide +kernel
theorem d_M_approve_21 : decode b_M_approve 21 = .ok (.ifCond .ne 6, 3) := by decide +kernel
theorem d_M_approve_24 : decode b_M_approve 24 = .ok (.bipush (-2), 2) := by decide +kernel
theorem d_M_approve_26 : decode b_M_approve 26 = .ok (.ireturn, 1) := by decide +kernel
theorem d_M_approve_27 : decode b_M_approve 27 = .ok (.aload_n 0, 1) := by decide +kernel
theorem d_M_approve_28 : decode b_M_approve 28 = .ok (.getfield 54, 3) := by decide +kernel
theorem d_M_approve_31 : decode b_M_approve 31 = .ok (.iload_n 1, 1) := by decide +kernel
theorem d_M_approve_32 : decode b_M_approve 32 = .ok (.iaload, 1) := by decide +kernel
theorem d_M_approve_33 : decode b_M_approve 33 = .ok (.ifCond .ge 33, 3) := by decide +kernel
theorem d_M_approve_36 : decode b_M_approve 36 = .ok (.aload_n 0, 1) := by decide +kernel
theorem d_M_approve_37 : decode b_M_approve 37 = .ok (.getfield 48, 3) := by decide +kernel
theorem d_M_approve_40 : decode b_M_approve 40 = .ok (.iload_n 1, 1) := by decide +kernel
theorem d_M_approve_41 : decode b_M_approve 41 = .ok (.iaload, 1) := by decide +kernel
theorem d_M_approve_42 : decode b_M_approve 42 = .ok (.iconst 2, 1) := by decide +kernel
theorem d_M_approve_43 : decode b_M_approve 43 = .ok (.if_icmp .eq 23, 3) := by decide +kernel
theorem d_M_approve_46 : decode b_M_approve 46 = .ok (.aload_n 0, 1) := by decide +kernel
theorem d_M_approve_47 : decode b_M_approve 47 = .ok (.getfield 48, 3) := by decide +kernel
theorem d_M_approve_50 : decode b_M_approve 50 = .ok (.iload_n 1, 1) := by decide +kernel
theorem d_M_approve_51 : decode b_M_approve 51 = .ok (.iaload, 1) := by decide +kernel
theorem d_M_approve_52 : decode b_M_approve 52 = .ok (.iconst 1, 1) := by decide +kernel
theorem d_M_approve_53 : decode b_M_approve 53 = .ok (.if_icmp .ne 16, 3) := by decide +kernel
theorem d_M_approve_56 : decode b_M_approve 56 = .ok (.aload_n 0, 1) := by decide +kernel
theorem d_M_approve_57 : decode b_M_approve 57 = .ok (.getfield 51, 3) := by decide +kernel
theorem d_M_approve_60 : decode b_M_approve 60 = .ok (.iload_n 1, 1) := by decide +kernel
theorem d_M_approve_61 : decode b_M_approve 61 = .ok (.iaload, 1) := by decide +kernel
theorem d_M_approve_62 : decode b_M_approve 62 = .ok (.iload_n 2, 1) := by decide +kernel
theorem d_M_approve_63 : decode b_M_approve 63 = .ok (.if_icmp .ne 6, 3) := by decide +kernel
theorem d_M_approve_66 : decode b_M_approve 66 = .ok (.bipush (-3), 2) := by decide +kernel
theorem d_M_approve_68 : decode b_M_approve 68 = .ok (.ireturn, 1) := by decide +kernel
theorem d_M_approve_69 : decode b_M_approve 69 = .ok (.aload_n 0, 1) := by decide +kernel
theorem d_M_approve_70 : decode b_M_approve 70 = .ok (.getfield 51, 3) := by decide +kernel
theorem d_M_approve_73 : decode b_M_approve 73 = .ok (.iload_n 1, 1) := by decide +kernel
theorem d_M_approve_74 : decode b_M_approve 74 = .ok (.iload_n 2, 1) := by decide +kernel
theorem d_M_approve_75 : decode b_M_approve 75 = .ok (.iastore, 1) := by decide +kernel
theorem d_M_approve_76 : decode b_M_approve 76 = .ok (.aload_n 0, 1) := by decide +kernel
theorem d_M_approve_77 : decode b_M_approve 77 = .ok (.getfield 48, 3) := by decide +kernel
theorem d_M_approve_80 : decode b_M_approve 80 = .ok (.iload_n 1, 1) := by decide +kernel
theorem d_M_approve_81 : decode b_M_approve 81 = .ok (.dup2, 1) := by decide +kernel
theorem d_M_approve_82 : decode b_M_approve 82 = .ok (.iaload, 1) := by decide +kernel
theorem d_M_approve_83 : decode b_M_approve 83 = .ok (.iconst 1, 1) := by decide +kernel
theorem d_M_approve_84 : decode b_M_approve 84 = .ok (.iadd, 1) := by decide +kernel
theorem d_M_approve_85 : decode b_M_approve 85 = .ok (.iastore, 1) := by decide +kernel
theorem d_M_approve_86 : decode b_M_approve 86 = .ok (.aload_n 0, 1) := by decide +kernel
theorem d_M_approve_87 : decode b_M_approve 87 = .ok (.getfield 48, 3) := by decide +kernel
theorem d_M_approve_90 : decode b_M_approve 90 = .ok (.iload_n 1, 1) := by decide +kernel
theorem d_M_approve_91 : decode b_M_approve 91 = .ok (.iaload, 1) := by decide +kernel
theorem d_M_approve_92 : decode b_M_approve 92 = .ok (.ireturn, 1) := by decide +kernel
theorem d_M_at_0 : decode b_M_at 0 = .ok (.aload_n 0, 1) := by decide +kernel
theorem d_M_at_1 : decode b_M_at 1 = .ok (.iload_n 1, 1) := by decide +kernel
theorem d_M_at_2 : decode b_M_at 2 = .ok (.iconst 0, 1) := by decide +kernel
theorem d_M_at_3 : decode b_M_at 3 = .ok (.aload_n 0, 1) := by decide +kernel
theorem d_M_at_4 : decode b_M_at 4 = .ok (.getfield 166, 3) := by decide +kernel
theorem d_M_at_7 : decode b_M_at 7 = .ok (.iconst 1, 1) := by decide +kernel
theorem d_M_at_8 : decode b_M_at 8 = .ok (.isub, 1) := by decide +kernel
theorem d_M_at_9 : decode b_M_at 9 = .ok (.invokestatic 76, 3) := by decide +kernel
theorem d_M_at_12 : decode b_M_at 12 = .ok (.ifCond .eq 12, 3) := by decide +kernel
theorem d_M_at_15 : decode b_M_at 15 = .ok (.iload_n 2, 1) := by decide +kernel
theorem d_M_at_16 : decode b_M_at 16 = .ok (.iconst 0, 1) := by decide +kernel
theorem d_M_at_17 : decode b_M_at 17 = .ok (.iconst 2, 1) := by decide +kernel
theorem d_M_at_18 : decode b_M_at 18 = .ok (.invokestatic 76, 3) := by decide +kernel
theorem d_M_at_21 : decode b_M_at 21 = .ok (.ifCond .ne 7, 3) := by decide +kernel
theorem d_M_at_24 : decode b_M_at 24 = .ok (.iconst 1, 1) := by decide +kernel
theorem d_M_at_25 : decode b_M_at 25 = .ok (.goto 4, 3) := by decide +kernel
theorem d_M_at_28 : decode b_M_at 28 = .ok (.iconst 0, 1) := by decide +kernel
theorem d_M_at_29 : decode b_M_at 29 = .ok (.putfield 72, 3) := by decide +kernel
theorem d_M_at_32 : decode b_M_at 32 = .ok (.aload_n 0, 1) := by decide +kernel
theorem d_M_at_33 : decode b_M_at 33 = .ok (.getfield 72, 3) := by decide +kernel
theorem d_M_at_36 : decode b_M_at 36 = .ok (.ifCond .le 5, 3) := by decide +kernel
theorem d_M_at_39 : decode b_M_at 39 = .ok (.iconst 0, 1) := by decide +kernel
theorem d_M_at_40 : decode b_M_at 40 = .ok (.ireturn, 1) := by decide +kernel
theorem d_M_at_41 : decode b_M_at 41 = .ok (.iload_n 2, 1) := by decide +kernel
theorem d_M_at_42 : decode b_M_at 42 = .ok (.ifCond .ne 12, 3) := by decide +kernel
theorem d_M_at_45 : decode b_M_at 45 = .ok (.aload_n 0, 1) := by decide +kernel
theorem d_M_at_46 : decode b_M_at 46 = .ok (.getfield 63, 3) := by decide +kernel
theorem d_M_at_49 : decode b_M_at 49 = .ok (.iload_n 1, 1) := by decide +kernel
theorem d_M_at_50 : decode b_M_at 50 = .ok (.iaload, 1) := by decide +kernel
theorem d_M_at_51 : decode b_M_at 51 = .ok (.goto 23, 3) := by decide +kernel
theorem d_M_at_54 : decode b_M_at 54 = .ok (.iload_n 2, 1) := by decide +kernel
theorem d_M_at_55 : decode b_M_at 55 = .ok (.iconst 1, 1) := by decide +kernel
theorem d_M_at_56 : decode b_M_at 56 = .ok (.if_icmp .ne 12, 3) := by decide +kernel
theorem d_M_at_59 : decode b_M_at 59 = .ok (.aload_n 0, 1) := by decide +kernel
theorem d_M_at_60 : decode b_M_at 60 = .ok (.getfield 66, 3) := by decide +kernel
theorem d_M_at_63 : decode b_M_at 63 = .ok (.iload_n 1, 1) := by decide +kernel
theorem d_M_at_64 : decode b_M_at 64 = .ok (.iaload, 1) := by decide +kernel
theorem d_M_at_65 : decode b_M_at 65 = .ok (.goto 9, 3) := by decide +kernel
theorem d_M_at_68 : decode b_M_at 68 = .ok (.aload_n 0, 1) := by decide +kernel
theorem d_M_at_69 : decode b_M_at 69 = .ok (.getfield 69, 3) := by decide +kernel
theorem d_M_at_72 : decode b_M_at 72 = .ok (.iload_n 1, 1) := by decide +kernel
theorem d_M_at_73 : decode b_M_at 73 = .ok (.iaload, 1) := by decide +kernel
theorem d_M_at_74 : decode b_M_at 74 = .ok (.ireturn, 1) := by decide +kernel
theorem d_M_breaks_0 : decode b_M_breaks 0 = .ok (.aload_n 0, 1) := by decide +kernel
theorem d_M_breaks_1 : decode b_M_breaks 1 = .ok (.iconst 0, 1) := by decide +kernel
theorem d_M_breaks_2 : decode b_M_breaks 2 = .ok (.putfield 72, 3) := by decide +kernel
theorem d_M_breaks_5 : decode b_M_breaks 5 = .ok (.aload_n 0, 1) := by decide +kernel
theorem d_M_breaks_6 : decode b_M_breaks 6 = .ok (.iload_n 1, 1) := by decide +kernel
theorem d_M_breaks_7 : decode b_M_breaks 7 = .ok (.invokevirtual 142, 3) := by decide +kernel
theorem d_M_breaks_10 : decode b_M_breaks 10 = .ok (.ifCond .eq 16, 3) := by decide +kernel
theorem d_M_breaks_13 : decode b_M_breaks 13 = .ok (.aload_n 0, 1) := by decide +kernel
theorem d_M_breaks_14 : decode b_M_breaks 14 = .ok (.getfield 20, 3) := by decide +kernel
theorem d_M_breaks_17 : decode b_M_breaks 17 = .ok (.iload_n 1, 1) := by decide +kernel
theorem d_M_breaks_18 : decode b_M_breaks 18 = .ok (.baload, 1) := by decide +kernel
theorem d_M_breaks_19 : decode b_M_breaks 19 = .ok (.ifCond .eq 7, 3) := by decide +kernel
theorem d_M_breaks_22 : decode b_M_breaks 22 = .ok (.iconst 1, 1) := by decide +kernel
theorem d_M_breaks_23 : decode b_M_breaks 23 = .ok (.goto 4, 3) := by decide +kernel
theorem d_M_breaks_26 : decode b_M_breaks 26 = .ok (.iconst 0, 1) := by decide +kernel
theorem d_M_breaks_27 : decode b_M_breaks 27 = .ok (.istore_n 3, 1) := by decide +kernel
theorem d_M_breaks_28 : decode b_M_breaks 28 = .ok (.aload_n 0, 1) := by decide +kernel
theorem d_M_breaks_29 : decode b_M_breaks 29 = .ok (.iload_n 1, 1) := by decide +kernel
theorem d_M_breaks_30 : decode b_M_breaks 30 = .ok (.invokevirtual 142, 3) := by decide +kernel
theorem d_M_breaks_33 : decode b_M_breaks 33 = .ok (.ifCond .eq 10, 3) := by decide +kernel
theorem d_M_breaks_36 : decode b_M_breaks 36 = .ok (.aload_n 0, 1) := by decide +kernel
theorem d_M_breaks_37 : decode b_M_breaks 37 = .ok (.getfield 20, 3) := by decide +kernel
theorem d_M_breaks_40 : decode b_M_breaks 40 = .ok (.iload_n 1, 1) := by decide +kernel
theorem d_M_breaks_41 : decode b_M_breaks 41 = .ok (.iload_n 2, 1) := by decide +kernel
theorem d_M_breaks_42 : decode b_M_breaks 42 = .ok (.bastore, 1) := by decide +kernel
theorem d_M_breaks_43 : decode b_M_breaks 43 = .ok (.iload_n 3, 1) := by decide +kernel
theorem d_M_breaks_44 : decode b_M_breaks 44 = .ok (.ireturn, 1) := by decide +kernel
theorem d_M_certificate_0 : decode b_M_certificate 0 = .ok (.aload_n 0, 1) := by decide +kernel
theorem d_M_certificate_1 : decode b_M_certificate 1 = .ok (.iconst 0, 1) := by decide +kernel
theorem d_M_certificate_2 : decode b_M_certificate 2 = .ok (.putfield 72, 3) := by decide +kernel
theorem d_M_certificate_5 : decode b_M_certificate 5 = .ok (.iload_n 1, 1) := by decide +kernel
theorem d_M_certificate_6 : decode b_M_certificate 6 = .ok (.invokestatic 149, 3) := by decide +kernel
theorem d_M_certificate_9 : decode b_M_certificate 9 = .ok (.ifCond .ne 5, 3) := by decide +kernel
theorem d_M_certificate_12 : decode b_M_certificate 12 = .ok (.iconst (-1), 1) := by decide +kernel
theorem d_M_certificate_13 : decode b_M_certificate 13 = .ok (.ireturn, 1) := by decide +kernel
theorem d_M_certificate_14 : decode b_M_certificate 14 = .ok (.iload_n 2, 1) := by decide +kernel
theorem d_M_certificate_15 : decode b_M_certificate 15 = .ok (.iconst 1, 1) := by decide +kernel
theorem d_M_certificate_16 : decode b_M_certificate 16 = .ok (.ldc 80, 2) := by decide +kernel
theorem d_M_certificate_18 : decode b_M_certificate 18 = .ok (.invokestatic 76, 3) := by decide +kernel
theorem d_M_certificate_21 : decode b_M_certificate 21 = .ok (.ifCond .ne 6, 3) := by decide +kernel
theorem d_M_certificate_24 : decode b_M_certificate 24 = .ok (.bipush (-2), 2) := by decide +kernel
theorem d_M_certificate_26 : decode b_M_certificate 26 = .ok (.ireturn, 1) := by decide +kernel
theorem d_M_certificate_27 : decode b_M_certificate 27 = .ok (.aload_n 0, 1) := by decide +kernel
theorem d_M_certificate_28 : decode b_M_certificate 28 = .ok (.getfield 54, 3) := by decide +kernel
theorem d_M_certificate_31 : decode b_M_certificate 31 = .ok (.iload_n 1, 1) := by decide +kernel
theorem d_M_certificate_32 : decode b_M_certificate 32 = .ok (.iaload, 1) := by decide +kernel
theorem d_M_certificate_33 : decode b_M_certificate 33 = .ok (.ifCond .lt 12, 3) := by decide +kernel
theorem d_M_certificate_36 : decode b_M_certificate 36 = .ok (.aload_n 0, 1) := by decide +kernel
theorem d_M_certificate_37 : decode b_M_certificate 37 = .ok (.getfield 57, 3) := by decide +kernel
theorem d_M_certificate_40 : decode b_M_certificate 40 = .ok (.iload_n 1, 1) := by decide +kernel
theorem d_M_certificate_41 : decode b_M_certificate 41 = .ok (.iaload, 1) := by decide +kernel
theorem d_M_certificate_42 : decode b_M_certificate 42 = .ok (.ifCond .lt 6, 3) := by decide +kernel
theorem d_M_certificate_45 : decode b_M_certificate 45 = .ok (.bipush (-3), 2) := by decide +kernel
theorem d_M_certificate_47 : decode b_M_certificate 47 = .ok (.ireturn, 1) := by decide +kernel
theorem d_M_certificate_48 : decode b_M_certificate 48 = .ok (.aload_n 0, 1) := by decide +kernel
theorem d_M_certificate_49 : decode b_M_certificate 49 = .ok (.getfield 57, 3) := by decide +kernel
theorem d_M_certificate_52 : decode b_M_certificate 52 = .ok (.iload_n 1, 1) := by decide +kernel
theorem d_M_certificate_53 : decode b_M_certificate 53 = .ok (.iload_n 2, 1) := by decide +kernel
theorem d_M_certificate_54 : decode b_M_certificate 54 = .ok (.iastore, 1) := by decide +kernel
theorem d_M_certificate_55 : decode b_M_certificate 55 = .ok (.iconst 1, 1) := by decide +kernel
theorem d_M_certificate_56 : decode b_M_certificate 56 = .ok (.ireturn, 1) := by decide +kernel
theorem d_M_change_0 : decode b_M_change 0 = .ok (.aload_n 0, 1) := by decide +kernel
theorem d_M_change_1 : decode b_M_change 1 = .ok (.iconst 0, 1) := by decide +kernel
theorem d_M_change_2 : decode b_M_change 2 = .ok (.putfield 72, 3) := by decide +kernel
theorem d_M_change_5 : decode b_M_change 5 = .ok (.aload_n 0, 1) := by decide +kernel
theorem d_M_change_6 : decode b_M_change 6 = .ok (.iload_n 1, 1) := by decide +kernel
theorem d_M_change_7 : decode b_M_change 7 = .ok (.invokevirtual 142, 3) := by decide +kernel
theorem d_M_change_10 : decode b_M_change 10 = .ok (.ifCond .ne 5, 3) := by decide +kernel
theorem d_M_change_13 : decode b_M_change 13 = .ok (.iconst (-1), 1) := by decide +kernel
theorem d_M_change_14 : decode b_M_change 14 = .ok (.ireturn, 1) := by decide +kernel
theorem d_M_change_15 : decode b_M_change 15 = .ok (.iload_n 2, 1) := by decide +kernel
theorem d_M_change_16 : decode b_M_change 16 = .ok (.iconst 0, 1) := by decide +kernel
theorem d_M_change_17 : decode b_M_change 17 = .ok (.sipush 999, 3) := by decide +kernel
theorem d_M_change_20 : decode b_M_change 20 = .ok (.invokestatic 76, 3) := by decide +kernel
theorem d_M_change_23 : decode b_M_change 23 = .ok (.ifCond .eq 10, 3) := by decide +kernel
theorem d_M_change_26 : decode b_M_change 26 = .ok (.iload_n 3, 1) := by decide +kernel
theorem d_M_change_27 : decode b_M_change 27 = .ok (.invokestatic 146, 3) := by decide +kernel
theorem d_M_change_30 : decode b_M_change 30 = .ok (.ifCond .ne 6, 3) := by decide +kernel
theorem d_M_change_33 : decode b_M_change 33 = .ok (.bipush (-2), 2) := by decide +kernel
theorem d_M_change_35 : decode b_M_change 35 = .ok (.ireturn, 1) := by decide +kernel
theorem d_M_change_36 : decode b_M_change 36 = .ok (.aload_n 0, 1) := by decide +kernel
theorem d_M_change_37 : decode b_M_change 37 = .ok (.getfield 30, 3) := by decide +kernel
theorem d_M_change_40 : decode b_M_change 40 = .ok (.bipush 6, 2) := by decide +kernel
theorem d_M_change_42 : decode b_M_change 42 = .ok (.iload_n 1, 1) := by decide +kernel
theorem d_M_change_43 : decode b_M_change 43 = .ok (.imul, 1) := by decide +kernel
theorem d_M_change_44 : decode b_M_change 44 = .ok (.aload_n 0, 1) := by decide +kernel
theorem d_M_change_45 : decode b_M_change 45 = .ok (.getfield 24, 3) := by decide +kernel
theorem d_M_change_48 : decode b_M_change 48 = .ok (.iload_n 1, 1) := by decide +kernel
theorem d_M_change_49 : decode b_M_change 49 = .ok (.iaload, 1) := by decide +kernel
theorem d_M_change_50 : decode b_M_change 50 = .ok (.iadd, 1) := by decide +kernel
theorem d_M_change_51 : decode b_M_change 51 = .ok (.iaload, 1) := by decide +kernel
theorem d_M_change_52 : decode b_M_change 52 = .ok (.iload_n 3, 1) := by decide +kernel
theorem d_M_change_53 : decode b_M_change 53 = .ok (.if_icmp .lt 6, 3) := by decide +kernel
theorem d_M_change_56 : decode b_M_change 56 = .ok (.bipush (-3), 2) := by decide +kernel
theorem d_M_change_58 : decode b_M_change 58 = .ok (.ireturn, 1) := by decide +kernel
theorem d_M_change_59 : decode b_M_change 59 = .ok (.aload_n 0, 1) := by decide +kernel
theorem d_M_change_60 : decode b_M_change 60 = .ok (.getfield 24, 3) := by decide +kernel
theorem d_M_change_63 : decode b_M_change 63 = .ok (.iload_n 1, 1) := by decide +kernel
theorem d_M_change_64 : decode b_M_change 64 = .ok (.iaload, 1) := by decide +kernel
theorem d_M_change_65 : decode b_M_change 65 = .ok (.iconst 5, 1) := by decide +kernel
theorem d_M_change_66 : decode b_M_change 66 = .ok (.if_icmp .ne 6, 3) := by decide +kernel
theorem d_M_change_69 : decode b_M_change 69 = .ok (.bipush (-4), 2) := by decide +kernel
theorem d_M_change_71 : decode b_M_change 71 = .ok (.ireturn, 1) := by decide +kernel
theorem d_M_change_72 : decode b_M_change 72 = .ok (.aload_n 0, 1) := by decide +kernel
theorem d_M_change_73 : decode b_M_change 73 = .ok (.getfield 24, 3) := by decide +kernel
theorem d_M_change_76 : decode b_M_change 76 = .ok (.iload_n 1, 1) := by decide +kernel
theorem d_M_change_77 : decode b_M_change 77 = .ok (.dup2, 1) := by decide +kernel
theorem d_M_change_78 : decode b_M_change 78 = .ok (.iaload, 1) := by decide +kernel
theorem d_M_change_79 : decode b_M_change 79 = .ok (.iconst 1, 1) := by decide +kernel
theorem d_M_change_80 : decode b_M_change 80 = .ok (.iadd, 1) := by decide +kernel
theorem d_M_change_81 : decode b_M_change 81 = .ok (.iastore, 1) := by decide +kernel
theorem d_M_change_82 : decode b_M_change 82 = .ok (.aload_n 0, 1) := by decide +kernel
theorem d_M_change_83 : decode b_M_change 83 = .ok (.getfield 27, 3) := by decide +kernel
theorem d_M_change_86 : decode b_M_change 86 = .ok (.bipush 6, 2) := by decide +kernel
theorem d_M_change_88 : decode b_M_change 88 = .ok (.iload_n 1, 1) := by decide +kernel
theorem d_M_change_89 : decode b_M_change 89 = .ok (.imul, 1) := by decide +kernel
theorem d_M_change_90 : decode b_M_change 90 = .ok (.aload_n 0, 1) := by decide +kernel
theorem d_M_change_91 : decode b_M_change 91 = .ok (.getfield 24, 3) := by decide +kernel
theorem d_M_change_94 : decode b_M_change 94 = .ok (.iload_n 1, 1) := by decide +kernel
theorem d_M_change_95 : decode b_M_change 95 = .ok (.iaload, 1) := by decide +kernel
theorem d_M_change_96 : decode b_M_change 96 = .ok (.iadd, 1) := by decide +kernel
theorem d_M_change_97 : decode b_M_change 97 = .ok (.iload_n 2, 1) := by decide +kernel
theorem d_M_change_98 : decode b_M_change 98 = .ok (.iastore, 1) := by decide +kernel
theorem d_M_change_99 : decode b_M_change 99 = .ok (.aload_n 0, 1) := by decide +kernel
theorem d_M_change_100 : decode b_M_change 100 = .ok (.getfield 30, 3) := by decide +kernel
theorem d_M_change_103 : decode b_M_change 103 = .ok (.bipush 6, 2) := by decide +kernel
theorem d_M_change_105 : decode b_M_change 105 = .ok (.iload_n 1, 1) := by decide +kernel
theorem d_M_change_106 : decode b_M_change 106 = .ok (.imul, 1) := by decide +kernel
theorem d_M_change_107 : decode b_M_change 107 = .ok (.aload_n 0, 1) := by decide +kernel
theorem d_M_change_108 : decode b_M_change 108 = .ok (.getfield 24, 3) := by decide +kernel
theorem d_M_change_111 : decode b_M_change 111 = .ok (.iload_n 1, 1) := by decide +kernel
theorem d_M_change_112 : decode b_M_change 112 = .ok (.iaload, 1) := by decide +kernel
theorem d_M_change_113 : decode b_M_change 113 = .ok (.iadd, 1) := by decide +kernel
theorem d_M_change_114 : decode b_M_change 114 = .ok (.iload_n 3, 1) := by decide +kernel
theorem d_M_change_115 : decode b_M_change 115 = .ok (.iastore, 1) := by decide +kernel
theorem d_M_change_116 : decode b_M_change 116 = .ok (.iconst 1, 1) := by decide +kernel
theorem d_M_change_117 : decode b_M_change 117 = .ok (.ireturn, 1) := by decide +kernel
theorem d_M_day_0 : decode b_M_day 0 = .ok (.aload_n 0, 1) := by decide +kernel
theorem d_M_day_1 : decode b_M_day 1 = .ok (.iconst 0, 1) := by decide +kernel
theorem d_M_day_2 : decode b_M_day 2 = .ok (.putfield 72, 3) := by decide +kernel
theorem d_M_day_5 : decode b_M_day 5 = .ok (.iload_n 1, 1) := by decide +kernel
theorem d_M_day_6 : decode b_M_day 6 = .ok (.invokestatic 149, 3) := by decide +kernel
theorem d_M_day_9 : decode b_M_day 9 = .ok (.ifCond .eq 10, 3) := by decide +kernel
theorem d_M_day_12 : decode b_M_day 12 = .ok (.iload_n 2, 1) := by decide +kernel
theorem d_M_day_13 : decode b_M_day 13 = .ok (.invokestatic 146, 3) := by decide +kernel
theorem d_M_day_16 : decode b_M_day 16 = .ok (.ifCond .ne 8, 3) := by decide +kernel
theorem d_M_day_19 : decode b_M_day 19 = .ok (.bipush (-2), 2) := by decide +kernel
theorem d_M_day_21 : decode b_M_day 21 = .ok (.goto 9, 3) := by decide +kernel
theorem d_M_day_24 : decode b_M_day 24 = .ok (.aload_n 0, 1) := by decide +kernel
theorem d_M_day_25 : decode b_M_day 25 = .ok (.iload_n 1, 1) := by decide +kernel
theorem d_M_day_26 : decode b_M_day 26 = .ok (.iload_n 2, 1) := by decide +kernel
theorem d_M_day_27 : decode b_M_day 27 = .ok (.invokevirtual 163, 3) := by decide +kernel
theorem d_M_day_30 : decode b_M_day 30 = .ok (.ireturn, 1) := by decide +kernel
theorem d_M_dayOf_0 : decode b_M_dayOf 0 = .ok (.aload_n 0, 1) := by decide +kernel
theorem d_M_dayOf_1 : decode b_M_dayOf 1 = .ok (.getfield 33, 3) := by decide +kernel
theorem d_M_dayOf_4 : decode b_M_dayOf 4 = .ok (.iconst 4, 1) := by decide +kernel
theorem d_M_dayOf_5 : decode b_M_dayOf 5 = .ok (.iload_n 1, 1) := by decide +kernel
theorem d_M_dayOf_6 : decode b_M_dayOf 6 = .ok (.imul, 1) := by decide +kernel
theorem d_M_dayOf_7 : decode b_M_dayOf 7 = .ok (.aload_n 0, 1) := by decide +kernel
theorem d_M_dayOf_8 : decode b_M_dayOf 8 = .ok (.getfield 13, 3) := by decide +kernel
theorem d_M_dayOf_11 : decode b_M_dayOf 11 = .ok (.iload_n 2, 1) := by decide +kernel
theorem d_M_dayOf_12 : decode b_M_dayOf 12 = .ok (.iaload, 1) := by decide +kernel
theorem d_M_dayOf_13 : decode b_M_dayOf 13 = .ok (.iadd, 1) := by decide +kernel
theorem d_M_dayOf_14 : decode b_M_dayOf 14 = .ok (.iaload, 1) := by decide +kernel
theorem d_M_dayOf_15 : decode b_M_dayOf 15 = .ok (.istore 4, 2) := by decide +kernel
theorem d_M_dayOf_17 : decode b_M_dayOf 17 = .ok (.iload 4, 2) := by decide +kernel
theorem d_M_dayOf_19 : decode b_M_dayOf 19 = .ok (.ifCond .ge 7, 3) := by decide +kernel
theorem d_M_dayOf_22 : decode b_M_dayOf 22 = .ok (.iconst (-1), 1) := by decide +kernel
theorem d_M_dayOf_23 : decode b_M_dayOf 23 = .ok (.goto 16, 3) := by decide +kernel
theorem d_M_dayOf_26 : decode b_M_dayOf 26 = .ok (.iload 4, 2) := by decide +kernel
theorem d_M_dayOf_28 : decode b_M_dayOf 28 = .ok (.sipush 365, 3) := by decide +kernel
theorem d_M_dayOf_31 : decode b_M_dayOf 31 = .ok (.aload_n 0, 1) := by decide +kernel
theorem d_M_dayOf_32 : decode b_M_dayOf 32 = .ok (.iload_n 2, 1) := by decide +kernel
theorem d_M_dayOf_33 : decode b_M_dayOf 33 = .ok (.iload_n 3, 1) := by decide +kernel
theorem d_M_dayOf_34 : decode b_M_dayOf 34 = .ok (.invokevirtual 152, 3) := by decide +kernel
theorem d_M_dayOf_37 : decode b_M_dayOf 37 = .ok (.imul, 1) := by decide +kernel
theorem d_M_dayOf_38 : decode b_M_dayOf 38 = .ok (.iadd, 1) := by decide +kernel
theorem d_M_dayOf_39 : decode b_M_dayOf 39 = .ok (.ireturn, 1) := by decide +kernel
theorem d_M_digits_0 : decode b_M_digits 0 = .ok (.iconst 0, 1) := by decide +kernel
theorem d_M_digits_1 : decode b_M_digits 1 = .ok (.istore_n 1, 1) := by decide +kernel
theorem d_M_digits_2 : decode b_M_digits 2 = .ok (.iconst 0, 1) := by decide +kernel
theorem d_M_digits_3 : decode b_M_digits 3 = .ok (.istore_n 2, 1) := by decide +kernel
theorem d_M_digits_4 : decode b_M_digits 4 = .ok (.aload_n 0, 1) := by decide +kernel
theorem d_M_digits_5 : decode b_M_digits 5 = .ok (.invokevirtual 90, 3) := by decide +kernel
theorem d_M_digits_8 : decode b_M_digits 8 = .ok (.bipush 48, 2) := by decide +kernel
theorem d_M_digits_10 : decode b_M_digits 10 = .ok (.if_icmp .lt 46, 3) := by decide +kernel
theorem d_M_digits_13 : decode b_M_digits 13 = .ok (.aload_n 0, 1) := by decide +kernel
theorem d_M_digits_14 : decode b_M_digits 14 = .ok (.invokevirtual 90, 3) := by decide +kernel
theorem d_M_digits_17 : decode b_M_digits 17 = .ok (.bipush 57, 2) := by decide +kernel
theorem d_M_digits_19 : decode b_M_digits 19 = .ok (.if_icmp .gt 37, 3) := by decide +kernel
theorem d_M_digits_22 : decode b_M_digits 22 = .ok (.iload_n 2, 1) := by decide +kernel
theorem d_M_digits_23 : decode b_M_digits 23 = .ok (.iconst 3, 1) := by decide +kernel
theorem d_M_digits_24 : decode b_M_digits 24 = .ok (.if_icmp .ge 32, 3) := by decide +kernel
theorem d_M_digits_27 : decode b_M_digits 27 = .ok (.bipush 10, 2) := by decide +kernel
theorem d_M_digits_29 : decode b_M_digits 29 = .ok (.iload_n 1, 1) := by decide +kernel
theorem d_M_digits_30 : decode b_M_digits 30 = .ok (.imul, 1) := by decide +kernel
theorem d_M_digits_31 : decode b_M_digits 31 = .ok (.aload_n 0, 1) := by decide +kernel
theorem d_M_digits_32 : decode b_M_digits 32 = .ok (.invokevirtual 90, 3) := by decide +kernel
theorem d_M_digits_35 : decode b_M_digits 35 = .ok (.iadd, 1) := by decide +kernel
theorem d_M_digits_36 : decode b_M_digits 36 = .ok (.bipush 48, 2) := by decide +kernel
theorem d_M_digits_38 : decode b_M_digits 38 = .ok (.isub, 1) := by decide +kernel
theorem d_M_digits_39 : decode b_M_digits 39 = .ok (.istore_n 1, 1) := by decide +kernel
theorem d_M_digits_40 : decode b_M_digits 40 = .ok (.iinc 2 1, 3) := by decide +kernel
theorem d_M_digits_43 : decode b_M_digits 43 = .ok (.aload_n 0, 1) := by decide +kernel
theorem d_M_digits_44 : decode b_M_digits 44 = .ok (.dup, 1) := by decide +kernel
theorem d_M_digits_45 : decode b_M_digits 45 = .ok (.getfield 87, 3) := by decide +kernel
theorem d_M_digits_48 : decode b_M_digits 48 = .ok (.iconst 1, 1) := by decide +kernel
theorem d_M_digits_49 : decode b_M_digits 49 = .ok (.iadd, 1) := by decide +kernel
theorem d_M_digits_50 : decode b_M_digits 50 = .ok (.putfield 87, 3) := by decide +kernel
theorem d_M_digits_53 : decode b_M_digits 53 = .ok (.goto (-49), 3) := by decide +kernel
theorem d_M_digits_56 : decode b_M_digits 56 = .ok (.iload_n 2, 1) := by decide +kernel
theorem d_M_digits_57 : decode b_M_digits 57 = .ok (.ifCond .ne 7, 3) := by decide +kernel
theorem d_M_digits_60 : decode b_M_digits 60 = .ok (.iconst (-1), 1) := by decide +kernel
theorem d_M_digits_61 : decode b_M_digits 61 = .ok (.goto 4, 3) := by decide +kernel
theorem d_M_digits_64 : decode b_M_digits 64 = .ok (.iload_n 1, 1) := by decide +kernel
theorem d_M_digits_65 : decode b_M_digits 65 = .ok (.ireturn, 1) := by decide +kernel
theorem d_M_dispose_0 : decode b_M_dispose 0 = .ok (.aload_n 0, 1) := by decide +kernel
theorem d_M_dispose_1 : decode b_M_dispose 1 = .ok (.iconst 0, 1) := by decide +kernel
theorem d_M_dispose_2 : decode b_M_dispose 2 = .ok (.putfield 72, 3) := by decide +kernel
theorem d_M_dispose_5 : decode b_M_dispose 5 = .ok (.iload_n 1, 1) := by decide +kernel
theorem d_M_dispose_6 : decode b_M_dispose 6 = .ok (.invokestatic 149, 3) := by decide +kernel
theorem d_M_dispose_9 : decode b_M_dispose 9 = .ok (.ifCond .ne 5, 3) := by decide +kernel
theorem d_M_dispose_12 : decode b_M_dispose 12 = .ok (.iconst (-1), 1) := by decide +kernel
theorem d_M_dispose_13 : decode b_M_dispose 13 = .ok (.ireturn, 1) := by decide +kernel
theorem d_M_dispose_14 : decode b_M_dispose 14 = .ok (.iload_n 2, 1) := by decide +kernel
theorem d_M_dispose_15 : decode b_M_dispose 15 = .ok (.iconst 0, 1) := by decide +kernel
theorem d_M_dispose_16 : decode b_M_dispose 16 = .ok (.iconst 1, 1) := by decide +kernel
theorem d_M_dispose_17 : decode b_M_dispose 17 = .ok (.invokestatic 76, 3) := by decide +kernel
theorem d_M_dispose_20 : decode b_M_dispose 20 = .ok (.ifCond .eq 10, 3) := by decide +kernel
theorem d_M_dispose_23 : decode b_M_dispose 23 = .ok (.iload_n 3, 1) := by decide +kernel
theorem d_M_dispose_24 : decode b_M_dispose 24 = .ok (.invokestatic 146, 3) := by decide +kernel
theorem d_M_dispose_27 : decode b_M_dispose 27 = .ok (.ifCond .ne 6, 3) := by decide +kernel
theorem d_M_dispose_30 : decode b_M_dispose 30 = .ok (.bipush (-2), 2) := by decide +kernel
theorem d_M_dispose_32 : decode b_M_dispose 32 = .ok (.ireturn, 1) := by decide +kernel
theorem d_M_dispose_33 : decode b_M_dispose 33 = .ok (.aload_n 0, 1) := by decide +kernel
theorem d_M_dispose_34 : decode b_M_dispose 34 = .ok (.iload_n 1, 1) := by decide +kernel
theorem d_M_dispose_35 : decode b_M_dispose 35 = .ok (.iload_n 2, 1) := by decide +kernel
theorem d_M_dispose_36 : decode b_M_dispose 36 = .ok (.iload_n 3, 1) := by decide +kernel
theorem d_M_dispose_37 : decode b_M_dispose 37 = .ok (.invokevirtual 182, 3) := by decide +kernel
theorem d_M_dispose_40 : decode b_M_dispose 40 = .ok (.istore 4, 2) := by decide +kernel
theorem d_M_dispose_42 : decode b_M_dispose 42 = .ok (.iload 4, 2) := by decide +kernel
theorem d_M_dispose_44 : decode b_M_dispose 44 = .ok (.ifCond .le 9, 3) := by decide +kernel
theorem d_M_dispose_47 : decode b_M_dispose 47 = .ok (.bipush (-10), 2) := by decide +kernel
theorem d_M_dispose_49 : decode b_M_dispose 49 = .ok (.iload 4, 2) := by decide +kernel
theorem d_M_dispose_51 : decode b_M_dispose 51 = .ok (.isub, 1) := by decide +kernel
theorem d_M_dispose_52 : decode b_M_dispose 52 = .ok (.ireturn, 1) := by decide +kernel
theorem d_M_dispose_53 : decode b_M_dispose 53 = .ok (.aload_n 0, 1) := by decide +kernel
theorem d_M_dispose_54 : decode b_M_dispose 54 = .ok (.getfield 54, 3) := by decide +kernel
theorem d_M_dispose_57 : decode b_M_dispose 57 = .ok (.iload_n 1, 1) := by decide +kernel
theorem d_M_dispose_58 : decode b_M_dispose 58 = .ok (.iload_n 3, 1) := by decide +kernel
theorem d_M_dispose_59 : decode b_M_dispose 59 = .ok (.iastore, 1) := by decide +kernel
theorem d_M_dispose_60 : decode b_M_dispose 60 = .ok (.aload_n 0, 1) := by decide +kernel
theorem d_M_dispose_61 : decode b_M_dispose 61 = .ok (.getfield 60, 3) := by decide +kernel
theorem d_M_dispose_64 : decode b_M_dispose 64 = .ok (.aload_n 0, 1) := by decide +kernel
theorem d_M_dispose_65 : decode b_M_dispose 65 = .ok (.getfield 176, 3) := by decide +kernel
theorem d_M_dispose_68 : decode b_M_dispose 68 = .ok (.iload_n 1, 1) := by decide +kernel
theorem d_M_dispose_69 : decode b_M_dispose 69 = .ok (.iastore, 1) := by decide +kernel
theorem d_M_dispose_70 : decode b_M_dispose 70 = .ok (.aload_n 0, 1) := by decide +kernel
theorem d_M_dispose_71 : decode b_M_dispose 71 = .ok (.dup, 1) := by decide +kernel
theorem d_M_dispose_72 : decode b_M_dispose 72 = .ok (.getfield 176, 3) := by decide +kernel
theorem d_M_dispose_75 : decode b_M_dispose 75 = .ok (.iconst 1, 1) := by decide +kernel
theorem d_M_dispose_76 : decode b_M_dispose 76 = .ok (.iadd, 1) := by decide +kernel
theorem d_M_dispose_77 : decode b_M_dispose 77 = .ok (.putfield 176, 3) := by decide +kernel
theorem d_M_dispose_80 : decode b_M_dispose 80 = .ok (.iconst 1, 1) := by decide +kernel
theorem d_M_dispose_81 : decode b_M_dispose 81 = .ok (.ireturn, 1) := by decide +kernel
theorem d_M_due_0 : decode b_M_due 0 = .ok (.aload_n 0, 1) := by decide +kernel
theorem d_M_due_1 : decode b_M_due 1 = .ok (.iconst 0, 1) := by decide +kernel
theorem d_M_due_2 : decode b_M_due 2 = .ok (.putfield 72, 3) := by decide +kernel
theorem d_M_due_5 : decode b_M_due 5 = .ok (.iload_n 1, 1) := by decide +kernel
theorem d_M_due_6 : decode b_M_due 6 = .ok (.invokestatic 146, 3) := by decide +kernel
theorem d_M_due_9 : decode b_M_due 9 = .ok (.ifCond .ne 6, 3) := by decide +kernel
theorem d_M_due_12 : decode b_M_due 12 = .ok (.bipush (-2), 2) := by decide +kernel
theorem d_M_due_14 : decode b_M_due 14 = .ok (.ireturn, 1) := by decide +kernel
theorem d_M_due_15 : decode b_M_due 15 = .ok (.aload_n 0, 1) := by decide +kernel
theorem d_M_due_16 : decode b_M_due 16 = .ok (.iconst 0, 1) := by decide +kernel
theorem d_M_due_17 : decode b_M_due 17 = .ok (.putfield 166, 3) := by decide +kernel
theorem d_M_due_20 : decode b_M_due 20 = .ok (.iconst 0, 1) := by decide +kernel
theorem d_M_due_21 : decode b_M_due 21 = .ok (.istore_n 2, 1) := by decide +kernel
theorem d_M_due_22 : decode b_M_due 22 = .ok (.iload_n 2, 1) := by decide +kernel
theorem d_M_due_23 : decode b_M_due 23 = .ok (.bipush 60, 2) := by decide +kernel
theorem d_M_due_25 : decode b_M_due 25 = .ok (.if_icmp .ge 145, 3) := by decide +kernel
theorem d_M_due_28 : decode b_M_due 28 = .ok (.aload_n 0, 1) := by decide +kernel
theorem d_M_due_29 : decode b_M_due 29 = .ok (.iload_n 2, 1) := by decide +kernel
theorem d_M_due_30 : decode b_M_due 30 = .ok (.iload_n 1, 1) := by decide +kernel
theorem d_M_due_31 : decode b_M_due 31 = .ok (.invokevirtual 169, 3) := by decide +kernel
theorem d_M_due_34 : decode b_M_due 34 = .ok (.ifCond .ne 6, 3) := by decide +kernel
theorem d_M_due_37 : decode b_M_due 37 = .ok (.goto 127, 3) := by decide +kernel
theorem d_M_due_40 : decode b_M_due 40 = .ok (.aload_n 0, 1) := by decide +kernel
theorem d_M_due_41 : decode b_M_due 41 = .ok (.iload_n 2, 1) := by decide +kernel
theorem d_M_due_42 : decode b_M_due 42 = .ok (.iload_n 1, 1) := by decide +kernel
theorem d_M_due_43 : decode b_M_due 43 = .ok (.invokevirtual 163, 3) := by decide +kernel
theorem d_M_due_46 : decode b_M_due 46 = .ok (.istore_n 3, 1) := by decide +kernel
theorem d_M_due_47 : decode b_M_due 47 = .ok (.aload_n 0, 1) := by decide +kernel
theorem d_M_due_48 : decode b_M_due 48 = .ok (.getfield 166, 3) := by decide +kernel
theorem d_M_due_51 : decode b_M_due 51 = .ok (.istore 4, 2) := by decide +kernel
theorem d_M_due_53 : decode b_M_due 53 = .ok (.iload 4, 2) := by decide +kernel
theorem d_M_due_55 : decode b_M_due 55 = .ok (.ifCond .le 70, 3) := by decide +kernel
theorem d_M_due_58 : decode b_M_due 58 = .ok (.aload_n 0, 1) := by decide +kernel
theorem d_M_due_59 : decode b_M_due 59 = .ok (.getfield 66, 3) := by decide +kernel
theorem d_M_due_62 : decode b_M_due 62 = .ok (.iload 4, 2) := by decide +kernel
theorem d_M_due_64 : decode b_M_due 64 = .ok (.iconst 1, 1) := by decide +kernel
theorem d_M_due_65 : decode b_M_due 65 = .ok (.isub, 1) := by decide +kernel
theorem d_M_due_66 : decode b_M_due 66 = .ok (.iaload, 1) := by decide +kernel
theorem d_M_due_67 : decode b_M_due 67 = .ok (.iload_n 3, 1) := by decide +kernel
theorem d_M_due_68 : decode b_M_due 68 = .ok (.if_icmp .le 57, 3) := by decide +kernel
theorem d_M_due_71 : decode b_M_due 71 = .ok (.aload_n 0, 1) := by decide +kernel
theorem d_M_due_72 : decode b_M_due 72 = .ok (.getfield 63, 3) := by decide +kernel
theorem d_M_due_75 : decode b_M_due 75 = .ok (.iload 4, 2) := by decide +kernel
theorem d_M_due_77 : decode b_M_due 77 = .ok (.aload_n 0, 1) := by decide +kernel
theorem d_M_due_78 : decode b_M_due 78 = .ok (.getfield 63, 3) := by decide +kernel
theorem d_M_due_81 : decode b_M_due 81 = .ok (.iload 4, 2) := by decide +kernel
theorem d_M_due_83 : decode b_M_due 83 = .ok (.iconst 1, 1) := by decide +kernel
theorem d_M_due_84 : decode b_M_due 84 = .ok (.isub, 1) := by decide +kernel
theorem d_M_due_85 : decode b_M_due 85 = .ok (.iaload, 1) := by decide +kernel
theorem d_M_due_86 : decode b_M_due 86 = .ok (.iastore, 1) := by decide +kernel
theorem d_M_due_87 : decode b_M_due 87 = .ok (.aload_n 0, 1) := by decide +kernel
theorem d_M_due_88 : decode b_M_due 88 = .ok (.getfield 66, 3) := by decide +kernel
theorem d_M_due_91 : decode b_M_due 91 = .ok (.iload 4, 2) := by decide +kernel
theorem d_M_due_93 : decode b_M_due 93 = .ok (.aload_n 0, 1) := by decide +kernel
theorem d_M_due_94 : decode b_M_due 94 = .ok (.getfield 66, 3) := by decide +kernel
theorem d_M_due_97 : decode b_M_due 97 = .ok (.iload 4, 2) := by decide +kernel
theorem d_M_due_99 : decode b_M_due 99 = .ok (.iconst 1, 1) := by decide +kernel
theorem d_M_due_100 : decode b_M_due 100 = .ok (.isub, 1) := by decide +kernel
theorem d_M_due_101 : decode b_M_due 101 = .ok (.iaload, 1) := by decide +kernel
theorem d_M_due_102 : decode b_M_due 102 = .ok (.iastore, 1) := by decide +kernel
theorem d_M_due_103 : decode b_M_due 103 = .ok (.aload_n 0, 1) := by decide +kernel
theorem d_M_due_104 : decode b_M_due 104 = .ok (.getfield 69, 3) := by decide +kernel
theorem d_M_due_107 : decode b_M_due 107 = .ok (.iload 4, 2) := by decide +kernel
theorem d_M_due_109 : decode b_M_due 109 = .ok (.aload_n 0, 1) := by decide +kernel
theorem d_M_due_110 : decode b_M_due 110 = .ok (.getfield 69, 3) := by decide +kernel
theorem d_M_due_113 : decode b_M_due 113 = .ok (.iload 4, 2) := by decide +kernel
theorem d_M_due_115 : decode b_M_due 115 = .ok (.iconst 1, 1) := by decide +kernel
theorem d_M_due_116 : decode b_M_due 116 = .ok (.isub, 1) := by decide +kernel
theorem d_M_due_117 : decode b_M_due 117 = .ok (.iaload, 1) := by decide +kernel
theorem d_M_due_118 : decode b_M_due 118 = .ok (.iastore, 1) := by decide +kernel
theorem d_M_due_119 : decode b_M_due 119 = .ok (.iinc 4 (-1), 3) := by decide +kernel
theorem d_M_due_122 : decode b_M_due 122 = .ok (.goto (-69), 3) := by decide +kernel
theorem d_M_due_125 : decode b_M_due 125 = .ok (.aload_n 0, 1) := by decide +kernel
theorem d_M_due_126 : decode b_M_due 126 = .ok (.getfield 63, 3) := by decide +kernel
theorem d_M_due_129 : decode b_M_due 129 = .ok (.iload 4, 2) := by decide +kernel
theorem d_M_due_131 : decode b_M_due 131 = .ok (.iload_n 2, 1) := by decide +kernel
theorem d_M_due_132 : decode b_M_due 132 = .ok (.iastore, 1) := by decide +kernel
theorem d_M_due_133 : decode b_M_due 133 = .ok (.aload_n 0, 1) := by decide +kernel
theorem d_M_due_134 : decode b_M_due 134 = .ok (.getfield 66, 3) := by decide +kernel
theorem d_M_due_137 : decode b_M_due 137 = .ok (.iload 4, 2) := by decide +kernel
theorem d_M_due_139 : decode b_M_due 139 = .ok (.iload_n 3, 1) := by decide +kernel
theorem d_M_due_140 : decode b_M_due 140 = .ok (.iastore, 1) := by decide +kernel
theorem d_M_due_141 : decode b_M_due 141 = .ok (.aload_n 0, 1) := by decide +kernel
theorem d_M_due_142 : decode b_M_due 142 = .ok (.getfield 69, 3) := by decide +kernel
theorem d_M_due_145 : decode b_M_due 145 = .ok (.iload 4, 2) := by decide +kernel
theorem d_M_due_147 : decode b_M_due 147 = .ok (.aload_n 0, 1) := by decide +kernel
theorem d_M_due_148 : decode b_M_due 148 = .ok (.iload_n 2, 1) := by decide +kernel
theorem d_M_due_149 : decode b_M_due 149 = .ok (.iload_n 1, 1) := by decide +kernel
theorem d_M_due_150 : decode b_M_due 150 = .ok (.invokevirtual 173, 3) := by decide +kernel
theorem d_M_due_153 : decode b_M_due 153 = .ok (.iastore, 1) := by decide +kernel
theorem d_M_due_154 : decode b_M_due 154 = .ok (.aload_n 0, 1) := by decide +kernel
theorem d_M_due_155 : decode b_M_due 155 = .ok (.dup, 1) := by decide +kernel
theorem d_M_due_156 : decode b_M_due 156 = .ok (.getfield 166, 3) := by decide +kernel
theorem d_M_due_159 : decode b_M_due 159 = .ok (.iconst 1, 1) := by decide +kernel
theorem d_M_due_160 : decode b_M_due 160 = .ok (.iadd, 1) := by decide +kernel
theorem d_M_due_161 : decode b_M_due 161 = .ok (.putfield 166, 3) := by decide +kernel
theorem d_M_due_164 : decode b_M_due 164 = .ok (.iinc 2 1, 3) := by decide +kernel
theorem d_M_due_167 : decode b_M_due 167 = .ok (.goto (-145), 3) := by decide +kernel
theorem d_M_due_170 : decode b_M_due 170 = .ok (.aload_n 0, 1) := by decide +kernel
theorem d_M_due_171 : decode b_M_due 171 = .ok (.getfield 166, 3) := by decide +kernel
theorem d_M_due_174 : decode b_M_due 174 = .ok (.ireturn, 1) := by decide +kernel
theorem d_M_dueDay_0 : decode b_M_dueDay 0 = .ok (.aload_n 0, 1) := by decide +kernel
theorem d_M_dueDay_1 : decode b_M_dueDay 1 = .ok (.iload_n 1, 1) := by decide +kernel
theorem d_M_dueDay_2 : decode b_M_dueDay 2 = .ok (.invokevirtual 156, 3) := by decide +kernel
theorem d_M_dueDay_5 : decode b_M_dueDay 5 = .ok (.ifCond .eq 6, 3) := by decide +kernel
theorem d_M_dueDay_8 : decode b_M_dueDay 8 = .ok (.bipush (-3), 2) := by decide +kernel
theorem d_M_dueDay_10 : decode b_M_dueDay 10 = .ok (.ireturn, 1) := by decide +kernel
theorem d_M_dueDay_11 : decode b_M_dueDay 11 = .ok (.iconst (-1), 1) := by decide +kernel
theorem d_M_dueDay_12 : decode b_M_dueDay 12 = .ok (.istore_n 3, 1) := by decide +kernel
theorem d_M_dueDay_13 : decode b_M_dueDay 13 = .ok (.iconst 0, 1) := by decide +kernel
theorem d_M_dueDay_14 : decode b_M_dueDay 14 = .ok (.istore 4, 2) := by decide +kernel
theorem d_M_dueDay_16 : decode b_M_dueDay 16 = .ok (.iload 4, 2) := by decide +kernel
theorem d_M_dueDay_18 : decode b_M_dueDay 18 = .ok (.aload_n 0, 1) := by decide +kernel
theorem d_M_dueDay_19 : decode b_M_dueDay 19 = .ok (.getfield 39, 3) := by decide +kernel
theorem d_M_dueDay_22 : decode b_M_dueDay 22 = .ok (.iload_n 1, 1) := by decide +kernel
theorem d_M_dueDay_23 : decode b_M_dueDay 23 = .ok (.iaload, 1) := by decide +kernel
theorem d_M_dueDay_24 : decode b_M_dueDay 24 = .ok (.if_icmp .ge 48, 3) := by decide +kernel
theorem d_M_dueDay_27 : decode b_M_dueDay 27 = .ok (.aload_n 0, 1) := by decide +kernel
theorem d_M_dueDay_28 : decode b_M_dueDay 28 = .ok (.iload_n 1, 1) := by decide +kernel
theorem d_M_dueDay_29 : decode b_M_dueDay 29 = .ok (.aload_n 0, 1) := by decide +kernel
theorem d_M_dueDay_30 : decode b_M_dueDay 30 = .ok (.getfield 36, 3) := by decide +kernel
theorem d_M_dueDay_33 : decode b_M_dueDay 33 = .ok (.iconst 4, 1) := by decide +kernel
theorem d_M_dueDay_34 : decode b_M_dueDay 34 = .ok (.iload_n 1, 1) := by decide +kernel
theorem d_M_dueDay_35 : decode b_M_dueDay 35 = .ok (.imul, 1) := by decide +kernel
theorem d_M_dueDay_36 : decode b_M_dueDay 36 = .ok (.iload 4, 2) := by decide +kernel
theorem d_M_dueDay_38 : decode b_M_dueDay 38 = .ok (.iadd, 1) := by decide +kernel
theorem d_M_dueDay_39 : decode b_M_dueDay 39 = .ok (.iaload, 1) := by decide +kernel
theorem d_M_dueDay_40 : decode b_M_dueDay 40 = .ok (.iload_n 2, 1) := by decide +kernel
theorem d_M_dueDay_41 : decode b_M_dueDay 41 = .ok (.invokevirtual 159, 3) := by decide +kernel
theorem d_M_dueDay_44 : decode b_M_dueDay 44 = .ok (.istore 5, 2) := by decide +kernel
theorem d_M_dueDay_46 : decode b_M_dueDay 46 = .ok (.iload 5, 2) := by decide +kernel
theorem d_M_dueDay_48 : decode b_M_dueDay 48 = .ok (.ifCond .ge 5, 3) := by decide +kernel
theorem d_M_dueDay_51 : decode b_M_dueDay 51 = .ok (.iconst (-1), 1) := by decide +kernel
theorem d_M_dueDay_52 : decode b_M_dueDay 52 = .ok (.ireturn, 1) := by decide +kernel
theorem d_M_dueDay_53 : decode b_M_dueDay 53 = .ok (.iload 5, 2) := by decide +kernel
theorem d_M_dueDay_55 : decode b_M_dueDay 55 = .ok (.iload_n 3, 1) := by decide +kernel
theorem d_M_dueDay_56 : decode b_M_dueDay 56 = .ok (.if_icmp .le 8, 3) := by decide +kernel
theorem d_M_dueDay_59 : decode b_M_dueDay 59 = .ok (.iload 5, 2) := by decide +kernel
theorem d_M_dueDay_61 : decode b_M_dueDay 61 = .ok (.goto 4, 3) := by decide +kernel
theorem d_M_dueDay_64 : decode b_M_dueDay 64 = .ok (.iload_n 3, 1) := by decide +kernel
theorem d_M_dueDay_65 : decode b_M_dueDay 65 = .ok (.istore_n 3, 1) := by decide +kernel
theorem d_M_dueDay_66 : decode b_M_dueDay 66 = .ok (.iinc 4 1, 3) := by decide +kernel
theorem d_M_dueDay_69 : decode b_M_dueDay 69 = .ok (.goto (-53), 3) := by decide +kernel
theorem d_M_dueDay_72 : decode b_M_dueDay 72 = .ok (.iload_n 3, 1) := by decide +kernel
theorem d_M_dueDay_73 : decode b_M_dueDay 73 = .ok (.ireturn, 1) := by decide +kernel
theorem d_M_event_0 : decode b_M_event 0 = .ok (.aload_n 0, 1) := by decide +kernel
theorem d_M_event_1 : decode b_M_event 1 = .ok (.iconst 0, 1) := by decide +kernel
theorem d_M_event_2 : decode b_M_event 2 = .ok (.putfield 72, 3) := by decide +kernel
theorem d_M_event_5 : decode b_M_event 5 = .ok (.iload_n 1, 1) := by decide +kernel
theorem d_M_event_6 : decode b_M_event 6 = .ok (.invokestatic 149, 3) := by decide +kernel
theorem d_M_event_9 : decode b_M_event 9 = .ok (.ifCond .ne 5, 3) := by decide +kernel
theorem d_M_event_12 : decode b_M_event 12 = .ok (.iconst (-1), 1) := by decide +kernel
theorem d_M_event_13 : decode b_M_event 13 = .ok (.ireturn, 1) := by decide +kernel
theorem d_M_event_14 : decode b_M_event 14 = .ok (.iload_n 2, 1) := by decide +kernel
theorem d_M_event_15 : decode b_M_event 15 = .ok (.iconst 0, 1) := by decide +kernel
theorem d_M_event_16 : decode b_M_event 16 = .ok (.iconst 3, 1) := by decide +kernel
theorem d_M_event_17 : decode b_M_event 17 = .ok (.invokestatic 76, 3) := by decide +kernel
theorem d_M_event_20 : decode b_M_event 20 = .ok (.ifCond .eq 10, 3) := by decide +kernel
theorem d_M_event_23 : decode b_M_event 23 = .ok (.iload_n 3, 1) := by decide +kernel
theorem d_M_event_24 : decode b_M_event 24 = .ok (.invokestatic 146, 3) := by decide +kernel
theorem d_M_event_27 : decode b_M_event 27 = .ok (.ifCond .ne 6, 3) := by decide +kernel
theorem d_M_event_30 : decode b_M_event 30 = .ok (.bipush (-2), 2) := by decide +kernel
theorem d_M_event_32 : decode b_M_event 32 = .ok (.ireturn, 1) := by decide +kernel
theorem d_M_event_33 : decode b_M_event 33 = .ok (.aload_n 0, 1) := by decide +kernel
theorem d_M_event_34 : decode b_M_event 34 = .ok (.getfield 54, 3) := by decide +kernel
theorem d_M_event_37 : decode b_M_event 37 = .ok (.iload_n 1, 1) := by decide +kernel
theorem d_M_event_38 : decode b_M_event 38 = .ok (.iaload, 1) := by decide +kernel
theorem d_M_event_39 : decode b_M_event 39 = .ok (.ifCond .lt 6, 3) := by decide +kernel
theorem d_M_event_42 : decode b_M_event 42 = .ok (.bipush (-3), 2) := by decide +kernel
theorem d_M_event_44 : decode b_M_event 44 = .ok (.ireturn, 1) := by decide +kernel
theorem d_M_event_45 : decode b_M_event 45 = .ok (.aload_n 0, 1) := by decide +kernel
theorem d_M_event_46 : decode b_M_event 46 = .ok (.getfield 33, 3) := by decide +kernel
theorem d_M_event_49 : decode b_M_event 49 = .ok (.iconst 4, 1) := by decide +kernel
theorem d_M_event_50 : decode b_M_event 50 = .ok (.iload_n 1, 1) := by decide +kernel
theorem d_M_event_51 : decode b_M_event 51 = .ok (.imul, 1) := by decide +kernel
theorem d_M_event_52 : decode b_M_event 52 = .ok (.iload_n 2, 1) := by decide +kernel
theorem d_M_event_53 : decode b_M_event 53 = .ok (.iadd, 1) := by decide +kernel
theorem d_M_event_54 : decode b_M_event 54 = .ok (.iload_n 3, 1) := by decide +kernel
theorem d_M_event_55 : decode b_M_event 55 = .ok (.iastore, 1) := by decide +kernel
theorem d_M_event_56 : decode b_M_event 56 = .ok (.aload_n 0, 1) := by decide +kernel
theorem d_M_event_57 : decode b_M_event 57 = .ok (.getfield 48, 3) := by decide +kernel
theorem d_M_event_60 : decode b_M_event 60 = .ok (.iload_n 1, 1) := by decide +kernel
theorem d_M_event_61 : decode b_M_event 61 = .ok (.iconst 0, 1) := by decide +kernel
theorem d_M_event_62 : decode b_M_event 62 = .ok (.iastore, 1) := by decide +kernel
theorem d_M_event_63 : decode b_M_event 63 = .ok (.iconst 1, 1) := by decide +kernel
theorem d_M_event_64 : decode b_M_event 64 = .ok (.ireturn, 1) := by decide +kernel
theorem d_M_eventJ_0 : decode b_M_eventJ 0 = .ok (.lload_n 0, 1) := by decide +kernel
theorem d_M_eventJ_1 : decode b_M_eventJ 1 = .ok (.bipush 13, 2) := by decide +kernel
theorem d_M_eventJ_3 : decode b_M_eventJ 3 = .ok (.iconst 1, 1) := by decide +kernel
theorem d_M_eventJ_4 : decode b_M_eventJ 4 = .ok (.iconst 4, 1) := by decide +kernel
theorem d_M_eventJ_5 : decode b_M_eventJ 5 = .ok (.iconst 5, 1) := by decide +kernel
theorem d_M_eventJ_6 : decode b_M_eventJ 6 = .ok (.invokestatic 104, 3) := by decide +kernel
theorem d_M_eventJ_9 : decode b_M_eventJ 9 = .ok (.lcmp, 1) := by decide +kernel
theorem d_M_eventJ_10 : decode b_M_eventJ 10 = .ok (.ifCond .ne 5, 3) := by decide +kernel
theorem d_M_eventJ_13 : decode b_M_eventJ 13 = .ok (.iconst 0, 1) := by decide +kernel
theorem d_M_eventJ_14 : decode b_M_eventJ 14 = .ok (.ireturn, 1) := by decide +kernel
theorem d_M_eventJ_15 : decode b_M_eventJ 15 = .ok (.lload_n 0, 1) := by decide +kernel
theorem d_M_eventJ_16 : decode b_M_eventJ 16 = .ok (.bipush 21, 2) := by decide +kernel
theorem d_M_eventJ_18 : decode b_M_eventJ 18 = .ok (.bipush 19, 2) := by decide +kernel
theorem d_M_eventJ_20 : decode b_M_eventJ 20 = .ok (.iconst 5, 1) := by decide +kernel
theorem d_M_eventJ_21 : decode b_M_eventJ 21 = .ok (.iconst 4, 1) := by decide +kernel
theorem d_M_eventJ_22 : decode b_M_eventJ 22 = .ok (.invokestatic 104, 3) := by decide +kernel
theorem d_M_eventJ_25 : decode b_M_eventJ 25 = .ok (.lcmp, 1) := by decide +kernel
theorem d_M_eventJ_26 : decode b_M_eventJ 26 = .ok (.ifCond .ne 5, 3) := by decide +kernel
theorem d_M_eventJ_29 : decode b_M_eventJ 29 = .ok (.iconst 1, 1) := by decide +kernel
theorem d_M_eventJ_30 : decode b_M_eventJ 30 = .ok (.ireturn, 1) := by decide +kernel
theorem d_M_eventJ_31 : decode b_M_eventJ 31 = .ok (.lload_n 0, 1) := by decide +kernel
theorem d_M_eventJ_32 : decode b_M_eventJ 32 = .ok (.iconst 3, 1) := by decide +kernel
theorem d_M_eventJ_33 : decode b_M_eventJ 33 = .ok (.bipush 12, 2) := by decide +kernel
theorem d_M_eventJ_35 : decode b_M_eventJ 35 = .ok (.bipush 15, 2) := by decide +kernel
theorem d_M_eventJ_37 : decode b_M_eventJ 37 = .ok (.bipush 19, 2) := by decide +kernel
theorem d_M_eventJ_39 : decode b_M_eventJ 39 = .ok (.invokestatic 104, 3) := by decide +kernel
theorem d_M_eventJ_42 : decode b_M_eventJ 42 = .ok (.ldc2_w 98, 3) := by decide +kernel
theorem d_M_eventJ_45 : decode b_M_eventJ 45 = .ok (.lmul, 1) := by decide +kernel
theorem d_M_eventJ_46 : decode b_M_eventJ 46 = .ok (.ldc2_w 108, 3) := by decide +kernel
theorem d_M_eventJ_49 : decode b_M_eventJ 49 = .ok (.ladd, 1) := by decide +kernel
theorem d_M_eventJ_50 : decode b_M_eventJ 50 = .ok (.ldc2_w 98, 3) := by decide +kernel
theorem d_M_eventJ_53 : decode b_M_eventJ 53 = .ok (.lmul, 1) := by decide +kernel
theorem d_M_eventJ_54 : decode b_M_eventJ 54 = .ok (.ldc2_w 110, 3) := by decide +kernel
theorem d_M_eventJ_57 : decode b_M_eventJ 57 = .ok (.ladd, 1) := by decide +kernel
theorem d_M_eventJ_58 : decode b_M_eventJ 58 = .ok (.lcmp, 1) := by decide +kernel
theorem d_M_eventJ_59 : decode b_M_eventJ 59 = .ok (.ifCond .ne 5, 3) := by decide +kernel
theorem d_M_eventJ_62 : decode b_M_eventJ 62 = .ok (.iconst 2, 1) := by decide +kernel
theorem d_M_eventJ_63 : decode b_M_eventJ 63 = .ok (.ireturn, 1) := by decide +kernel
theorem d_M_eventJ_64 : decode b_M_eventJ 64 = .ok (.lload_n 0, 1) := by decide +kernel
theorem d_M_eventJ_65 : decode b_M_eventJ 65 = .ok (.iconst 4, 1) := by decide +kernel
theorem d_M_eventJ_66 : decode b_M_eventJ 66 = .ok (.iconst 5, 1) := by decide +kernel
theorem d_M_eventJ_67 : decode b_M_eventJ 67 = .ok (.iconst 1, 1) := by decide +kernel
theorem d_M_eventJ_68 : decode b_M_eventJ 68 = .ok (.bipush 20, 2) := by decide +kernel
theorem d_M_eventJ_70 : decode b_M_eventJ 70 = .ok (.invokestatic 104, 3) := by decide +kernel
theorem d_M_eventJ_73 : decode b_M_eventJ 73 = .ok (.ldc2_w 98, 3) := by decide +kernel
theorem d_M_eventJ_76 : decode b_M_eventJ 76 = .ok (.lmul, 1) := by decide +kernel
theorem d_M_eventJ_77 : decode b_M_eventJ 77 = .ok (.ldc2_w 112, 3) := by decide +kernel
theorem d_M_eventJ_80 : decode b_M_eventJ 80 = .ok (.ladd, 1) := by decide +kernel
theorem d_M_eventJ_81 : decode b_M_eventJ 81 = .ok (.lcmp, 1) := by decide +kernel
theorem d_M_eventJ_82 : decode b_M_eventJ 82 = .ok (.ifCond .ne 7, 3) := by decide +kernel
theorem d_M_eventJ_85 : decode b_M_eventJ 85 = .ok (.iconst 3, 1) := by decide +kernel
theorem d_M_eventJ_86 : decode b_M_eventJ 86 = .ok (.goto 4, 3) := by decide +kernel
theorem d_M_eventJ_89 : decode b_M_eventJ 89 = .ok (.iconst (-1), 1) := by decide +kernel
theorem d_M_eventJ_90 : decode b_M_eventJ 90 = .ok (.ireturn, 1) := by decide +kernel
theorem d_M_except_0 : decode b_M_except 0 = .ok (.aload_n 0, 1) := by decide +kernel
theorem d_M_except_1 : decode b_M_except 1 = .ok (.iconst 0, 1) := by decide +kernel
theorem d_M_except_2 : decode b_M_except 2 = .ok (.putfield 72, 3) := by decide +kernel
theorem d_M_except_5 : decode b_M_except 5 = .ok (.iload_n 1, 1) := by decide +kernel
theorem d_M_except_6 : decode b_M_except 6 = .ok (.invokestatic 149, 3) := by decide +kernel
theorem d_M_except_9 : decode b_M_except 9 = .ok (.ifCond .ne 5, 3) := by decide +kernel
theorem d_M_except_12 : decode b_M_except 12 = .ok (.iconst (-1), 1) := by decide +kernel
theorem d_M_except_13 : decode b_M_except 13 = .ok (.ireturn, 1) := by decide +kernel
theorem d_M_except_14 : decode b_M_except 14 = .ok (.iload_n 2, 1) := by decide +kernel
theorem d_M_except_15 : decode b_M_except 15 = .ok (.invokestatic 146, 3) := by decide +kernel
theorem d_M_except_18 : decode b_M_except 18 = .ok (.ifCond .ne 6, 3) := by decide +kernel
theorem d_M_except_21 : decode b_M_except 21 = .ok (.bipush (-2), 2) := by decide +kernel
theorem d_M_except_23 : decode b_M_except 23 = .ok (.ireturn, 1) := by decide +kernel
theorem d_M_except_24 : decode b_M_except 24 = .ok (.aload_n 0, 1) := by decide +kernel
theorem d_M_except_25 : decode b_M_except 25 = .ok (.getfield 45, 3) := by decide +kernel
theorem d_M_except_28 : decode b_M_except 28 = .ok (.iload_n 1, 1) := by decide +kernel
theorem d_M_except_29 : decode b_M_except 29 = .ok (.iload_n 2, 1) := by decide +kernel
theorem d_M_except_30 : decode b_M_except 30 = .ok (.iastore, 1) := by decide +kernel
theorem d_M_except_31 : decode b_M_except 31 = .ok (.aload_n 0, 1) := by decide +kernel
theorem d_M_except_32 : decode b_M_except 32 = .ok (.getfield 48, 3) := by decide +kernel
theorem d_M_except_35 : decode b_M_except 35 = .ok (.iload_n 1, 1) := by decide +kernel
theorem d_M_except_36 : decode b_M_except 36 = .ok (.iconst 0, 1) := by decide +kernel
theorem d_M_except_37 : decode b_M_except 37 = .ok (.iastore, 1) := by decide +kernel
theorem d_M_except_38 : decode b_M_except 38 = .ok (.iconst 1, 1) := by decide +kernel
theorem d_M_except_39 : decode b_M_except 39 = .ok (.ireturn, 1) := by decide +kernel
theorem d_M_fails_0 : decode b_M_fails 0 = .ok (.iconst 0, 1) := by decide +kernel
theorem d_M_fails_1 : decode b_M_fails 1 = .ok (.istore_n 2, 1) := by decide +kernel
theorem d_M_fails_2 : decode b_M_fails 2 = .ok (.iconst 0, 1) := by decide +kernel
theorem d_M_fails_3 : decode b_M_fails 3 = .ok (.istore_n 3, 1) := by decide +kernel
theorem d_M_fails_4 : decode b_M_fails 4 = .ok (.iload_n 3, 1) := by decide +kernel
theorem d_M_fails_5 : decode b_M_fails 5 = .ok (.aload_n 0, 1) := by decide +kernel
theorem d_M_fails_6 : decode b_M_fails 6 = .ok (.getfield 39, 3) := by decide +kernel
theorem d_M_fails_9 : decode b_M_fails 9 = .ok (.iload_n 1, 1) := by decide +kernel
theorem d_M_fails_10 : decode b_M_fails 10 = .ok (.iaload, 1) := by decide +kernel
theorem d_M_fails_11 : decode b_M_fails 11 = .ok (.if_icmp .ge 37, 3) := by decide +kernel
theorem d_M_fails_14 : decode b_M_fails 14 = .ok (.iload_n 2, 1) := by decide +kernel
theorem d_M_fails_15 : decode b_M_fails 15 = .ok (.ifCond .ne 21, 3) := by decide +kernel
theorem d_M_fails_18 : decode b_M_fails 18 = .ok (.aload_n 0, 1) := by decide +kernel
theorem d_M_fails_19 : decode b_M_fails 19 = .ok (.getfield 20, 3) := by decide +kernel
theorem d_M_fails_22 : decode b_M_fails 22 = .ok (.aload_n 0, 1) := by decide +kernel
theorem d_M_fails_23 : decode b_M_fails 23 = .ok (.getfield 36, 3) := by decide +kernel
theorem d_M_fails_26 : decode b_M_fails 26 = .ok (.iconst 4, 1) := by decide +kernel
theorem d_M_fails_27 : decode b_M_fails 27 = .ok (.iload_n 1, 1) := by decide +kernel
theorem d_M_fails_28 : decode b_M_fails 28 = .ok (.imul, 1) := by decide +kernel
theorem d_M_fails_29 : decode b_M_fails 29 = .ok (.iload_n 3, 1) := by decide +kernel
theorem d_M_fails_30 : decode b_M_fails 30 = .ok (.iadd, 1) := by decide +kernel
theorem d_M_fails_31 : decode b_M_fails 31 = .ok (.iaload, 1) := by decide +kernel
theorem d_M_fails_32 : decode b_M_fails 32 = .ok (.baload, 1) := by decide +kernel
theorem d_M_fails_33 : decode b_M_fails 33 = .ok (.ifCond .eq 7, 3) := by decide +kernel
theorem d_M_fails_36 : decode b_M_fails 36 = .ok (.iconst 1, 1) := by decide +kernel
theorem d_M_fails_37 : decode b_M_fails 37 = .ok (.goto 4, 3) := by decide +kernel
theorem d_M_fails_40 : decode b_M_fails 40 = .ok (.iconst 0, 1) := by decide +kernel
theorem d_M_fails_41 : decode b_M_fails 41 = .ok (.istore_n 2, 1) := by decide +kernel
theorem d_M_fails_42 : decode b_M_fails 42 = .ok (.iinc 3 1, 3) := by decide +kernel
theorem d_M_fails_45 : decode b_M_fails 45 = .ok (.goto (-41), 3) := by decide +kernel
theorem d_M_fails_48 : decode b_M_fails 48 = .ok (.iload_n 2, 1) := by decide +kernel
theorem d_M_fails_49 : decode b_M_fails 49 = .ok (.ireturn, 1) := by decide +kernel
theorem d_M_history_0 : decode b_M_history 0 = .ok (.aload_n 0, 1) := by decide +kernel
theorem d_M_history_1 : decode b_M_history 1 = .ok (.iload_n 1, 1) := by decide +kernel
theorem d_M_history_2 : decode b_M_history 2 = .ok (.iconst 0, 1) := by decide +kernel
theorem d_M_history_3 : decode b_M_history 3 = .ok (.aload_n 0, 1) := by decide +kernel
theorem d_M_history_4 : decode b_M_history 4 = .ok (.getfield 176, 3) := by decide +kernel
theorem d_M_history_7 : decode b_M_history 7 = .ok (.iconst 1, 1) := by decide +kernel
theorem d_M_history_8 : decode b_M_history 8 = .ok (.isub, 1) := by decide +kernel
theorem d_M_history_9 : decode b_M_history 9 = .ok (.invokestatic 76, 3) := by decide +kernel
theorem d_M_history_12 : decode b_M_history 12 = .ok (.ifCond .eq 7, 3) := by decide +kernel
theorem d_M_history_15 : decode b_M_history 15 = .ok (.iconst 0, 1) := by decide +kernel
theorem d_M_history_16 : decode b_M_history 16 = .ok (.goto 4, 3) := by decide +kernel
theorem d_M_history_19 : decode b_M_history 19 = .ok (.iconst 1, 1) := by decide +kernel
theorem d_M_history_20 : decode b_M_history 20 = .ok (.putfield 72, 3) := by decide +kernel
theorem d_M_history_23 : decode b_M_history 23 = .ok (.aload_n 0, 1) := by decide +kernel
theorem d_M_history_24 : decode b_M_history 24 = .ok (.getfield 72, 3) := by decide +kernel
theorem d_M_history_27 : decode b_M_history 27 = .ok (.ifCond .le 7, 3) := by decide +kernel
theorem d_M_history_30 : decode b_M_history 30 = .ok (.iconst 0, 1) := by decide +kernel
theorem d_M_history_31 : decode b_M_history 31 = .ok (.goto 9, 3) := by decide +kernel
theorem d_M_history_34 : decode b_M_history 34 = .ok (.aload_n 0, 1) := by decide +kernel
theorem d_M_history_35 : decode b_M_history 35 = .ok (.getfield 60, 3) := by decide +kernel
theorem d_M_history_38 : decode b_M_history 38 = .ok (.iload_n 1, 1) := by decide +kernel
theorem d_M_history_39 : decode b_M_history 39 = .ok (.iaload, 1) := by decide +kernel
theorem d_M_history_40 : decode b_M_history 40 = .ok (.ireturn, 1) := by decide +kernel
theorem d_M_hold_0 : decode b_M_hold 0 = .ok (.aload_n 0, 1) := by decide +kernel
theorem d_M_hold_1 : decode b_M_hold 1 = .ok (.iconst 0, 1) := by decide +kernel
theorem d_M_hold_2 : decode b_M_hold 2 = .ok (.putfield 72, 3) := by decide +kernel
theorem d_M_hold_5 : decode b_M_hold 5 = .ok (.iload_n 1, 1) := by decide +kernel
theorem d_M_hold_6 : decode b_M_hold 6 = .ok (.invokestatic 149, 3) := by decide +kernel
theorem d_M_hold_9 : decode b_M_hold 9 = .ok (.ifCond .ne 5, 3) := by decide +kernel
theorem d_M_hold_12 : decode b_M_hold 12 = .ok (.iconst (-1), 1) := by decide +kernel
theorem d_M_hold_13 : decode b_M_hold 13 = .ok (.ireturn, 1) := by decide +kernel
theorem d_M_hold_14 : decode b_M_hold 14 = .ok (.iload_n 2, 1) := by decide +kernel
theorem d_M_hold_15 : decode b_M_hold 15 = .ok (.iconst 0, 1) := by decide +kernel
theorem d_M_hold_16 : decode b_M_hold 16 = .ok (.iconst 3, 1) := by decide +kernel
theorem d_M_hold_17 : decode b_M_hold 17 = .ok (.invokestatic 76, 3) := by decide +kernel
theorem d_M_hold_20 : decode b_M_hold 20 = .ok (.ifCond .eq 13, 3) := by decide +kernel
theorem d_M_hold_23 : decode b_M_hold 23 = .ok (.iload_n 3, 1) := by decide +kernel
theorem d_M_hold_24 : decode b_M_hold 24 = .ok (.iconst (-1), 1) := by decide +kernel
theorem d_M_hold_25 : decode b_M_hold 25 = .ok (.ldc 80, 2) := by decide +kernel
theorem d_M_hold_27 : decode b_M_hold 27 = .ok (.invokestatic 76, 3) := by decide +kernel
theorem d_M_hold_30 : decode b_M_hold 30 = .ok (.ifCond .ne 6, 3) := by decide +kernel
theorem d_M_hold_33 : decode b_M_hold 33 = .ok (.bipush (-2), 2) := by decide +kernel
theorem d_M_hold_35 : decode b_M_hold 35 = .ok (.ireturn, 1) := by decide +kernel
theorem d_M_hold_36 : decode b_M_hold 36 = .ok (.aload_n 0, 1) := by decide +kernel
theorem d_M_hold_37 : decode b_M_hold 37 = .ok (.getfield 42, 3) := by decide +kernel
theorem d_M_hold_40 : decode b_M_hold 40 = .ok (.iconst 4, 1) := by decide +kernel
theorem d_M_hold_41 : decode b_M_hold 41 = .ok (.iload_n 1, 1) := by decide +kernel
theorem d_M_hold_42 : decode b_M_hold 42 = .ok (.imul, 1) := by decide +kernel
theorem d_M_hold_43 : decode b_M_hold 43 = .ok (.iload_n 2, 1) := by decide +kernel
theorem d_M_hold_44 : decode b_M_hold 44 = .ok (.iadd, 1) := by decide +kernel
theorem d_M_hold_45 : decode b_M_hold 45 = .ok (.iload_n 3, 1) := by decide +kernel
theorem d_M_hold_46 : decode b_M_hold 46 = .ok (.iastore, 1) := by decide +kernel
theorem d_M_hold_47 : decode b_M_hold 47 = .ok (.aload_n 0, 1) := by decide +kernel
theorem d_M_hold_48 : decode b_M_hold 48 = .ok (.getfield 48, 3) := by decide +kernel
theorem d_M_hold_51 : decode b_M_hold 51 = .ok (.iload_n 1, 1) := by decide +kernel
theorem d_M_hold_52 : decode b_M_hold 52 = .ok (.iconst 0, 1) := by decide +kernel
theorem d_M_hold_53 : decode b_M_hold 53 = .ok (.iastore, 1) := by decide +kernel
theorem d_M_hold_54 : decode b_M_hold 54 = .ok (.iconst 1, 1) := by decide +kernel
theorem d_M_hold_55 : decode b_M_hold 55 = .ok (.ireturn, 1) := by decide +kernel
theorem d_M_in_0 : decode b_M_in 0 = .ok (.iload_n 0, 1) := by decide +kernel
theorem d_M_in_1 : decode b_M_in 1 = .ok (.iload_n 1, 1) := by decide +kernel
theorem d_M_in_2 : decode b_M_in 2 = .ok (.if_icmp .lt 12, 3) := by decide +kernel
theorem d_M_in_5 : decode b_M_in 5 = .ok (.iload_n 0, 1) := by decide +kernel
theorem d_M_in_6 : decode b_M_in 6 = .ok (.iload_n 2, 1) := by decide +kernel
theorem d_M_in_7 : decode b_M_in 7 = .ok (.if_icmp .gt 7, 3) := by decide +kernel
theorem d_M_in_10 : decode b_M_in 10 = .ok (.iconst 1, 1) := by decide +kernel
theorem d_M_in_11 : decode b_M_in 11 = .ok (.goto 4, 3) := by decide +kernel
theorem d_M_in_14 : decode b_M_in 14 = .ok (.iconst 0, 1) := by decide +kernel
theorem d_M_in_15 : decode b_M_in 15 = .ok (.ireturn, 1) := by decide +kernel
theorem d_M_init_0 : decode b_M_init 0 = .ok (.aload_n 0, 1) := by decide +kernel
theorem d_M_init_1 : decode b_M_init 1 = .ok (.invokespecial 1, 3) := by decide +kernel
theorem d_M_init_4 : decode b_M_init 4 = .ok (.aload_n 0, 1) := by decide +kernel
theorem d_M_init_5 : decode b_M_init 5 = .ok (.bipush 40, 2) := by decide +kernel
theorem d_M_init_7 : decode b_M_init 7 = .ok (.newarray .byte, 2) := by decide +kernel
theorem d_M_init_9 : decode b_M_init 9 = .ok (.putfield 7, 3) := by decide +kernel
theorem d_M_init_12 : decode b_M_init 12 = .ok (.aload_n 0, 1) := by decide +kernel
theorem d_M_init_13 : decode b_M_init 13 = .ok (.bipush 20, 2) := by decide +kernel
theorem d_M_init_15 : decode b_M_init 15 = .ok (.newarray .int, 2) := by decide +kernel
theorem d_M_init_17 : decode b_M_init 17 = .ok (.putfield 13, 3) := by decide +kernel
theorem d_M_init_20 : decode b_M_init 20 = .ok (.aload_n 0, 1) := by decide +kernel
theorem d_M_init_21 : decode b_M_init 21 = .ok (.bipush 20, 2) := by decide +kernel
theorem d_M_init_23 : decode b_M_init 23 = .ok (.newarray .int, 2) := by decide +kernel
theorem d_M_init_25 : decode b_M_init 25 = .ok (.putfield 17, 3) := by decide +kernel
theorem d_M_init_28 : decode b_M_init 28 = .ok (.aload_n 0, 1) := by decide +kernel
theorem d_M_init_29 : decode b_M_init 29 = .ok (.bipush 20, 2) := by decide +kernel
theorem d_M_init_31 : decode b_M_init 31 = .ok (.newarray .boolean, 2) := by decide +kernel
theorem d_M_init_33 : decode b_M_init 33 = .ok (.putfield 20, 3) := by decide +kernel
theorem d_M_init_36 : decode b_M_init 36 = .ok (.aload_n 0, 1) := by decide +kernel
theorem d_M_init_37 : decode b_M_init 37 = .ok (.bipush 20, 2) := by decide +kernel
theorem d_M_init_39 : decode b_M_init 39 = .ok (.newarray .int, 2) := by decide +kernel
theorem d_M_init_41 : decode b_M_init 41 = .ok (.putfield 24, 3) := by decide +kernel
theorem d_M_init_44 : decode b_M_init 44 = .ok (.aload_n 0, 1) := by decide +kernel
theorem d_M_init_45 : decode b_M_init 45 = .ok (.bipush 120, 2) := by decide +kernel
theorem d_M_init_47 : decode b_M_init 47 = .ok (.newarray .int, 2) := by decide +kernel
theorem d_M_init_49 : decode b_M_init 49 = .ok (.putfield 27, 3) := by decide +kernel
theorem d_M_init_52 : decode b_M_init 52 = .ok (.aload_n 0, 1) := by decide +kernel
theorem d_M_init_53 : decode b_M_init 53 = .ok (.bipush 120, 2) := by decide +kernel
theorem d_M_init_55 : decode b_M_init 55 = .ok (.newarray .int, 2) := by decide +kernel
theorem d_M_init_57 : decode b_M_init 57 = .ok (.putfield 30, 3) := by decide +kernel
theorem d_M_init_60 : decode b_M_init 60 = .ok (.aload_n 0, 1) := by decide +kernel
theorem d_M_init_61 : decode b_M_init 61 = .ok (.sipush 240, 3) := by decide +kernel
theorem d_M_init_64 : decode b_M_init 64 = .ok (.newarray .int, 2) := by decide +kernel
theorem d_M_init_66 : decode b_M_init 66 = .ok (.putfield 33, 3) := by decide +kernel
theorem d_M_init_69 : decode b_M_init 69 = .ok (.aload_n 0, 1) := by decide +kernel
theorem d_M_init_70 : decode b_M_init 70 = .ok (.sipush 240, 3) := by decide +kernel
theorem d_M_init_73 : decode b_M_init 73 = .ok (.newarray .int, 2) := by decide +kernel
theorem d_M_init_75 : decode b_M_init 75 = .ok (.putfield 36, 3) := by decide +kernel
theorem d_M_init_78 : decode b_M_init 78 = .ok (.aload_n 0, 1) := by decide +kernel
theorem d_M_init_79 : decode b_M_init 79 = .ok (.bipush 60, 2) := by decide +kernel
theorem d_M_init_81 : decode b_M_init 81 = .ok (.newarray .int, 2) := by decide +kernel
theorem d_M_init_83 : decode b_M_init 83 = .ok (.putfield 39, 3) := by decide +kernel
theorem d_M_init_86 : decode b_M_init 86 = .ok (.aload_n 0, 1) := by decide +kernel
theorem d_M_init_87 : decode b_M_init 87 = .ok (.sipush 240, 3) := by decide +kernel
theorem d_M_init_90 : decode b_M_init 90 = .ok (.newarray .int, 2) := by decide +kernel
theorem d_M_init_92 : decode b_M_init 92 = .ok (.putfield 42, 3) := by decide +kernel
theorem d_M_init_95 : decode b_M_init 95 = .ok (.aload_n 0, 1) := by decide +kernel
theorem d_M_init_96 : decode b_M_init 96 = .ok (.bipush 60, 2) := by decide +kernel
theorem d_M_init_98 : decode b_M_init 98 = .ok (.newarray .int, 2) := by decide +kernel
theorem d_M_init_100 : decode b_M_init 100 = .ok (.putfield 45, 3) := by decide +kernel
theorem d_M_init_103 : decode b_M_init 103 = .ok (.aload_n 0, 1) := by decide +kernel
theorem d_M_init_104 : decode b_M_init 104 = .ok (.bipush 60, 2) := by decide +kernel
theorem d_M_init_106 : decode b_M_init 106 = .ok (.newarray .int, 2) := by decide +kernel
theorem d_M_init_108 : decode b_M_init 108 = .ok (.putfield 48, 3) := by decide +kernel
theorem d_M_init_111 : decode b_M_init 111 = .ok (.aload_n 0, 1) := by decide +kernel
theorem d_M_init_112 : decode b_M_init 112 = .ok (.bipush 60, 2) := by decide +kernel
theorem d_M_init_114 : decode b_M_init 114 = .ok (.newarray .int, 2) := by decide +kernel
theorem d_M_init_116 : decode b_M_init 116 = .ok (.putfield 51, 3) := by decide +kernel
theorem d_M_init_119 : decode b_M_init 119 = .ok (.aload_n 0, 1) := by decide +kernel
theorem d_M_init_120 : decode b_M_init 120 = .ok (.bipush 60, 2) := by decide +kernel
theorem d_M_init_122 : decode b_M_init 122 = .ok (.newarray .int, 2) := by decide +kernel
theorem d_M_init_124 : decode b_M_init 124 = .ok (.putfield 54, 3) := by decide +kernel
theorem d_M_init_127 : decode b_M_init 127 = .ok (.aload_n 0, 1) := by decide +kernel
theorem d_M_init_128 : decode b_M_init 128 = .ok (.bipush 60, 2) := by decide +kernel
theorem d_M_init_130 : decode b_M_init 130 = .ok (.newarray .int, 2) := by decide +kernel
theorem d_M_init_132 : decode b_M_init 132 = .ok (.putfield 57, 3) := by decide +kernel
theorem d_M_init_135 : decode b_M_init 135 = .ok (.aload_n 0, 1) := by decide +kernel
theorem d_M_init_136 : decode b_M_init 136 = .ok (.bipush 60, 2) := by decide +kernel
theorem d_M_init_138 : decode b_M_init 138 = .ok (.newarray .int, 2) := by decide +kernel
theorem d_M_init_140 : decode b_M_init 140 = .ok (.putfield 60, 3) := by decide +kernel
theorem d_M_init_143 : decode b_M_init 143 = .ok (.aload_n 0, 1) := by decide +kernel
theorem d_M_init_144 : decode b_M_init 144 = .ok (.bipush 60, 2) := by decide +kernel
theorem d_M_init_146 : decode b_M_init 146 = .ok (.newarray .int, 2) := by decide +kernel
theorem d_M_init_148 : decode b_M_init 148 = .ok (.putfield 63, 3) := by decide +kernel
theorem d_M_init_151 : decode b_M_init 151 = .ok (.aload_n 0, 1) := by decide +kernel
theorem d_M_init_152 : decode b_M_init 152 = .ok (.bipush 60, 2) := by decide +kernel
theorem d_M_init_154 : decode b_M_init 154 = .ok (.newarray .int, 2) := by decide +kernel
theorem d_M_init_156 : decode b_M_init 156 = .ok (.putfield 66, 3) := by decide +kernel
theorem d_M_init_159 : decode b_M_init 159 = .ok (.aload_n 0, 1) := by decide +kernel
theorem d_M_init_160 : decode b_M_init 160 = .ok (.bipush 60, 2) := by decide +kernel
