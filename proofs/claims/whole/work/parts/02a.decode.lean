theorem d_C_about_0 : decode b_C_about 0 = .ok (.aload_n 0, 1) := by decide +kernel
theorem d_C_about_1 : decode b_C_about 1 = .ok (.iload_n 1, 1) := by decide +kernel
theorem d_C_about_2 : decode b_C_about 2 = .ok (.invokevirtual 93, 3) := by decide +kernel
theorem d_C_about_5 : decode b_C_about 5 = .ok (.astore_n 3, 1) := by decide +kernel
theorem d_C_about_6 : decode b_C_about 6 = .ok (.aload_n 3, 1) := by decide +kernel
theorem d_C_about_7 : decode b_C_about 7 = .ok (.ifnonnull 5, 3) := by decide +kernel
theorem d_C_about_10 : decode b_C_about 10 = .ok (.iconst (-1), 1) := by decide +kernel
theorem d_C_about_11 : decode b_C_about 11 = .ok (.ireturn, 1) := by decide +kernel
theorem d_C_about_12 : decode b_C_about 12 = .ok (.iload_n 2, 1) := by decide +kernel
theorem d_C_about_13 : decode b_C_about 13 = .ok (.tableswitch 68 4 8 #[35, 40, 45, 58, 63], 35) := by decide +kernel
theorem d_C_about_48 : decode b_C_about 48 = .ok (.aload_n 3, 1) := by decide +kernel
theorem d_C_about_49 : decode b_C_about 49 = .ok (.invokevirtual 111, 3) := by decide +kernel
theorem d_C_about_52 : decode b_C_about 52 = .ok (.ireturn, 1) := by decide +kernel
theorem d_C_about_53 : decode b_C_about 53 = .ok (.aload_n 3, 1) := by decide +kernel
theorem d_C_about_54 : decode b_C_about 54 = .ok (.invokevirtual 162, 3) := by decide +kernel
theorem d_C_about_57 : decode b_C_about 57 = .ok (.ireturn, 1) := by decide +kernel
theorem d_C_about_58 : decode b_C_about 58 = .ok (.aload_n 3, 1) := by decide +kernel
theorem d_C_about_59 : decode b_C_about 59 = .ok (.invokevirtual 97, 3) := by decide +kernel
theorem d_C_about_62 : decode b_C_about 62 = .ok (.ifCond .eq 7, 3) := by decide +kernel
theorem d_C_about_65 : decode b_C_about 65 = .ok (.iconst 1, 1) := by decide +kernel
theorem d_C_about_66 : decode b_C_about 66 = .ok (.goto 4, 3) := by decide +kernel
theorem d_C_about_69 : decode b_C_about 69 = .ok (.iconst 0, 1) := by decide +kernel
theorem d_C_about_70 : decode b_C_about 70 = .ok (.ireturn, 1) := by decide +kernel
theorem d_C_about_71 : decode b_C_about 71 = .ok (.aload_n 3, 1) := by decide +kernel
theorem d_C_about_72 : decode b_C_about 72 = .ok (.invokevirtual 182, 3) := by decide +kernel
theorem d_C_about_75 : decode b_C_about 75 = .ok (.ireturn, 1) := by decide +kernel
theorem d_C_about_76 : decode b_C_about 76 = .ok (.aload_n 3, 1) := by decide +kernel
theorem d_C_about_77 : decode b_C_about 77 = .ok (.invokevirtual 185, 3) := by decide +kernel
theorem d_C_about_80 : decode b_C_about 80 = .ok (.ireturn, 1) := by decide +kernel
theorem d_C_about_81 : decode b_C_about 81 = .ok (.iload_n 2, 1) := by decide +kernel
theorem d_C_about_82 : decode b_C_about 82 = .ok (.ifCond .lt 16, 3) := by decide +kernel
theorem d_C_about_85 : decode b_C_about 85 = .ok (.iload_n 2, 1) := by decide +kernel
theorem d_C_about_86 : decode b_C_about 86 = .ok (.iconst 4, 1) := by decide +kernel
theorem d_C_about_87 : decode b_C_about 87 = .ok (.if_icmp .ge 11, 3) := by decide +kernel
theorem d_C_about_90 : decode b_C_about 90 = .ok (.aload_n 3, 1) := by decide +kernel
theorem d_C_about_91 : decode b_C_about 91 = .ok (.iload_n 2, 1) := by decide +kernel
theorem d_C_about_92 : decode b_C_about 92 = .ok (.invokevirtual 188, 3) := by decide +kernel
theorem d_C_about_95 : decode b_C_about 95 = .ok (.goto 4, 3) := by decide +kernel
theorem d_C_about_98 : decode b_C_about 98 = .ok (.iconst (-1), 1) := by decide +kernel
theorem d_C_about_99 : decode b_C_about 99 = .ok (.ireturn, 1) := by decide +kernel
theorem d_C_approve_0 : decode b_C_approve 0 = .ok (.aload_n 0, 1) := by decide +kernel
theorem d_C_approve_1 : decode b_C_approve 1 = .ok (.iload_n 1, 1) := by decide +kernel
theorem d_C_approve_2 : decode b_C_approve 2 = .ok (.invokevirtual 93, 3) := by decide +kernel
theorem d_C_approve_5 : decode b_C_approve 5 = .ok (.astore_n 3, 1) := by decide +kernel
theorem d_C_approve_6 : decode b_C_approve 6 = .ok (.aload_n 3, 1) := by decide +kernel
theorem d_C_approve_7 : decode b_C_approve 7 = .ok (.ifnonnull 5, 3) := by decide +kernel
theorem d_C_approve_10 : decode b_C_approve 10 = .ok (.iconst (-1), 1) := by decide +kernel
theorem d_C_approve_11 : decode b_C_approve 11 = .ok (.ireturn, 1) := by decide +kernel
theorem d_C_approve_12 : decode b_C_approve 12 = .ok (.iload_n 2, 1) := by decide +kernel
theorem d_C_approve_13 : decode b_C_approve 13 = .ok (.ifCond .lt 9, 3) := by decide +kernel
theorem d_C_approve_16 : decode b_C_approve 16 = .ok (.iload_n 2, 1) := by decide +kernel
theorem d_C_approve_17 : decode b_C_approve 17 = .ok (.bipush 100, 2) := by decide +kernel
theorem d_C_approve_19 : decode b_C_approve 19 = .ok (.if_icmp .lt 6, 3) := by decide +kernel
theorem d_C_approve_22 : decode b_C_approve 22 = .ok (.bipush (-2), 2) := by decide +kernel
theorem d_C_approve_24 : decode b_C_approve 24 = .ok (.ireturn, 1) := by decide +kernel
theorem d_C_approve_25 : decode b_C_approve 25 = .ok (.aload_n 3, 1) := by decide +kernel
theorem d_C_approve_26 : decode b_C_approve 26 = .ok (.invokevirtual 97, 3) := by decide +kernel
theorem d_C_approve_29 : decode b_C_approve 29 = .ok (.ifCond .ne 18, 3) := by decide +kernel
theorem d_C_approve_32 : decode b_C_approve 32 = .ok (.aload_n 3, 1) := by decide +kernel
theorem d_C_approve_33 : decode b_C_approve 33 = .ok (.invokevirtual 153, 3) := by decide +kernel
theorem d_C_approve_36 : decode b_C_approve 36 = .ok (.ifCond .ne 11, 3) := by decide +kernel
theorem d_C_approve_39 : decode b_C_approve 39 = .ok (.aload_n 3, 1) := by decide +kernel
theorem d_C_approve_40 : decode b_C_approve 40 = .ok (.iload_n 2, 1) := by decide +kernel
theorem d_C_approve_41 : decode b_C_approve 41 = .ok (.invokevirtual 156, 3) := by decide +kernel
theorem d_C_approve_44 : decode b_C_approve 44 = .ok (.ifCond .eq 6, 3) := by decide +kernel
theorem d_C_approve_47 : decode b_C_approve 47 = .ok (.bipush (-3), 2) := by decide +kernel
theorem d_C_approve_49 : decode b_C_approve 49 = .ok (.ireturn, 1) := by decide +kernel
theorem d_C_approve_50 : decode b_C_approve 50 = .ok (.aload_n 3, 1) := by decide +kernel
theorem d_C_approve_51 : decode b_C_approve 51 = .ok (.iload_n 2, 1) := by decide +kernel
theorem d_C_approve_52 : decode b_C_approve 52 = .ok (.invokevirtual 159, 3) := by decide +kernel
theorem d_C_approve_55 : decode b_C_approve 55 = .ok (.aload_n 3, 1) := by decide +kernel
theorem d_C_approve_56 : decode b_C_approve 56 = .ok (.invokevirtual 162, 3) := by decide +kernel
theorem d_C_approve_59 : decode b_C_approve 59 = .ok (.ireturn, 1) := by decide +kernel
theorem d_C_at_0 : decode b_C_at 0 = .ok (.aload_n 0, 1) := by decide +kernel
theorem d_C_at_1 : decode b_C_at 1 = .ok (.getfield 32, 3) := by decide +kernel
theorem d_C_at_4 : decode b_C_at 4 = .ok (.iload_n 1, 1) := by decide +kernel
theorem d_C_at_5 : decode b_C_at 5 = .ok (.invokevirtual 139, 3) := by decide +kernel
theorem d_C_at_8 : decode b_C_at 8 = .ok (.ifCond .eq 12, 3) := by decide +kernel
theorem d_C_at_11 : decode b_C_at 11 = .ok (.iload_n 2, 1) := by decide +kernel
theorem d_C_at_12 : decode b_C_at 12 = .ok (.ifCond .lt 8, 3) := by decide +kernel
theorem d_C_at_15 : decode b_C_at 15 = .ok (.iload_n 2, 1) := by decide +kernel
theorem d_C_at_16 : decode b_C_at 16 = .ok (.iconst 2, 1) := by decide +kernel
theorem d_C_at_17 : decode b_C_at 17 = .ok (.if_icmp .le 13, 3) := by decide +kernel
theorem d_C_at_20 : decode b_C_at 20 = .ok (.new 142, 3) := by decide +kernel
theorem d_C_at_23 : decode b_C_at 23 = .ok (.dup, 1) := by decide +kernel
theorem d_C_at_24 : decode b_C_at 24 = .ok (.ldc 144, 2) := by decide +kernel
theorem d_C_at_26 : decode b_C_at 26 = .ok (.invokespecial 146, 3) := by decide +kernel
theorem d_C_at_29 : decode b_C_at 29 = .ok (.athrow, 1) := by decide +kernel
theorem d_C_at_30 : decode b_C_at 30 = .ok (.aload_n 0, 1) := by decide +kernel
theorem d_C_at_31 : decode b_C_at 31 = .ok (.getfield 32, 3) := by decide +kernel
theorem d_C_at_34 : decode b_C_at 34 = .ok (.iload_n 1, 1) := by decide +kernel
theorem d_C_at_35 : decode b_C_at 35 = .ok (.iload_n 2, 1) := by decide +kernel
theorem d_C_at_36 : decode b_C_at 36 = .ok (.invokevirtual 149, 3) := by decide +kernel
theorem d_C_at_39 : decode b_C_at 39 = .ok (.ireturn, 1) := by decide +kernel
theorem d_C_breaks_0 : decode b_C_breaks 0 = .ok (.aload_n 0, 1) := by decide +kernel
theorem d_C_breaks_1 : decode b_C_breaks 1 = .ok (.iload_n 1, 1) := by decide +kernel
theorem d_C_breaks_2 : decode b_C_breaks 2 = .ok (.invokevirtual 71, 3) := by decide +kernel
theorem d_C_breaks_5 : decode b_C_breaks 5 = .ok (.astore_n 3, 1) := by decide +kernel
theorem d_C_breaks_6 : decode b_C_breaks 6 = .ok (.aload_n 3, 1) := by decide +kernel
theorem d_C_breaks_7 : decode b_C_breaks 7 = .ok (.ifnonnull 5, 3) := by decide +kernel
theorem d_C_breaks_10 : decode b_C_breaks 10 = .ok (.iconst 0, 1) := by decide +kernel
theorem d_C_breaks_11 : decode b_C_breaks 11 = .ok (.ireturn, 1) := by decide +kernel
theorem d_C_breaks_12 : decode b_C_breaks 12 = .ok (.aload_n 3, 1) := by decide +kernel
theorem d_C_breaks_13 : decode b_C_breaks 13 = .ok (.invokevirtual 86, 3) := by decide +kernel
theorem d_C_breaks_16 : decode b_C_breaks 16 = .ok (.istore 4, 2) := by decide +kernel
theorem d_C_breaks_18 : decode b_C_breaks 18 = .ok (.aload_n 3, 1) := by decide +kernel
theorem d_C_breaks_19 : decode b_C_breaks 19 = .ok (.iload_n 2, 1) := by decide +kernel
theorem d_C_breaks_20 : decode b_C_breaks 20 = .ok (.invokevirtual 89, 3) := by decide +kernel
theorem d_C_breaks_23 : decode b_C_breaks 23 = .ok (.iload 4, 2) := by decide +kernel
theorem d_C_breaks_25 : decode b_C_breaks 25 = .ok (.ireturn, 1) := by decide +kernel
theorem d_C_certificate_0 : decode b_C_certificate 0 = .ok (.aload_n 0, 1) := by decide +kernel
theorem d_C_certificate_1 : decode b_C_certificate 1 = .ok (.iload_n 1, 1) := by decide +kernel
theorem d_C_certificate_2 : decode b_C_certificate 2 = .ok (.invokevirtual 93, 3) := by decide +kernel
theorem d_C_certificate_5 : decode b_C_certificate 5 = .ok (.astore_n 3, 1) := by decide +kernel
theorem d_C_certificate_6 : decode b_C_certificate 6 = .ok (.aload_n 3, 1) := by decide +kernel
theorem d_C_certificate_7 : decode b_C_certificate 7 = .ok (.ifnonnull 5, 3) := by decide +kernel
theorem d_C_certificate_10 : decode b_C_certificate 10 = .ok (.iconst (-1), 1) := by decide +kernel
theorem d_C_certificate_11 : decode b_C_certificate 11 = .ok (.ireturn, 1) := by decide +kernel
theorem d_C_certificate_12 : decode b_C_certificate 12 = .ok (.iload_n 2, 1) := by decide +kernel
theorem d_C_certificate_13 : decode b_C_certificate 13 = .ok (.iconst 1, 1) := by decide +kernel
theorem d_C_certificate_14 : decode b_C_certificate 14 = .ok (.if_icmp .lt 9, 3) := by decide +kernel
theorem d_C_certificate_17 : decode b_C_certificate 17 = .ok (.iload_n 2, 1) := by decide +kernel
theorem d_C_certificate_18 : decode b_C_certificate 18 = .ok (.ldc 175, 2) := by decide +kernel
theorem d_C_certificate_20 : decode b_C_certificate 20 = .ok (.if_icmp .le 6, 3) := by decide +kernel
theorem d_C_certificate_23 : decode b_C_certificate 23 = .ok (.bipush (-2), 2) := by decide +kernel
theorem d_C_certificate_25 : decode b_C_certificate 25 = .ok (.ireturn, 1) := by decide +kernel
theorem d_C_certificate_26 : decode b_C_certificate 26 = .ok (.aload_n 3, 1) := by decide +kernel
theorem d_C_certificate_27 : decode b_C_certificate 27 = .ok (.invokevirtual 97, 3) := by decide +kernel
theorem d_C_certificate_30 : decode b_C_certificate 30 = .ok (.ifCond .eq 10, 3) := by decide +kernel
theorem d_C_certificate_33 : decode b_C_certificate 33 = .ok (.aload_n 3, 1) := by decide +kernel
theorem d_C_certificate_34 : decode b_C_certificate 34 = .ok (.invokevirtual 176, 3) := by decide +kernel
theorem d_C_certificate_37 : decode b_C_certificate 37 = .ok (.ifCond .eq 6, 3) := by decide +kernel
theorem d_C_certificate_40 : decode b_C_certificate 40 = .ok (.bipush (-3), 2) := by decide +kernel
theorem d_C_certificate_42 : decode b_C_certificate 42 = .ok (.ireturn, 1) := by decide +kernel
theorem d_C_certificate_43 : decode b_C_certificate 43 = .ok (.aload_n 3, 1) := by decide +kernel
theorem d_C_certificate_44 : decode b_C_certificate 44 = .ok (.iload_n 2, 1) := by decide +kernel
theorem d_C_certificate_45 : decode b_C_certificate 45 = .ok (.invokevirtual 179, 3) := by decide +kernel
theorem d_C_certificate_48 : decode b_C_certificate 48 = .ok (.iconst 1, 1) := by decide +kernel
theorem d_C_certificate_49 : decode b_C_certificate 49 = .ok (.ireturn, 1) := by decide +kernel
theorem d_C_change_0 : decode b_C_change 0 = .ok (.aload_n 0, 1) := by decide +kernel
theorem d_C_change_1 : decode b_C_change 1 = .ok (.iload_n 1, 1) := by decide +kernel
theorem d_C_change_2 : decode b_C_change 2 = .ok (.invokevirtual 71, 3) := by decide +kernel
theorem d_C_change_5 : decode b_C_change 5 = .ok (.astore 4, 2) := by decide +kernel
theorem d_C_change_7 : decode b_C_change 7 = .ok (.aload 4, 2) := by decide +kernel
theorem d_C_change_9 : decode b_C_change 9 = .ok (.ifnonnull 5, 3) := by decide +kernel
theorem d_C_change_12 : decode b_C_change 12 = .ok (.iconst (-1), 1) := by decide +kernel
theorem d_C_change_13 : decode b_C_change 13 = .ok (.ireturn, 1) := by decide +kernel
theorem d_C_change_14 : decode b_C_change 14 = .ok (.iload_n 2, 1) := by decide +kernel
theorem d_C_change_15 : decode b_C_change 15 = .ok (.ifCond .lt 17, 3) := by decide +kernel
theorem d_C_change_18 : decode b_C_change 18 = .ok (.iload_n 2, 1) := by decide +kernel
theorem d_C_change_19 : decode b_C_change 19 = .ok (.sipush 999, 3) := by decide +kernel
theorem d_C_change_22 : decode b_C_change 22 = .ok (.if_icmp .gt 10, 3) := by decide +kernel
theorem d_C_change_25 : decode b_C_change 25 = .ok (.iload_n 3, 1) := by decide +kernel
theorem d_C_change_26 : decode b_C_change 26 = .ok (.invokestatic 75, 3) := by decide +kernel
theorem d_C_change_29 : decode b_C_change 29 = .ok (.ifCond .ne 6, 3) := by decide +kernel
theorem d_C_change_32 : decode b_C_change 32 = .ok (.bipush (-2), 2) := by decide +kernel
theorem d_C_change_34 : decode b_C_change 34 = .ok (.ireturn, 1) := by decide +kernel
theorem d_C_change_35 : decode b_C_change 35 = .ok (.aload 4, 2) := by decide +kernel
theorem d_C_change_37 : decode b_C_change 37 = .ok (.iload_n 3, 1) := by decide +kernel
theorem d_C_change_38 : decode b_C_change 38 = .ok (.invokevirtual 79, 3) := by decide +kernel
theorem d_C_change_41 : decode b_C_change 41 = .ok (.ifCond .eq 6, 3) := by decide +kernel
theorem d_C_change_44 : decode b_C_change 44 = .ok (.bipush (-3), 2) := by decide +kernel
theorem d_C_change_46 : decode b_C_change 46 = .ok (.ireturn, 1) := by decide +kernel
theorem d_C_change_47 : decode b_C_change 47 = .ok (.aload 4, 2) := by decide +kernel
theorem d_C_change_49 : decode b_C_change 49 = .ok (.iload_n 2, 1) := by decide +kernel
theorem d_C_change_50 : decode b_C_change 50 = .ok (.iload_n 3, 1) := by decide +kernel
theorem d_C_change_51 : decode b_C_change 51 = .ok (.invokevirtual 82, 3) := by decide +kernel
theorem d_C_change_54 : decode b_C_change 54 = .ok (.ifCond .eq 7, 3) := by decide +kernel
theorem d_C_change_57 : decode b_C_change 57 = .ok (.iconst 1, 1) := by decide +kernel
theorem d_C_change_58 : decode b_C_change 58 = .ok (.goto 5, 3) := by decide +kernel
theorem d_C_change_61 : decode b_C_change 61 = .ok (.bipush (-4), 2) := by decide +kernel
theorem d_C_change_63 : decode b_C_change 63 = .ok (.ireturn, 1) := by decide +kernel
theorem d_C_day_0 : decode b_C_day 0 = .ok (.aload_n 0, 1) := by decide +kernel
theorem d_C_day_1 : decode b_C_day 1 = .ok (.iload_n 1, 1) := by decide +kernel
theorem d_C_day_2 : decode b_C_day 2 = .ok (.invokevirtual 93, 3) := by decide +kernel
theorem d_C_day_5 : decode b_C_day 5 = .ok (.astore_n 3, 1) := by decide +kernel
theorem d_C_day_6 : decode b_C_day 6 = .ok (.aload_n 3, 1) := by decide +kernel
theorem d_C_day_7 : decode b_C_day 7 = .ok (.ifnull 10, 3) := by decide +kernel
theorem d_C_day_10 : decode b_C_day 10 = .ok (.iload_n 2, 1) := by decide +kernel
theorem d_C_day_11 : decode b_C_day 11 = .ok (.invokestatic 75, 3) := by decide +kernel
theorem d_C_day_14 : decode b_C_day 14 = .ok (.ifCond .ne 6, 3) := by decide +kernel
theorem d_C_day_17 : decode b_C_day 17 = .ok (.bipush (-2), 2) := by decide +kernel
theorem d_C_day_19 : decode b_C_day 19 = .ok (.ireturn, 1) := by decide +kernel
theorem d_C_day_20 : decode b_C_day 20 = .ok (.aload_n 3, 1) := by decide +kernel
theorem d_C_day_21 : decode b_C_day 21 = .ok (.invokevirtual 119, 3) := by decide +kernel
theorem d_C_day_24 : decode b_C_day 24 = .ok (.ifCond .eq 8, 3) := by decide +kernel
theorem d_C_day_27 : decode b_C_day 27 = .ok (.bipush (-3), 2) := by decide +kernel
theorem d_C_day_29 : decode b_C_day 29 = .ok (.goto 8, 3) := by decide +kernel
theorem d_C_day_32 : decode b_C_day 32 = .ok (.aload_n 3, 1) := by decide +kernel
theorem d_C_day_33 : decode b_C_day 33 = .ok (.iload_n 2, 1) := by decide +kernel
theorem d_C_day_34 : decode b_C_day 34 = .ok (.invokevirtual 122, 3) := by decide +kernel
theorem d_C_day_37 : decode b_C_day 37 = .ok (.ireturn, 1) := by decide +kernel
theorem d_C_dispose_0 : decode b_C_dispose 0 = .ok (.aload_n 0, 1) := by decide +kernel
theorem d_C_dispose_1 : decode b_C_dispose 1 = .ok (.iload_n 1, 1) := by decide +kernel
theorem d_C_dispose_2 : decode b_C_dispose 2 = .ok (.invokevirtual 93, 3) := by decide +kernel
theorem d_C_dispose_5 : decode b_C_dispose 5 = .ok (.astore 4, 2) := by decide +kernel
theorem d_C_dispose_7 : decode b_C_dispose 7 = .ok (.aload 4, 2) := by decide +kernel
theorem d_C_dispose_9 : decode b_C_dispose 9 = .ok (.ifnonnull 5, 3) := by decide +kernel
theorem d_C_dispose_12 : decode b_C_dispose 12 = .ok (.iconst (-1), 1) := by decide +kernel
theorem d_C_dispose_13 : decode b_C_dispose 13 = .ok (.ireturn, 1) := by decide +kernel
theorem d_C_dispose_14 : decode b_C_dispose 14 = .ok (.iload_n 2, 1) := by decide +kernel
theorem d_C_dispose_15 : decode b_C_dispose 15 = .ok (.ifCond .eq 8, 3) := by decide +kernel
theorem d_C_dispose_18 : decode b_C_dispose 18 = .ok (.iload_n 2, 1) := by decide +kernel
theorem d_C_dispose_19 : decode b_C_dispose 19 = .ok (.iconst 1, 1) := by decide +kernel
theorem d_C_dispose_20 : decode b_C_dispose 20 = .ok (.if_icmp .ne 10, 3) := by decide +kernel
theorem d_C_dispose_23 : decode b_C_dispose 23 = .ok (.iload_n 3, 1) := by decide +kernel
theorem d_C_dispose_24 : decode b_C_dispose 24 = .ok (.invokestatic 75, 3) := by decide +kernel
theorem d_C_dispose_27 : decode b_C_dispose 27 = .ok (.ifCond .ne 6, 3) := by decide +kernel
theorem d_C_dispose_30 : decode b_C_dispose 30 = .ok (.bipush (-2), 2) := by decide +kernel
theorem d_C_dispose_32 : decode b_C_dispose 32 = .ok (.ireturn, 1) := by decide +kernel
theorem d_C_dispose_33 : decode b_C_dispose 33 = .ok (.aload_n 0, 1) := by decide +kernel
theorem d_C_dispose_34 : decode b_C_dispose 34 = .ok (.aload 4, 2) := by decide +kernel
theorem d_C_dispose_36 : decode b_C_dispose 36 = .ok (.iload_n 2, 1) := by decide +kernel
theorem d_C_dispose_37 : decode b_C_dispose 37 = .ok (.iload_n 3, 1) := by decide +kernel
theorem d_C_dispose_38 : decode b_C_dispose 38 = .ok (.invokevirtual 165, 3) := by decide +kernel
theorem d_C_dispose_41 : decode b_C_dispose 41 = .ok (.istore 5, 2) := by decide +kernel
theorem d_C_dispose_43 : decode b_C_dispose 43 = .ok (.iload 5, 2) := by decide +kernel
theorem d_C_dispose_45 : decode b_C_dispose 45 = .ok (.ifCond .eq 9, 3) := by decide +kernel
theorem d_C_dispose_48 : decode b_C_dispose 48 = .ok (.bipush (-10), 2) := by decide +kernel
theorem d_C_dispose_50 : decode b_C_dispose 50 = .ok (.iload 5, 2) := by decide +kernel
theorem d_C_dispose_52 : decode b_C_dispose 52 = .ok (.isub, 1) := by decide +kernel
theorem d_C_dispose_53 : decode b_C_dispose 53 = .ok (.ireturn, 1) := by decide +kernel
theorem d_C_dispose_54 : decode b_C_dispose 54 = .ok (.aload 4, 2) := by decide +kernel
theorem d_C_dispose_56 : decode b_C_dispose 56 = .ok (.iload_n 3, 1) := by decide +kernel
theorem d_C_dispose_57 : decode b_C_dispose 57 = .ok (.invokevirtual 169, 3) := by decide +kernel
theorem d_C_dispose_60 : decode b_C_dispose 60 = .ok (.aload_n 0, 1) := by decide +kernel
theorem d_C_dispose_61 : decode b_C_dispose 61 = .ok (.iload_n 1, 1) := by decide +kernel
theorem d_C_dispose_62 : decode b_C_dispose 62 = .ok (.invokevirtual 172, 3) := by decide +kernel
theorem d_C_dispose_65 : decode b_C_dispose 65 = .ok (.iconst 1, 1) := by decide +kernel
theorem d_C_dispose_66 : decode b_C_dispose 66 = .ok (.ireturn, 1) := by decide +kernel
theorem d_C_due_0 : decode b_C_due 0 = .ok (.iload_n 1, 1) := by decide +kernel
theorem d_C_due_1 : decode b_C_due 1 = .ok (.invokestatic 75, 3) := by decide +kernel
theorem d_C_due_4 : decode b_C_due 4 = .ok (.ifCond .ne 6, 3) := by decide +kernel
theorem d_C_due_7 : decode b_C_due 7 = .ok (.bipush (-2), 2) := by decide +kernel
theorem d_C_due_9 : decode b_C_due 9 = .ok (.ireturn, 1) := by decide +kernel
theorem d_C_due_10 : decode b_C_due 10 = .ok (.aload_n 0, 1) := by decide +kernel
theorem d_C_due_11 : decode b_C_due 11 = .ok (.getfield 32, 3) := by decide +kernel
theorem d_C_due_14 : decode b_C_due 14 = .ok (.invokevirtual 126, 3) := by decide +kernel
theorem d_C_due_17 : decode b_C_due 17 = .ok (.iconst 0, 1) := by decide +kernel
theorem d_C_due_18 : decode b_C_due 18 = .ok (.istore_n 2, 1) := by decide +kernel
theorem d_C_due_19 : decode b_C_due 19 = .ok (.iload_n 2, 1) := by decide +kernel
theorem d_C_due_20 : decode b_C_due 20 = .ok (.aload_n 0, 1) := by decide +kernel
theorem d_C_due_21 : decode b_C_due 21 = .ok (.getfield 24, 3) := by decide +kernel
theorem d_C_due_24 : decode b_C_due 24 = .ok (.arraylength, 1) := by decide +kernel
theorem d_C_due_25 : decode b_C_due 25 = .ok (.if_icmp .ge 46, 3) := by decide +kernel
theorem d_C_due_28 : decode b_C_due 28 = .ok (.aload_n 0, 1) := by decide +kernel
theorem d_C_due_29 : decode b_C_due 29 = .ok (.getfield 24, 3) := by decide +kernel
theorem d_C_due_32 : decode b_C_due 32 = .ok (.iload_n 2, 1) := by decide +kernel
theorem d_C_due_33 : decode b_C_due 33 = .ok (.aaload, 1) := by decide +kernel
theorem d_C_due_34 : decode b_C_due 34 = .ok (.astore_n 3, 1) := by decide +kernel
theorem d_C_due_35 : decode b_C_due 35 = .ok (.aload_n 3, 1) := by decide +kernel
theorem d_C_due_36 : decode b_C_due 36 = .ok (.ifnull 29, 3) := by decide +kernel
theorem d_C_due_39 : decode b_C_due 39 = .ok (.aload_n 3, 1) := by decide +kernel
theorem d_C_due_40 : decode b_C_due 40 = .ok (.iload_n 1, 1) := by decide +kernel
theorem d_C_due_41 : decode b_C_due 41 = .ok (.invokevirtual 127, 3) := by decide +kernel
theorem d_C_due_44 : decode b_C_due 44 = .ok (.ifCond .eq 21, 3) := by decide +kernel
theorem d_C_due_47 : decode b_C_due 47 = .ok (.aload_n 0, 1) := by decide +kernel
theorem d_C_due_48 : decode b_C_due 48 = .ok (.getfield 32, 3) := by decide +kernel
theorem d_C_due_51 : decode b_C_due 51 = .ok (.iload_n 2, 1) := by decide +kernel
theorem d_C_due_52 : decode b_C_due 52 = .ok (.aload_n 3, 1) := by decide +kernel
theorem d_C_due_53 : decode b_C_due 53 = .ok (.iload_n 1, 1) := by decide +kernel
theorem d_C_due_54 : decode b_C_due 54 = .ok (.invokevirtual 122, 3) := by decide +kernel
theorem d_C_due_57 : decode b_C_due 57 = .ok (.aload_n 3, 1) := by decide +kernel
theorem d_C_due_58 : decode b_C_due 58 = .ok (.iload_n 1, 1) := by decide +kernel
theorem d_C_due_59 : decode b_C_due 59 = .ok (.invokevirtual 130, 3) := by decide +kernel
theorem d_C_due_62 : decode b_C_due 62 = .ok (.invokevirtual 133, 3) := by decide +kernel
theorem d_C_due_65 : decode b_C_due 65 = .ok (.iinc 2 1, 3) := by decide +kernel
theorem d_C_due_68 : decode b_C_due 68 = .ok (.goto (-49), 3) := by decide +kernel
theorem d_C_due_71 : decode b_C_due 71 = .ok (.aload_n 0, 1) := by decide +kernel
theorem d_C_due_72 : decode b_C_due 72 = .ok (.getfield 32, 3) := by decide +kernel
theorem d_C_due_75 : decode b_C_due 75 = .ok (.invokevirtual 136, 3) := by decide +kernel
theorem d_C_due_78 : decode b_C_due 78 = .ok (.ireturn, 1) := by decide +kernel
theorem d_C_event_0 : decode b_C_event 0 = .ok (.aload_n 0, 1) := by decide +kernel
theorem d_C_event_1 : decode b_C_event 1 = .ok (.iload_n 1, 1) := by decide +kernel
theorem d_C_event_2 : decode b_C_event 2 = .ok (.invokevirtual 93, 3) := by decide +kernel
theorem d_C_event_5 : decode b_C_event 5 = .ok (.astore 4, 2) := by decide +kernel
theorem d_C_event_7 : decode b_C_event 7 = .ok (.aload 4, 2) := by decide +kernel
theorem d_C_event_9 : decode b_C_event 9 = .ok (.ifnonnull 5, 3) := by decide +kernel
theorem d_C_event_12 : decode b_C_event 12 = .ok (.iconst (-1), 1) := by decide +kernel
theorem d_C_event_13 : decode b_C_event 13 = .ok (.ireturn, 1) := by decide +kernel
theorem d_C_event_14 : decode b_C_event 14 = .ok (.iload_n 2, 1) := by decide +kernel
theorem d_C_event_15 : decode b_C_event 15 = .ok (.ifCond .lt 15, 3) := by decide +kernel
theorem d_C_event_18 : decode b_C_event 18 = .ok (.iload_n 2, 1) := by decide +kernel
theorem d_C_event_19 : decode b_C_event 19 = .ok (.iconst 4, 1) := by decide +kernel
theorem d_C_event_20 : decode b_C_event 20 = .ok (.if_icmp .ge 10, 3) := by decide +kernel
theorem d_C_event_23 : decode b_C_event 23 = .ok (.iload_n 3, 1) := by decide +kernel
theorem d_C_event_24 : decode b_C_event 24 = .ok (.invokestatic 75, 3) := by decide +kernel
theorem d_C_event_27 : decode b_C_event 27 = .ok (.ifCond .ne 6, 3) := by decide +kernel
theorem d_C_event_30 : decode b_C_event 30 = .ok (.bipush (-2), 2) := by decide +kernel
theorem d_C_event_32 : decode b_C_event 32 = .ok (.ireturn, 1) := by decide +kernel
theorem d_C_event_33 : decode b_C_event 33 = .ok (.aload 4, 2) := by decide +kernel
theorem d_C_event_35 : decode b_C_event 35 = .ok (.invokevirtual 97, 3) := by decide +kernel
theorem d_C_event_38 : decode b_C_event 38 = .ok (.ifCond .eq 6, 3) := by decide +kernel
theorem d_C_event_41 : decode b_C_event 41 = .ok (.bipush (-3), 2) := by decide +kernel
theorem d_C_event_43 : decode b_C_event 43 = .ok (.ireturn, 1) := by decide +kernel
theorem d_C_event_44 : decode b_C_event 44 = .ok (.aload 4, 2) := by decide +kernel
theorem d_C_event_46 : decode b_C_event 46 = .ok (.iload_n 2, 1) := by decide +kernel
theorem d_C_event_47 : decode b_C_event 47 = .ok (.iload_n 3, 1) := by decide +kernel
theorem d_C_event_48 : decode b_C_event 48 = .ok (.invokevirtual 100, 3) := by decide +kernel
theorem d_C_event_51 : decode b_C_event 51 = .ok (.iconst 1, 1) := by decide +kernel
theorem d_C_event_52 : decode b_C_event 52 = .ok (.ireturn, 1) := by decide +kernel
theorem d_C_except_0 : decode b_C_except 0 = .ok (.aload_n 0, 1) := by decide +kernel
theorem d_C_except_1 : decode b_C_except 1 = .ok (.iload_n 1, 1) := by decide +kernel
theorem d_C_except_2 : decode b_C_except 2 = .ok (.invokevirtual 93, 3) := by decide +kernel
theorem d_C_except_5 : decode b_C_except 5 = .ok (.astore_n 3, 1) := by decide +kernel
theorem d_C_except_6 : decode b_C_except 6 = .ok (.aload_n 3, 1) := by decide +kernel
theorem d_C_except_7 : decode b_C_except 7 = .ok (.ifnonnull 5, 3) := by decide +kernel
theorem d_C_except_10 : decode b_C_except 10 = .ok (.iconst (-1), 1) := by decide +kernel
theorem d_C_except_11 : decode b_C_except 11 = .ok (.ireturn, 1) := by decide +kernel
theorem d_C_except_12 : decode b_C_except 12 = .ok (.iload_n 2, 1) := by decide +kernel
theorem d_C_except_13 : decode b_C_except 13 = .ok (.invokestatic 75, 3) := by decide +kernel
theorem d_C_except_16 : decode b_C_except 16 = .ok (.ifCond .ne 6, 3) := by decide +kernel
theorem d_C_except_19 : decode b_C_except 19 = .ok (.bipush (-2), 2) := by decide +kernel
theorem d_C_except_21 : decode b_C_except 21 = .ok (.ireturn, 1) := by decide +kernel
theorem d_C_except_22 : decode b_C_except 22 = .ok (.aload_n 3, 1) := by decide +kernel
theorem d_C_except_23 : decode b_C_except 23 = .ok (.iload_n 2, 1) := by decide +kernel
theorem d_C_except_24 : decode b_C_except 24 = .ok (.invokevirtual 116, 3) := by decide +kernel
theorem d_C_except_27 : decode b_C_except 27 = .ok (.iconst 1, 1) := by decide +kernel
theorem d_C_except_28 : decode b_C_except 28 = .ok (.ireturn, 1) := by decide +kernel
theorem d_C_findRule_0 : decode b_C_findRule 0 = .ok (.iload_n 1, 1) := by decide +kernel
theorem d_C_findRule_1 : decode b_C_findRule 1 = .ok (.ifCond .lt 29, 3) := by decide +kernel
theorem d_C_findRule_4 : decode b_C_findRule 4 = .ok (.iload_n 1, 1) := by decide +kernel
theorem d_C_findRule_5 : decode b_C_findRule 5 = .ok (.aload_n 0, 1) := by decide +kernel
theorem d_C_findRule_6 : decode b_C_findRule 6 = .ok (.getfield 55, 3) := by decide +kernel
theorem d_C_findRule_9 : decode b_C_findRule 9 = .ok (.if_icmp .ge 21, 3) := by decide +kernel
theorem d_C_findRule_12 : decode b_C_findRule 12 = .ok (.iload_n 1, 1) := by decide +kernel
theorem d_C_findRule_13 : decode b_C_findRule 13 = .ok (.aload_n 0, 1) := by decide +kernel
theorem d_C_findRule_14 : decode b_C_findRule 14 = .ok (.getfield 18, 3) := by decide +kernel
theorem d_C_findRule_17 : decode b_C_findRule 17 = .ok (.arraylength, 1) := by decide +kernel
theorem d_C_findRule_18 : decode b_C_findRule 18 = .ok (.if_icmp .ge 12, 3) := by decide +kernel
theorem d_C_findRule_21 : decode b_C_findRule 21 = .ok (.aload_n 0, 1) := by decide +kernel
theorem d_C_findRule_22 : decode b_C_findRule 22 = .ok (.getfield 18, 3) := by decide +kernel
theorem d_C_findRule_25 : decode b_C_findRule 25 = .ok (.iload_n 1, 1) := by decide +kernel
theorem d_C_findRule_26 : decode b_C_findRule 26 = .ok (.aaload, 1) := by decide +kernel
theorem d_C_findRule_27 : decode b_C_findRule 27 = .ok (.goto 4, 3) := by decide +kernel
theorem d_C_findRule_30 : decode b_C_findRule 30 = .ok (.aconst_null, 1) := by decide +kernel
theorem d_C_findRule_31 : decode b_C_findRule 31 = .ok (.areturn, 1) := by decide +kernel
theorem d_C_findUnit_0 : decode b_C_findUnit 0 = .ok (.iload_n 1, 1) := by decide +kernel
theorem d_C_findUnit_1 : decode b_C_findUnit 1 = .ok (.ifCond .lt 21, 3) := by decide +kernel
theorem d_C_findUnit_4 : decode b_C_findUnit 4 = .ok (.iload_n 1, 1) := by decide +kernel
theorem d_C_findUnit_5 : decode b_C_findUnit 5 = .ok (.aload_n 0, 1) := by decide +kernel
theorem d_C_findUnit_6 : decode b_C_findUnit 6 = .ok (.getfield 24, 3) := by decide +kernel
theorem d_C_findUnit_9 : decode b_C_findUnit 9 = .ok (.arraylength, 1) := by decide +kernel
theorem d_C_findUnit_10 : decode b_C_findUnit 10 = .ok (.if_icmp .ge 12, 3) := by decide +kernel
theorem d_C_findUnit_13 : decode b_C_findUnit 13 = .ok (.aload_n 0, 1) := by decide +kernel
theorem d_C_findUnit_14 : decode b_C_findUnit 14 = .ok (.getfield 24, 3) := by decide +kernel
theorem d_C_findUnit_17 : decode b_C_findUnit 17 = .ok (.iload_n 1, 1) := by decide +kernel
theorem d_C_findUnit_18 : decode b_C_findUnit 18 = .ok (.aaload, 1) := by decide +kernel
theorem d_C_findUnit_19 : decode b_C_findUnit 19 = .ok (.goto 4, 3) := by decide +kernel
theorem d_C_findUnit_22 : decode b_C_findUnit 22 = .ok (.aconst_null, 1) := by decide +kernel
theorem d_C_findUnit_23 : decode b_C_findUnit 23 = .ok (.areturn, 1) := by decide +kernel
theorem d_C_history_0 : decode b_C_history 0 = .ok (.iload_n 1, 1) := by decide +kernel
theorem d_C_history_1 : decode b_C_history 1 = .ok (.ifCond .lt 20, 3) := by decide +kernel
theorem d_C_history_4 : decode b_C_history 4 = .ok (.iload_n 1, 1) := by decide +kernel
theorem d_C_history_5 : decode b_C_history 5 = .ok (.aload_n 0, 1) := by decide +kernel
theorem d_C_history_6 : decode b_C_history 6 = .ok (.getfield 191, 3) := by decide +kernel
theorem d_C_history_9 : decode b_C_history 9 = .ok (.if_icmp .ge 12, 3) := by decide +kernel
theorem d_C_history_12 : decode b_C_history 12 = .ok (.iload_n 1, 1) := by decide +kernel
theorem d_C_history_13 : decode b_C_history 13 = .ok (.aload_n 0, 1) := by decide +kernel
theorem d_C_history_14 : decode b_C_history 14 = .ok (.getfield 36, 3) := by decide +kernel
theorem d_C_history_17 : decode b_C_history 17 = .ok (.arraylength, 1) := by decide +kernel
theorem d_C_history_18 : decode b_C_history 18 = .ok (.if_icmp .lt 13, 3) := by decide +kernel
theorem d_C_history_21 : decode b_C_history 21 = .ok (.new 142, 3) := by decide +kernel
theorem d_C_history_24 : decode b_C_history 24 = .ok (.dup, 1) := by decide +kernel
theorem d_C_history_25 : decode b_C_history 25 = .ok (.ldc 194, 2) := by decide +kernel
theorem d_C_history_27 : decode b_C_history 27 = .ok (.invokespecial 146, 3) := by decide +kernel
theorem d_C_history_30 : decode b_C_history 30 = .ok (.athrow, 1) := by decide +kernel
theorem d_C_history_31 : decode b_C_history 31 = .ok (.aload_n 0, 1) := by decide +kernel
theorem d_C_history_32 : decode b_C_history 32 = .ok (.getfield 36, 3) := by decide +kernel
theorem d_C_history_35 : decode b_C_history 35 = .ok (.iload_n 1, 1) := by decide +kernel
theorem d_C_history_36 : decode b_C_history 36 = .ok (.iaload, 1) := by decide +kernel
theorem d_C_history_37 : decode b_C_history 37 = .ok (.ireturn, 1) := by decide +kernel
theorem d_C_hold_0 : decode b_C_hold 0 = .ok (.aload_n 0, 1) := by decide +kernel
theorem d_C_hold_1 : decode b_C_hold 1 = .ok (.iload_n 1, 1) := by decide +kernel
theorem d_C_hold_2 : decode b_C_hold 2 = .ok (.invokevirtual 93, 3) := by decide +kernel
theorem d_C_hold_5 : decode b_C_hold 5 = .ok (.astore 4, 2) := by decide +kernel
theorem d_C_hold_7 : decode b_C_hold 7 = .ok (.aload 4, 2) := by decide +kernel
theorem d_C_hold_9 : decode b_C_hold 9 = .ok (.ifnonnull 5, 3) := by decide +kernel
theorem d_C_hold_12 : decode b_C_hold 12 = .ok (.iconst (-1), 1) := by decide +kernel
theorem d_C_hold_13 : decode b_C_hold 13 = .ok (.ireturn, 1) := by decide +kernel
theorem d_C_hold_14 : decode b_C_hold 14 = .ok (.iload_n 2, 1) := by decide +kernel
theorem d_C_hold_15 : decode b_C_hold 15 = .ok (.ifCond .lt 20, 3) := by decide +kernel
theorem d_C_hold_18 : decode b_C_hold 18 = .ok (.iload_n 2, 1) := by decide +kernel
theorem d_C_hold_19 : decode b_C_hold 19 = .ok (.iconst 4, 1) := by decide +kernel
theorem d_C_hold_20 : decode b_C_hold 20 = .ok (.if_icmp .ge 15, 3) := by decide +kernel
theorem d_C_hold_23 : decode b_C_hold 23 = .ok (.iload_n 3, 1) := by decide +kernel
theorem d_C_hold_24 : decode b_C_hold 24 = .ok (.iconst (-1), 1) := by decide +kernel
theorem d_C_hold_25 : decode b_C_hold 25 = .ok (.if_icmp .eq 13, 3) := by decide +kernel
theorem d_C_hold_28 : decode b_C_hold 28 = .ok (.iload_n 3, 1) := by decide +kernel
theorem d_C_hold_29 : decode b_C_hold 29 = .ok (.invokestatic 75, 3) := by decide +kernel
theorem d_C_hold_32 : decode b_C_hold 32 = .ok (.ifCond .ne 6, 3) := by decide +kernel
theorem d_C_hold_35 : decode b_C_hold 35 = .ok (.bipush (-2), 2) := by decide +kernel
theorem d_C_hold_37 : decode b_C_hold 37 = .ok (.ireturn, 1) := by decide +kernel
theorem d_C_hold_38 : decode b_C_hold 38 = .ok (.aload 4, 2) := by decide +kernel
theorem d_C_hold_40 : decode b_C_hold 40 = .ok (.iload_n 2, 1) := by decide +kernel
theorem d_C_hold_41 : decode b_C_hold 41 = .ok (.iload_n 3, 1) := by decide +kernel
theorem d_C_hold_42 : decode b_C_hold 42 = .ok (.invokevirtual 113, 3) := by decide +kernel
theorem d_C_hold_45 : decode b_C_hold 45 = .ok (.iconst 1, 1) := by decide +kernel
theorem d_C_hold_46 : decode b_C_hold 46 = .ok (.ireturn, 1) := by decide +kernel
theorem d_C_init_0 : decode b_C_init 0 = .ok (.aload_n 0, 1) := by decide +kernel
theorem d_C_init_1 : decode b_C_init 1 = .ok (.invokespecial 1, 3) := by decide +kernel
theorem d_C_init_4 : decode b_C_init 4 = .ok (.aload_n 0, 1) := by decide +kernel
theorem d_C_init_5 : decode b_C_init 5 = .ok (.new 7, 3) := by decide +kernel
theorem d_C_init_8 : decode b_C_init 8 = .ok (.dup, 1) := by decide +kernel
theorem d_C_init_9 : decode b_C_init 9 = .ok (.invokespecial 9, 3) := by decide +kernel
theorem d_C_init_12 : decode b_C_init 12 = .ok (.putfield 10, 3) := by decide +kernel
theorem d_C_init_15 : decode b_C_init 15 = .ok (.aload_n 0, 1) := by decide +kernel
theorem d_C_init_16 : decode b_C_init 16 = .ok (.bipush 20, 2) := by decide +kernel
theorem d_C_init_18 : decode b_C_init 18 = .ok (.anewarray 16, 3) := by decide +kernel
theorem d_C_init_21 : decode b_C_init 21 = .ok (.putfield 18, 3) := by decide +kernel
theorem d_C_init_24 : decode b_C_init 24 = .ok (.aload_n 0, 1) := by decide +kernel
theorem d_C_init_25 : decode b_C_init 25 = .ok (.bipush 60, 2) := by decide +kernel
theorem d_C_init_27 : decode b_C_init 27 = .ok (.anewarray 22, 3) := by decide +kernel
theorem d_C_init_30 : decode b_C_init 30 = .ok (.putfield 24, 3) := by decide +kernel
theorem d_C_init_33 : decode b_C_init 33 = .ok (.iconst 0, 1) := by decide +kernel
theorem d_C_init_34 : decode b_C_init 34 = .ok (.istore_n 1, 1) := by decide +kernel
theorem d_C_init_35 : decode b_C_init 35 = .ok (.iload_n 1, 1) := by decide +kernel
theorem d_C_init_36 : decode b_C_init 36 = .ok (.aload_n 0, 1) := by decide +kernel
theorem d_C_init_37 : decode b_C_init 37 = .ok (.getfield 24, 3) := by decide +kernel
theorem d_C_init_40 : decode b_C_init 40 = .ok (.arraylength, 1) := by decide +kernel
theorem d_C_init_41 : decode b_C_init 41 = .ok (.if_icmp .ge 22, 3) := by decide +kernel
theorem d_C_init_44 : decode b_C_init 44 = .ok (.aload_n 0, 1) := by decide +kernel
theorem d_C_init_45 : decode b_C_init 45 = .ok (.getfield 24, 3) := by decide +kernel
theorem d_C_init_48 : decode b_C_init 48 = .ok (.iload_n 1, 1) := by decide +kernel
theorem d_C_init_49 : decode b_C_init 49 = .ok (.new 22, 3) := by decide +kernel
theorem d_C_init_52 : decode b_C_init 52 = .ok (.dup, 1) := by decide +kernel
theorem d_C_init_53 : decode b_C_init 53 = .ok (.invokespecial 28, 3) := by decide +kernel
theorem d_C_init_56 : decode b_C_init 56 = .ok (.aastore, 1) := by decide +kernel
theorem d_C_init_57 : decode b_C_init 57 = .ok (.iinc 1 1, 3) := by decide +kernel
theorem d_C_init_60 : decode b_C_init 60 = .ok (.goto (-25), 3) := by decide +kernel
theorem d_C_init_63 : decode b_C_init 63 = .ok (.aload_n 0, 1) := by decide +kernel
theorem d_C_init_64 : decode b_C_init 64 = .ok (.new 29, 3) := by decide +kernel
theorem d_C_init_67 : decode b_C_init 67 = .ok (.dup, 1) := by decide +kernel
theorem d_C_init_68 : decode b_C_init 68 = .ok (.invokespecial 31, 3) := by decide +kernel
theorem d_C_init_71 : decode b_C_init 71 = .ok (.putfield 32, 3) := by decide +kernel
theorem d_C_init_74 : decode b_C_init 74 = .ok (.aload_n 0, 1) := by decide +kernel
theorem d_C_init_75 : decode b_C_init 75 = .ok (.bipush 60, 2) := by decide +kernel
theorem d_C_init_77 : decode b_C_init 77 = .ok (.newarray .int, 2) := by decide +kernel
theorem d_C_init_79 : decode b_C_init 79 = .ok (.putfield 36, 3) := by decide +kernel
theorem d_C_init_82 : decode b_C_init 82 = .ok (.return_, 1) := by decide +kernel
theorem d_C_isCertificateMissing_0 : decode b_C_isCertificateMissing 0 = .ok (.aload_n 0, 1) := by decide +kernel
theorem d_C_isCertificateMissing_1 : decode b_C_isCertificateMissing 1 = .ok (.getfield 191, 3) := by decide +kernel
theorem d_C_isCertificateMissing_4 : decode b_C_isCertificateMissing 4 = .ok (.iconst 1, 1) := by decide +kernel
theorem d_C_isCertificateMissing_5 : decode b_C_isCertificateMissing 5 = .ok (.isub, 1) := by decide +kernel
theorem d_C_isCertificateMissing_6 : decode b_C_isCertificateMissing 6 = .ok (.istore_n 1, 1) := by decide +kernel
theorem d_C_isCertificateMissing_7 : decode b_C_isCertificateMissing 7 = .ok (.iload_n 1, 1) := by decide +kernel
theorem d_C_isCertificateMissing_8 : decode b_C_isCertificateMissing 8 = .ok (.ifCond .lt 12, 3) := by decide +kernel
theorem d_C_isCertificateMissing_11 : decode b_C_isCertificateMissing 11 = .ok (.iload_n 1, 1) := by decide +kernel
theorem d_C_isCertificateMissing_12 : decode b_C_isCertificateMissing 12 = .ok (.aload_n 0, 1) := by decide +kernel
theorem d_C_isCertificateMissing_13 : decode b_C_isCertificateMissing 13 = .ok (.getfield 36, 3) := by decide +kernel
theorem d_C_isCertificateMissing_16 : decode b_C_isCertificateMissing 16 = .ok (.arraylength, 1) := by decide +kernel
theorem d_C_isCertificateMissing_17 : decode b_C_isCertificateMissing 17 = .ok (.if_icmp .lt 5, 3) := by decide +kernel
theorem d_C_isCertificateMissing_20 : decode b_C_isCertificateMissing 20 = .ok (.iconst 0, 1) := by decide +kernel
theorem d_C_isCertificateMissing_21 : decode b_C_isCertificateMissing 21 = .ok (.ireturn, 1) := by decide +kernel
theorem d_C_isCertificateMissing_22 : decode b_C_isCertificateMissing 22 = .ok (.aload_n 0, 1) := by decide +kernel
theorem d_C_isCertificateMissing_23 : decode b_C_isCertificateMissing 23 = .ok (.aload_n 0, 1) := by decide +kernel
theorem d_C_isCertificateMissing_24 : decode b_C_isCertificateMissing 24 = .ok (.getfield 36, 3) := by decide +kernel
theorem d_C_isCertificateMissing_27 : decode b_C_isCertificateMissing 27 = .ok (.iload_n 1, 1) := by decide +kernel
theorem d_C_isCertificateMissing_28 : decode b_C_isCertificateMissing 28 = .ok (.iaload, 1) := by decide +kernel
theorem d_C_isCertificateMissing_29 : decode b_C_isCertificateMissing 29 = .ok (.invokevirtual 93, 3) := by decide +kernel
theorem d_C_isCertificateMissing_32 : decode b_C_isCertificateMissing 32 = .ok (.astore_n 2, 1) := by decide +kernel
theorem d_C_isCertificateMissing_33 : decode b_C_isCertificateMissing 33 = .ok (.aload_n 2, 1) := by decide +kernel
theorem d_C_isCertificateMissing_34 : decode b_C_isCertificateMissing 34 = .ok (.ifnull 14, 3) := by decide +kernel
theorem d_C_isCertificateMissing_37 : decode b_C_isCertificateMissing 37 = .ok (.aload_n 2, 1) := by decide +kernel
theorem d_C_isCertificateMissing_38 : decode b_C_isCertificateMissing 38 = .ok (.invokevirtual 176, 3) := by decide +kernel
theorem d_C_isCertificateMissing_41 : decode b_C_isCertificateMissing 41 = .ok (.ifCond .ne 7, 3) := by decide +kernel
theorem d_C_isCertificateMissing_44 : decode b_C_isCertificateMissing 44 = .ok (.iconst 1, 1) := by decide +kernel
theorem d_C_isCertificateMissing_45 : decode b_C_isCertificateMissing 45 = .ok (.goto 4, 3) := by decide +kernel
theorem d_C_isCertificateMissing_48 : decode b_C_isCertificateMissing 48 = .ok (.iconst 0, 1) := by decide +kernel
theorem d_C_isCertificateMissing_49 : decode b_C_isCertificateMissing 49 = .ok (.ireturn, 1) := by decide +kernel
theorem d_C_isDay_0 : decode b_C_isDay 0 = .ok (.iload_n 0, 1) := by decide +kernel
theorem d_C_isDay_1 : decode b_C_isDay 1 = .ok (.ifCond .lt 13, 3) := by decide +kernel
theorem d_C_isDay_4 : decode b_C_isDay 4 = .ok (.iload_n 0, 1) := by decide +kernel
theorem d_C_isDay_5 : decode b_C_isDay 5 = .ok (.ldc 175, 2) := by decide +kernel
theorem d_C_isDay_7 : decode b_C_isDay 7 = .ok (.if_icmp .gt 7, 3) := by decide +kernel
theorem d_C_isDay_10 : decode b_C_isDay 10 = .ok (.iconst 1, 1) := by decide +kernel
theorem d_C_isDay_11 : decode b_C_isDay 11 = .ok (.goto 4, 3) := by decide +kernel
theorem d_C_isDay_14 : decode b_C_isDay 14 = .ok (.iconst 0, 1) := by decide +kernel
theorem d_C_isDay_15 : decode b_C_isDay 15 = .ok (.ireturn, 1) := by decide +kernel
theorem d_C_keepDisposed_0 : decode b_C_keepDisposed 0 = .ok (.aload_n 0, 1) := by decide +kernel
theorem d_C_keepDisposed_1 : decode b_C_keepDisposed 1 = .ok (.getfield 191, 3) := by decide +kernel
theorem d_C_keepDisposed_4 : decode b_C_keepDisposed 4 = .ok (.ifCond .lt 35, 3) := by decide +kernel
theorem d_C_keepDisposed_7 : decode b_C_keepDisposed 7 = .ok (.aload_n 0, 1) := by decide +kernel
theorem d_C_keepDisposed_8 : decode b_C_keepDisposed 8 = .ok (.getfield 191, 3) := by decide +kernel
theorem d_C_keepDisposed_11 : decode b_C_keepDisposed 11 = .ok (.aload_n 0, 1) := by decide +kernel
theorem d_C_keepDisposed_12 : decode b_C_keepDisposed 12 = .ok (.getfield 36, 3) := by decide +kernel
theorem d_C_keepDisposed_15 : decode b_C_keepDisposed 15 = .ok (.arraylength, 1) := by decide +kernel
theorem d_C_keepDisposed_16 : decode b_C_keepDisposed 16 = .ok (.if_icmp .ge 23, 3) := by decide +kernel
theorem d_C_keepDisposed_19 : decode b_C_keepDisposed 19 = .ok (.aload_n 0, 1) := by decide +kernel
theorem d_C_keepDisposed_20 : decode b_C_keepDisposed 20 = .ok (.getfield 36, 3) := by decide +kernel
theorem d_C_keepDisposed_23 : decode b_C_keepDisposed 23 = .ok (.aload_n 0, 1) := by decide +kernel
theorem d_C_keepDisposed_24 : decode b_C_keepDisposed 24 = .ok (.getfield 191, 3) := by decide +kernel
theorem d_C_keepDisposed_27 : decode b_C_keepDisposed 27 = .ok (.iload_n 1, 1) := by decide +kernel
theorem d_C_keepDisposed_28 : decode b_C_keepDisposed 28 = .ok (.iastore, 1) := by decide +kernel
theorem d_C_keepDisposed_29 : decode b_C_keepDisposed 29 = .ok (.aload_n 0, 1) := by decide +kernel
theorem d_C_keepDisposed_30 : decode b_C_keepDisposed 30 = .ok (.dup, 1) := by decide +kernel
theorem d_C_keepDisposed_31 : decode b_C_keepDisposed 31 = .ok (.getfield 191, 3) := by decide +kernel
theorem d_C_keepDisposed_34 : decode b_C_keepDisposed 34 = .ok (.iconst 1, 1) := by decide +kernel
theorem d_C_keepDisposed_35 : decode b_C_keepDisposed 35 = .ok (.iadd, 1) := by decide +kernel
theorem d_C_keepDisposed_36 : decode b_C_keepDisposed 36 = .ok (.putfield 191, 3) := by decide +kernel
theorem d_C_keepDisposed_39 : decode b_C_keepDisposed 39 = .ok (.return_, 1) := by decide +kernel
theorem d_C_obstacleTo_0 : decode b_C_obstacleTo 0 = .ok (.aload_n 1, 1) := by decide +kernel
theorem d_C_obstacleTo_1 : decode b_C_obstacleTo 1 = .ok (.invokevirtual 97, 3) := by decide +kernel
theorem d_C_obstacleTo_4 : decode b_C_obstacleTo 4 = .ok (.ifCond .eq 5, 3) := by decide +kernel
theorem d_C_obstacleTo_7 : decode b_C_obstacleTo 7 = .ok (.iconst 1, 1) := by decide +kernel
theorem d_C_obstacleTo_8 : decode b_C_obstacleTo 8 = .ok (.ireturn, 1) := by decide +kernel
theorem d_C_obstacleTo_9 : decode b_C_obstacleTo 9 = .ok (.aload_n 0, 1) := by decide +kernel
theorem d_C_obstacleTo_10 : decode b_C_obstacleTo 10 = .ok (.invokevirtual 196, 3) := by decide +kernel
theorem d_C_obstacleTo_13 : decode b_C_obstacleTo 13 = .ok (.ifCond .eq 5, 3) := by decide +kernel
theorem d_C_obstacleTo_16 : decode b_C_obstacleTo 16 = .ok (.iconst 2, 1) := by decide +kernel
theorem d_C_obstacleTo_17 : decode b_C_obstacleTo 17 = .ok (.ireturn, 1) := by decide +kernel
theorem d_C_obstacleTo_18 : decode b_C_obstacleTo 18 = .ok (.aload_n 1, 1) := by decide +kernel
theorem d_C_obstacleTo_19 : decode b_C_obstacleTo 19 = .ok (.invokevirtual 119, 3) := by decide +kernel
theorem d_C_obstacleTo_22 : decode b_C_obstacleTo 22 = .ok (.ifCond .eq 5, 3) := by decide +kernel
theorem d_C_obstacleTo_25 : decode b_C_obstacleTo 25 = .ok (.iconst 3, 1) := by decide +kernel
theorem d_C_obstacleTo_26 : decode b_C_obstacleTo 26 = .ok (.ireturn, 1) := by decide +kernel
theorem d_C_obstacleTo_27 : decode b_C_obstacleTo 27 = .ok (.aload_n 1, 1) := by decide +kernel
theorem d_C_obstacleTo_28 : decode b_C_obstacleTo 28 = .ok (.iload_n 3, 1) := by decide +kernel
theorem d_C_obstacleTo_29 : decode b_C_obstacleTo 29 = .ok (.invokevirtual 127, 3) := by decide +kernel
theorem d_C_obstacleTo_32 : decode b_C_obstacleTo 32 = .ok (.ifCond .ne 5, 3) := by decide +kernel
theorem d_C_obstacleTo_35 : decode b_C_obstacleTo 35 = .ok (.iconst 4, 1) := by decide +kernel
theorem d_C_obstacleTo_36 : decode b_C_obstacleTo 36 = .ok (.ireturn, 1) := by decide +kernel
theorem d_C_obstacleTo_37 : decode b_C_obstacleTo 37 = .ok (.aload_n 1, 1) := by decide +kernel
theorem d_C_obstacleTo_38 : decode b_C_obstacleTo 38 = .ok (.iload_n 3, 1) := by decide +kernel
theorem d_C_obstacleTo_39 : decode b_C_obstacleTo 39 = .ok (.invokevirtual 199, 3) := by decide +kernel
theorem d_C_obstacleTo_42 : decode b_C_obstacleTo 42 = .ok (.ifCond .eq 5, 3) := by decide +kernel
theorem d_C_obstacleTo_45 : decode b_C_obstacleTo 45 = .ok (.iconst 5, 1) := by decide +kernel
theorem d_C_obstacleTo_46 : decode b_C_obstacleTo 46 = .ok (.ireturn, 1) := by decide +kernel
theorem d_C_obstacleTo_47 : decode b_C_obstacleTo 47 = .ok (.aload_n 1, 1) := by decide +kernel
theorem d_C_obstacleTo_48 : decode b_C_obstacleTo 48 = .ok (.invokevirtual 153, 3) := by decide +kernel
theorem d_C_obstacleTo_51 : decode b_C_obstacleTo 51 = .ok (.ifCond .ne 6, 3) := by decide +kernel
theorem d_C_obstacleTo_54 : decode b_C_obstacleTo 54 = .ok (.bipush 6, 2) := by decide +kernel
theorem d_C_obstacleTo_56 : decode b_C_obstacleTo 56 = .ok (.ireturn, 1) := by decide +kernel
theorem d_C_obstacleTo_57 : decode b_C_obstacleTo 57 = .ok (.aload_n 1, 1) := by decide +kernel
theorem d_C_obstacleTo_58 : decode b_C_obstacleTo 58 = .ok (.iload_n 3, 1) := by decide +kernel
theorem d_C_obstacleTo_59 : decode b_C_obstacleTo 59 = .ok (.invokevirtual 130, 3) := by decide +kernel
theorem d_C_obstacleTo_62 : decode b_C_obstacleTo 62 = .ok (.iload_n 2, 1) := by decide +kernel
theorem d_C_obstacleTo_63 : decode b_C_obstacleTo 63 = .ok (.if_icmp .ne 7, 3) := by decide +kernel
theorem d_C_obstacleTo_66 : decode b_C_obstacleTo 66 = .ok (.iconst 0, 1) := by decide +kernel
theorem d_C_obstacleTo_67 : decode b_C_obstacleTo 67 = .ok (.goto 5, 3) := by decide +kernel
theorem d_C_obstacleTo_70 : decode b_C_obstacleTo 70 = .ok (.bipush 7, 2) := by decide +kernel
theorem d_C_obstacleTo_72 : decode b_C_obstacleTo 72 = .ok (.ireturn, 1) := by decide +kernel
theorem d_C_rule_0 : decode b_C_rule 0 = .ok (.aload_n 0, 1) := by decide +kernel
theorem d_C_rule_1 : decode b_C_rule 1 = .ok (.getfield 10, 3) := by decide +kernel
theorem d_C_rule_4 : decode b_C_rule 4 = .ok (.invokevirtual 44, 3) := by decide +kernel
theorem d_C_rule_7 : decode b_C_rule 7 = .ok (.istore_n 1, 1) := by decide +kernel
theorem d_C_rule_8 : decode b_C_rule 8 = .ok (.aload_n 0, 1) := by decide +kernel
theorem d_C_rule_9 : decode b_C_rule 9 = .ok (.getfield 10, 3) := by decide +kernel
theorem d_C_rule_12 : decode b_C_rule 12 = .ok (.invokevirtual 48, 3) := by decide +kernel
theorem d_C_rule_15 : decode b_C_rule 15 = .ok (.iload_n 1, 1) := by decide +kernel
theorem d_C_rule_16 : decode b_C_rule 16 = .ok (.ifCond .ne 14, 3) := by decide +kernel
theorem d_C_rule_19 : decode b_C_rule 19 = .ok (.bipush (-10), 2) := by decide +kernel
theorem d_C_rule_21 : decode b_C_rule 21 = .ok (.aload_n 0, 1) := by decide +kernel
theorem d_C_rule_22 : decode b_C_rule 22 = .ok (.getfield 10, 3) := by decide +kernel
theorem d_C_rule_25 : decode b_C_rule 25 = .ok (.invokevirtual 51, 3) := by decide +kernel
theorem d_C_rule_28 : decode b_C_rule 28 = .ok (.isub, 1) := by decide +kernel
theorem d_C_rule_29 : decode b_C_rule 29 = .ok (.ireturn, 1) := by decide +kernel
theorem d_C_rule_30 : decode b_C_rule 30 = .ok (.aload_n 0, 1) := by decide +kernel
theorem d_C_rule_31 : decode b_C_rule 31 = .ok (.getfield 55, 3) := by decide +kernel
theorem d_C_rule_34 : decode b_C_rule 34 = .ok (.ifCond .lt 15, 3) := by decide +kernel
theorem d_C_rule_37 : decode b_C_rule 37 = .ok (.aload_n 0, 1) := by decide +kernel
theorem d_C_rule_38 : decode b_C_rule 38 = .ok (.getfield 55, 3) := by decide +kernel
theorem d_C_rule_41 : decode b_C_rule 41 = .ok (.aload_n 0, 1) := by decide +kernel
theorem d_C_rule_42 : decode b_C_rule 42 = .ok (.getfield 18, 3) := by decide +kernel
theorem d_C_rule_45 : decode b_C_rule 45 = .ok (.arraylength, 1) := by decide +kernel
theorem d_C_rule_46 : decode b_C_rule 46 = .ok (.if_icmp .lt 6, 3) := by decide +kernel
theorem d_C_rule_49 : decode b_C_rule 49 = .ok (.bipush (-4), 2) := by decide +kernel
theorem d_C_rule_51 : decode b_C_rule 51 = .ok (.ireturn, 1) := by decide +kernel
theorem d_C_rule_52 : decode b_C_rule 52 = .ok (.aload_n 0, 1) := by decide +kernel
theorem d_C_rule_53 : decode b_C_rule 53 = .ok (.getfield 18, 3) := by decide +kernel
theorem d_C_rule_56 : decode b_C_rule 56 = .ok (.aload_n 0, 1) := by decide +kernel
theorem d_C_rule_57 : decode b_C_rule 57 = .ok (.getfield 55, 3) := by decide +kernel
theorem d_C_rule_60 : decode b_C_rule 60 = .ok (.new 16, 3) := by decide +kernel
theorem d_C_rule_63 : decode b_C_rule 63 = .ok (.dup, 1) := by decide +kernel
theorem d_C_rule_64 : decode b_C_rule 64 = .ok (.aload_n 0, 1) := by decide +kernel
theorem d_C_rule_65 : decode b_C_rule 65 = .ok (.getfield 10, 3) := by decide +kernel
theorem d_C_rule_68 : decode b_C_rule 68 = .ok (.invokevirtual 59, 3) := by decide +kernel
theorem d_C_rule_71 : decode b_C_rule 71 = .ok (.aload_n 0, 1) := by decide +kernel
theorem d_C_rule_72 : decode b_C_rule 72 = .ok (.getfield 10, 3) := by decide +kernel
theorem d_C_rule_75 : decode b_C_rule 75 = .ok (.invokevirtual 62, 3) := by decide +kernel
theorem d_C_rule_78 : decode b_C_rule 78 = .ok (.aload_n 0, 1) := by decide +kernel
theorem d_C_rule_79 : decode b_C_rule 79 = .ok (.getfield 10, 3) := by decide +kernel
theorem d_C_rule_82 : decode b_C_rule 82 = .ok (.invokevirtual 65, 3) := by decide +kernel
theorem d_C_rule_85 : decode b_C_rule 85 = .ok (.invokespecial 68, 3) := by decide +kernel
theorem d_C_rule_88 : decode b_C_rule 88 = .ok (.aastore, 1) := by decide +kernel
theorem d_C_rule_89 : decode b_C_rule 89 = .ok (.aload_n 0, 1) := by decide +kernel
theorem d_C_rule_90 : decode b_C_rule 90 = .ok (.dup, 1) := by decide +kernel
theorem d_C_rule_91 : decode b_C_rule 91 = .ok (.getfield 55, 3) := by decide +kernel
theorem d_C_rule_94 : decode b_C_rule 94 = .ok (.iconst 1, 1) := by decide +kernel
theorem d_C_rule_95 : decode b_C_rule 95 = .ok (.iadd, 1) := by decide +kernel
theorem d_C_rule_96 : decode b_C_rule 96 = .ok (.putfield 55, 3) := by decide +kernel
theorem d_C_rule_99 : decode b_C_rule 99 = .ok (.aload_n 0, 1) := by decide +kernel
theorem d_C_rule_100 : decode b_C_rule 100 = .ok (.getfield 55, 3) := by decide +kernel
theorem d_C_rule_103 : decode b_C_rule 103 = .ok (.iconst 1, 1) := by decide +kernel
theorem d_C_rule_104 : decode b_C_rule 104 = .ok (.isub, 1) := by decide +kernel
theorem d_C_rule_105 : decode b_C_rule 105 = .ok (.ireturn, 1) := by decide +kernel
theorem d_C_schedule_0 : decode b_C_schedule 0 = .ok (.aload_n 0, 1) := by decide +kernel
theorem d_C_schedule_1 : decode b_C_schedule 1 = .ok (.iload_n 1, 1) := by decide +kernel
theorem d_C_schedule_2 : decode b_C_schedule 2 = .ok (.invokevirtual 93, 3) := by decide +kernel
theorem d_C_schedule_5 : decode b_C_schedule 5 = .ok (.astore_n 3, 1) := by decide +kernel
theorem d_C_schedule_6 : decode b_C_schedule 6 = .ok (.aload_n 0, 1) := by decide +kernel
theorem d_C_schedule_7 : decode b_C_schedule 7 = .ok (.iload_n 2, 1) := by decide +kernel
theorem d_C_schedule_8 : decode b_C_schedule 8 = .ok (.invokevirtual 71, 3) := by decide +kernel
theorem d_C_schedule_11 : decode b_C_schedule 11 = .ok (.astore 4, 2) := by decide +kernel
theorem d_C_schedule_13 : decode b_C_schedule 13 = .ok (.aload_n 3, 1) := by decide +kernel
theorem d_C_schedule_14 : decode b_C_schedule 14 = .ok (.ifnull 8, 3) := by decide +kernel
theorem d_C_schedule_17 : decode b_C_schedule 17 = .ok (.aload 4, 2) := by decide +kernel
theorem d_C_schedule_19 : decode b_C_schedule 19 = .ok (.ifnonnull 5, 3) := by decide +kernel
theorem d_C_schedule_22 : decode b_C_schedule 22 = .ok (.iconst (-1), 1) := by decide +kernel
theorem d_C_schedule_23 : decode b_C_schedule 23 = .ok (.ireturn, 1) := by decide +kernel
theorem d_C_schedule_24 : decode b_C_schedule 24 = .ok (.aload_n 3, 1) := by decide +kernel
theorem d_C_schedule_25 : decode b_C_schedule 25 = .ok (.invokevirtual 97, 3) := by decide +kernel
theorem d_C_schedule_28 : decode b_C_schedule 28 = .ok (.ifCond .ne 12, 3) := by decide +kernel
theorem d_C_schedule_31 : decode b_C_schedule 31 = .ok (.aload_n 3, 1) := by decide +kernel
theorem d_C_schedule_32 : decode b_C_schedule 32 = .ok (.aload 4, 2) := by decide +kernel
theorem d_C_schedule_34 : decode b_C_schedule 34 = .ok (.invokevirtual 104, 3) := by decide +kernel
theorem d_C_schedule_37 : decode b_C_schedule 37 = .ok (.ifCond .eq 6, 3) := by decide +kernel
theorem d_C_schedule_40 : decode b_C_schedule 40 = .ok (.bipush (-3), 2) := by decide +kernel
theorem d_C_schedule_42 : decode b_C_schedule 42 = .ok (.ireturn, 1) := by decide +kernel
theorem d_C_schedule_43 : decode b_C_schedule 43 = .ok (.aload_n 3, 1) := by decide +kernel
theorem d_C_schedule_44 : decode b_C_schedule 44 = .ok (.aload 4, 2) := by decide +kernel
theorem d_C_schedule_46 : decode b_C_schedule 46 = .ok (.invokevirtual 108, 3) := by decide +kernel
theorem d_C_schedule_49 : decode b_C_schedule 49 = .ok (.ifCond .eq 10, 3) := by decide +kernel
theorem d_C_schedule_52 : decode b_C_schedule 52 = .ok (.aload_n 3, 1) := by decide +kernel
theorem d_C_schedule_53 : decode b_C_schedule 53 = .ok (.invokevirtual 111, 3) := by decide +kernel
theorem d_C_schedule_56 : decode b_C_schedule 56 = .ok (.goto 5, 3) := by decide +kernel
theorem d_C_schedule_59 : decode b_C_schedule 59 = .ok (.bipush (-4), 2) := by decide +kernel
theorem d_C_schedule_61 : decode b_C_schedule 61 = .ok (.ireturn, 1) := by decide +kernel
theorem d_C_sign_0 : decode b_C_sign 0 = .ok (.aload_n 0, 1) := by decide +kernel
theorem d_C_sign_1 : decode b_C_sign 1 = .ok (.getfield 10, 3) := by decide +kernel
theorem d_C_sign_4 : decode b_C_sign 4 = .ok (.iload_n 1, 1) := by decide +kernel
theorem d_C_sign_5 : decode b_C_sign 5 = .ok (.invokevirtual 40, 3) := by decide +kernel
theorem d_C_sign_8 : decode b_C_sign 8 = .ok (.return_, 1) := by decide +kernel
theorem d_J_charAt_0 : decode b_J_charAt 0 = .ok (.iload_n 1, 1) := by decide +kernel
theorem d_J_charAt_1 : decode b_J_charAt 1 = .ok (.aload_n 0, 1) := by decide +kernel
theorem d_J_charAt_2 : decode b_J_charAt 2 = .ok (.arraylength, 1) := by decide +kernel
theorem d_J_charAt_3 : decode b_J_charAt 3 = .ok (.invokestatic 9, 3) := by decide +kernel
theorem d_J_charAt_6 : decode b_J_charAt 6 = .ok (.aload_n 0, 1) := by decide +kernel
theorem d_J_charAt_7 : decode b_J_charAt 7 = .ok (.iload_n 1, 1) := by decide +kernel
theorem d_J_charAt_8 : decode b_J_charAt 8 = .ok (.baload, 1) := by decide +kernel
theorem d_J_charAt_9 : decode b_J_charAt 9 = .ok (.sipush 255, 3) := by decide +kernel
theorem d_J_charAt_12 : decode b_J_charAt 12 = .ok (.iand, 1) := by decide +kernel
theorem d_J_charAt_13 : decode b_J_charAt 13 = .ok (.i2c, 1) := by decide +kernel
theorem d_J_charAt_14 : decode b_J_charAt 14 = .ok (.ireturn, 1) := by decide +kernel
theorem d_L_clear_0 : decode b_L_clear 0 = .ok (.aload_n 0, 1) := by decide +kernel
theorem d_L_clear_1 : decode b_L_clear 1 = .ok (.iconst 0, 1) := by decide +kernel
theorem d_L_clear_2 : decode b_L_clear 2 = .ok (.putfield 21, 3) := by decide +kernel
theorem d_L_clear_5 : decode b_L_clear 5 = .ok (.return_, 1) := by decide +kernel
theorem d_L_has_0 : decode b_L_has 0 = .ok (.iload_n 1, 1) := by decide +kernel
theorem d_L_has_1 : decode b_L_has 1 = .ok (.ifCond .lt 15, 3) := by decide +kernel
theorem d_L_has_4 : decode b_L_has 4 = .ok (.iload_n 1, 1) := by decide +kernel
theorem d_L_has_5 : decode b_L_has 5 = .ok (.aload_n 0, 1) := by decide +kernel
theorem d_L_has_6 : decode b_L_has 6 = .ok (.getfield 21, 3) := by decide +kernel
theorem d_L_has_9 : decode b_L_has 9 = .ok (.if_icmp .ge 7, 3) := by decide +kernel
theorem d_L_has_12 : decode b_L_has 12 = .ok (.iconst 1, 1) := by decide +kernel
theorem d_L_has_13 : decode b_L_has 13 = .ok (.goto 4, 3) := by decide +kernel
theorem d_L_has_16 : decode b_L_has 16 = .ok (.iconst 0, 1) := by decide +kernel
theorem d_L_has_17 : decode b_L_has 17 = .ok (.ireturn, 1) := by decide +kernel
theorem d_L_init_0 : decode b_L_init 0 = .ok (.aload_n 0, 1) := by decide +kernel
theorem d_L_init_1 : decode b_L_init 1 = .ok (.invokespecial 3, 3) := by decide +kernel
theorem d_L_init_4 : decode b_L_init 4 = .ok (.aload_n 0, 1) := by decide +kernel
theorem d_L_init_5 : decode b_L_init 5 = .ok (.bipush 60, 2) := by decide +kernel
theorem d_L_init_7 : decode b_L_init 7 = .ok (.newarray .int, 2) := by decide +kernel
theorem d_L_init_9 : decode b_L_init 9 = .ok (.putfield 9, 3) := by decide +kernel
theorem d_L_init_12 : decode b_L_init 12 = .ok (.aload_n 0, 1) := by decide +kernel
theorem d_L_init_13 : decode b_L_init 13 = .ok (.bipush 60, 2) := by decide +kernel
theorem d_L_init_15 : decode b_L_init 15 = .ok (.newarray .int, 2) := by decide +kernel
theorem d_L_init_17 : decode b_L_init 17 = .ok (.putfield 15, 3) := by decide +kernel
theorem d_L_init_20 : decode b_L_init 20 = .ok (.aload_n 0, 1) := by decide +kernel
theorem d_L_init_21 : decode b_L_init 21 = .ok (.bipush 60, 2) := by decide +kernel
theorem d_L_init_23 : decode b_L_init 23 = .ok (.newarray .int, 2) := by decide +kernel
theorem d_L_init_25 : decode b_L_init 25 = .ok (.putfield 18, 3) := by decide +kernel
theorem d_L_init_28 : decode b_L_init 28 = .ok (.return_, 1) := by decide +kernel
theorem d_L_insert_0 : decode b_L_insert 0 = .ok (.aload_n 0, 1) := by decide +kernel
theorem d_L_insert_1 : decode b_L_insert 1 = .ok (.getfield 21, 3) := by decide +kernel
theorem d_L_insert_4 : decode b_L_insert 4 = .ok (.ifCond .lt 12, 3) := by decide +kernel
theorem d_L_insert_7 : decode b_L_insert 7 = .ok (.aload_n 0, 1) := by decide +kernel
theorem d_L_insert_8 : decode b_L_insert 8 = .ok (.getfield 21, 3) := by decide +kernel
theorem d_L_insert_11 : decode b_L_insert 11 = .ok (.bipush 60, 2) := by decide +kernel
theorem d_L_insert_13 : decode b_L_insert 13 = .ok (.if_icmp .lt 4, 3) := by decide +kernel
theorem d_L_insert_16 : decode b_L_insert 16 = .ok (.return_, 1) := by decide +kernel
theorem d_L_insert_17 : decode b_L_insert 17 = .ok (.aload_n 0, 1) := by decide +kernel
theorem d_L_insert_18 : decode b_L_insert 18 = .ok (.getfield 21, 3) := by decide +kernel
theorem d_L_insert_21 : decode b_L_insert 21 = .ok (.istore 4, 2) := by decide +kernel
theorem d_L_insert_23 : decode b_L_insert 23 = .ok (.iload 4, 2) := by decide +kernel
theorem d_L_insert_25 : decode b_L_insert 25 = .ok (.ifCond .le 55, 3) := by decide +kernel
theorem d_L_insert_28 : decode b_L_insert 28 = .ok (.aload_n 0, 1) := by decide +kernel
theorem d_L_insert_29 : decode b_L_insert 29 = .ok (.getfield 15, 3) := by decide +kernel
theorem d_L_insert_32 : decode b_L_insert 32 = .ok (.iload 4, 2) := by decide +kernel
theorem d_L_insert_34 : decode b_L_insert 34 = .ok (.iconst 1, 1) := by decide +kernel
theorem d_L_insert_35 : decode b_L_insert 35 = .ok (.isub, 1) := by decide +kernel
theorem d_L_insert_36 : decode b_L_insert 36 = .ok (.iaload, 1) := by decide +kernel
theorem d_L_insert_37 : decode b_L_insert 37 = .ok (.iload_n 2, 1) := by decide +kernel
theorem d_L_insert_38 : decode b_L_insert 38 = .ok (.if_icmp .le 42, 3) := by decide +kernel
theorem d_L_insert_41 : decode b_L_insert 41 = .ok (.aload_n 0, 1) := by decide +kernel
theorem d_L_insert_42 : decode b_L_insert 42 = .ok (.iload 4, 2) := by decide +kernel
theorem d_L_insert_44 : decode b_L_insert 44 = .ok (.aload_n 0, 1) := by decide +kernel
theorem d_L_insert_45 : decode b_L_insert 45 = .ok (.getfield 9, 3) := by decide +kernel
theorem d_L_insert_48 : decode b_L_insert 48 = .ok (.iload 4, 2) := by decide +kernel
theorem d_L_insert_50 : decode b_L_insert 50 = .ok (.iconst 1, 1) := by decide +kernel
theorem d_L_insert_51 : decode b_L_insert 51 = .ok (.isub, 1) := by decide +kernel
theorem d_L_insert_52 : decode b_L_insert 52 = .ok (.iaload, 1) := by decide +kernel
theorem d_L_insert_53 : decode b_L_insert 53 = .ok (.aload_n 0, 1) := by decide +kernel
theorem d_L_insert_54 : decode b_L_insert 54 = .ok (.getfield 15, 3) := by decide +kernel
theorem d_L_insert_57 : decode b_L_insert 57 = .ok (.iload 4, 2) := by decide +kernel
theorem d_L_insert_59 : decode b_L_insert 59 = .ok (.iconst 1, 1) := by decide +kernel
theorem d_L_insert_60 : decode b_L_insert 60 = .ok (.isub, 1) := by decide +kernel
theorem d_L_insert_61 : decode b_L_insert 61 = .ok (.iaload, 1) := by decide +kernel
theorem d_L_insert_62 : decode b_L_insert 62 = .ok (.aload_n 0, 1) := by decide +kernel
theorem d_L_insert_63 : decode b_L_insert 63 = .ok (.getfield 18, 3) := by decide +kernel
theorem d_L_insert_66 : decode b_L_insert 66 = .ok (.iload 4, 2) := by decide +kernel
theorem d_L_insert_68 : decode b_L_insert 68 = .ok (.iconst 1, 1) := by decide +kernel
theorem d_L_insert_69 : decode b_L_insert 69 = .ok (.isub, 1) := by decide +kernel
theorem d_L_insert_70 : decode b_L_insert 70 = .ok (.iaload, 1) := by decide +kernel
theorem d_L_insert_71 : decode b_L_insert 71 = .ok (.invokevirtual 25, 3) := by decide +kernel
theorem d_L_insert_74 : decode b_L_insert 74 = .ok (.iinc 4 (-1), 3) := by decide +kernel
theorem d_L_insert_77 : decode b_L_insert 77 = .ok (.goto (-54), 3) := by decide +kernel
theorem d_L_insert_80 : decode b_L_insert 80 = .ok (.aload_n 0, 1) := by decide +kernel
theorem d_L_insert_81 : decode b_L_insert 81 = .ok (.iload 4, 2) := by decide +kernel
theorem d_L_insert_83 : decode b_L_insert 83 = .ok (.iload_n 1, 1) := by decide +kernel
theorem d_L_insert_84 : decode b_L_insert 84 = .ok (.iload_n 2, 1) := by decide +kernel
theorem d_L_insert_85 : decode b_L_insert 85 = .ok (.iload_n 3, 1) := by decide +kernel
theorem d_L_insert_86 : decode b_L_insert 86 = .ok (.invokevirtual 25, 3) := by decide +kernel
theorem d_L_insert_89 : decode b_L_insert 89 = .ok (.aload_n 0, 1) := by decide +kernel
theorem d_L_insert_90 : decode b_L_insert 90 = .ok (.dup, 1) := by decide +kernel
theorem d_L_insert_91 : decode b_L_insert 91 = .ok (.getfield 21, 3) := by decide +kernel
theorem d_L_insert_94 : decode b_L_insert 94 = .ok (.iconst 1, 1) := by decide +kernel
theorem d_L_insert_95 : decode b_L_insert 95 = .ok (.iadd, 1) := by decide +kernel
theorem d_L_insert_96 : decode b_L_insert 96 = .ok (.putfield 21, 3) := by decide +kernel
theorem d_L_insert_99 : decode b_L_insert 99 = .ok (.return_, 1) := by decide +kernel
theorem d_L_put_0 : decode b_L_put 0 = .ok (.iload_n 1, 1) := by decide +kernel
theorem d_L_put_1 : decode b_L_put 1 = .ok (.ifCond .lt 31, 3) := by decide +kernel
theorem d_L_put_4 : decode b_L_put 4 = .ok (.iload_n 1, 1) := by decide +kernel
theorem d_L_put_5 : decode b_L_put 5 = .ok (.bipush 60, 2) := by decide +kernel
theorem d_L_put_7 : decode b_L_put 7 = .ok (.if_icmp .ge 25, 3) := by decide +kernel
theorem d_L_put_10 : decode b_L_put 10 = .ok (.aload_n 0, 1) := by decide +kernel
theorem d_L_put_11 : decode b_L_put 11 = .ok (.getfield 9, 3) := by decide +kernel
theorem d_L_put_14 : decode b_L_put 14 = .ok (.iload_n 1, 1) := by decide +kernel
theorem d_L_put_15 : decode b_L_put 15 = .ok (.iload_n 2, 1) := by decide +kernel
theorem d_L_put_16 : decode b_L_put 16 = .ok (.iastore, 1) := by decide +kernel
theorem d_L_put_17 : decode b_L_put 17 = .ok (.aload_n 0, 1) := by decide +kernel
theorem d_L_put_18 : decode b_L_put 18 = .ok (.getfield 15, 3) := by decide +kernel
theorem d_L_put_21 : decode b_L_put 21 = .ok (.iload_n 1, 1) := by decide +kernel
theorem d_L_put_22 : decode b_L_put 22 = .ok (.iload_n 3, 1) := by decide +kernel
theorem d_L_put_23 : decode b_L_put 23 = .ok (.iastore, 1) := by decide +kernel
theorem d_L_put_24 : decode b_L_put 24 = .ok (.aload_n 0, 1) := by decide +kernel
theorem d_L_put_25 : decode b_L_put 25 = .ok (.getfield 18, 3) := by decide +kernel
theorem d_L_put_28 : decode b_L_put 28 = .ok (.iload_n 1, 1) := by decide +kernel
theorem d_L_put_29 : decode b_L_put 29 = .ok (.iload 4, 2) := by decide +kernel
theorem d_L_put_31 : decode b_L_put 31 = .ok (.iastore, 1) := by decide +kernel
theorem d_L_put_32 : decode b_L_put 32 = .ok (.return_, 1) := by decide +kernel
theorem d_L_size_0 : decode b_L_size 0 = .ok (.aload_n 0, 1) := by decide +kernel
theorem d_L_size_1 : decode b_L_size 1 = .ok (.getfield 21, 3) := by decide +kernel
theorem d_L_size_4 : decode b_L_size 4 = .ok (.ireturn, 1) := by decide +kernel
theorem d_L_told_0 : decode b_L_told 0 = .ok (.iload_n 1, 1) := by decide +kernel
theorem d_L_told_1 : decode b_L_told 1 = .ok (.ifCond .lt 9, 3) := by decide +kernel
theorem d_L_told_4 : decode b_L_told 4 = .ok (.iload_n 1, 1) := by decide +kernel
theorem d_L_told_5 : decode b_L_told 5 = .ok (.bipush 60, 2) := by decide +kernel
theorem d_L_told_7 : decode b_L_told 7 = .ok (.if_icmp .lt 5, 3) := by decide +kernel
theorem d_L_told_10 : decode b_L_told 10 = .ok (.iconst (-1), 1) := by decide +kernel
theorem d_L_told_11 : decode b_L_told 11 = .ok (.ireturn, 1) := by decide +kernel
theorem d_L_told_12 : decode b_L_told 12 = .ok (.iload_n 2, 1) := by decide +kernel
theorem d_L_told_13 : decode b_L_told 13 = .ok (.ifCond .ne 10, 3) := by decide +kernel
theorem d_L_told_16 : decode b_L_told 16 = .ok (.aload_n 0, 1) := by decide +kernel
theorem d_L_told_17 : decode b_L_told 17 = .ok (.getfield 9, 3) := by decide +kernel
theorem d_L_told_20 : decode b_L_told 20 = .ok (.iload_n 1, 1) := by decide +kernel
theorem d_L_told_21 : decode b_L_told 21 = .ok (.iaload, 1) := by decide +kernel
theorem d_L_told_22 : decode b_L_told 22 = .ok (.ireturn, 1) := by decide +kernel
theorem d_L_told_23 : decode b_L_told 23 = .ok (.iload_n 2, 1) := by decide +kernel
theorem d_L_told_24 : decode b_L_told 24 = .ok (.iconst 1, 1) := by decide +kernel
theorem d_L_told_25 : decode b_L_told 25 = .ok (.if_icmp .ne 12, 3) := by decide +kernel
theorem d_L_told_28 : decode b_L_told 28 = .ok (.aload_n 0, 1) := by decide +kernel
theorem d_L_told_29 : decode b_L_told 29 = .ok (.getfield 15, 3) := by decide +kernel
theorem d_L_told_32 : decode b_L_told 32 = .ok (.iload_n 1, 1) := by decide +kernel
theorem d_L_told_33 : decode b_L_told 33 = .ok (.iaload, 1) := by decide +kernel
theorem d_L_told_34 : decode b_L_told 34 = .ok (.goto 9, 3) := by decide +kernel
theorem d_L_told_37 : decode b_L_told 37 = .ok (.aload_n 0, 1) := by decide +kernel
theorem d_L_told_38 : decode b_L_told 38 = .ok (.getfield 18, 3) := by decide +kernel
theorem d_L_told_41 : decode b_L_told 41 = .ok (.iload_n 1, 1) := by decide +kernel
theorem d_L_told_42 : decode b_L_told 42 = .ok (.iaload, 1) := by decide +kernel
theorem d_L_told_43 : decode b_L_told 43 = .ok (.ireturn, 1) := by decide +kernel
theorem d_M_about_0 : decode b_M_about 0 = .ok (.aload_n 0, 1) := by decide +kernel
theorem d_M_about_1 : decode b_M_about 1 = .ok (.iconst 0, 1) := by decide +kernel
theorem d_M_about_2 : decode b_M_about 2 = .ok (.putfield 72, 3) := by decide +kernel
theorem d_M_about_5 : decode b_M_about 5 = .ok (.iload_n 1, 1) := by decide +kernel
theorem d_M_about_6 : decode b_M_about 6 = .ok (.invokestatic 149, 3) := by decide +kernel
theorem d_M_about_9 : decode b_M_about 9 = .ok (.ifCond .ne 5, 3) := by decide +kernel
theorem d_M_about_12 : decode b_M_about 12 = .ok (.iconst (-1), 1) := by decide +kernel
theorem d_M_about_13 : decode b_M_about 13 = .ok (.ireturn, 1) := by decide +kernel
theorem d_M_about_14 : decode b_M_about 14 = .ok (.iload_n 2, 1) := by decide +kernel
theorem d_M_about_15 : decode b_M_about 15 = .ok (.iconst 0, 1) := by decide +kernel
theorem d_M_about_16 : decode b_M_about 16 = .ok (.iconst 3, 1) := by decide +kernel
theorem d_M_about_17 : decode b_M_about 17 = .ok (.invokestatic 76, 3) := by decide +kernel
theorem d_M_about_20 : decode b_M_about 20 = .ok (.ifCond .eq 14, 3) := by decide +kernel
theorem d_M_about_23 : decode b_M_about 23 = .ok (.aload_n 0, 1) := by decide +kernel
theorem d_M_about_24 : decode b_M_about 24 = .ok (.getfield 33, 3) := by decide +kernel
theorem d_M_about_27 : decode b_M_about 27 = .ok (.iconst 4, 1) := by decide +kernel
theorem d_M_about_28 : decode b_M_about 28 = .ok (.iload_n 1, 1) := by decide +kernel
theorem d_M_about_29 : decode b_M_about 29 = .ok (.imul, 1) := by decide +kernel
theorem d_M_about_30 : decode b_M_about 30 = .ok (.iload_n 2, 1) := by decide +kernel
theorem d_M_about_31 : decode b_M_about 31 = .ok (.iadd, 1) := by decide +kernel
theorem d_M_about_32 : decode b_M_about 32 = .ok (.iaload, 1) := by decide +kernel
theorem d_M_about_33 : decode b_M_about 33 = .ok (.ireturn, 1) := by decide +kernel
theorem d_M_about_34 : decode b_M_about 34 = .ok (.iload_n 2, 1) := by decide +kernel
theorem d_M_about_35 : decode b_M_about 35 = .ok (.tableswitch 76 4 8 #[33, 40, 47, 62, 69], 33) := by decide +kernel
theorem d_M_about_68 : decode b_M_about 68 = .ok (.aload_n 0, 1) := by decide +kernel
theorem d_M_about_69 : decode b_M_about 69 = .ok (.getfield 39, 3) := by decide +kernel
theorem d_M_about_72 : decode b_M_about 72 = .ok (.iload_n 1, 1) := by decide +kernel
theorem d_M_about_73 : decode b_M_about 73 = .ok (.iaload, 1) := by decide +kernel
theorem d_M_about_74 : decode b_M_about 74 = .ok (.ireturn, 1) := by decide +kernel
theorem d_M_about_75 : decode b_M_about 75 = .ok (.aload_n 0, 1) := by decide +kernel
theorem d_M_about_76 : decode b_M_about 76 = .ok (.getfield 48, 3) := by decide +kernel
theorem d_M_about_79 : decode b_M_about 79 = .ok (.iload_n 1, 1) := by decide +kernel
theorem d_M_about_80 : decode b_M_about 80 = .ok (.iaload, 1) := by decide +kernel
theorem d_M_about_81 : decode b_M_about 81 = .ok (.ireturn, 1) := by decide +kernel
theorem d_M_about_82 : decode b_M_about 82 = .ok (.aload_n 0, 1) := by decide +kernel
theorem d_M_about_83 : decode b_M_about 83 = .ok (.getfield 54, 3) := by decide +kernel
theorem d_M_about_86 : decode b_M_about 86 = .ok (.iload_n 1, 1) := by decide +kernel
theorem d_M_about_87 : decode b_M_about 87 = .ok (.iaload, 1) := by decide +kernel
theorem d_M_about_88 : decode b_M_about 88 = .ok (.ifCond .lt 7, 3) := by decide +kernel
theorem d_M_about_91 : decode b_M_about 91 = .ok (.iconst 1, 1) := by decide +kernel
theorem d_M_about_92 : decode b_M_about 92 = .ok (.goto 4, 3) := by decide +kernel
theorem d_M_about_95 : decode b_M_about 95 = .ok (.iconst 0, 1) := by decide +kernel
theorem d_M_about_96 : decode b_M_about 96 = .ok (.ireturn, 1) := by decide +kernel
theorem d_M_about_97 : decode b_M_about 97 = .ok (.aload_n 0, 1) := by decide +kernel
theorem d_M_about_98 : decode b_M_about 98 = .ok (.getfield 54, 3) := by decide +kernel
theorem d_M_about_101 : decode b_M_about 101 = .ok (.iload_n 1, 1) := by decide +kernel
theorem d_M_about_102 : decode b_M_about 102 = .ok (.iaload, 1) := by decide +kernel
theorem d_M_about_103 : decode b_M_about 103 = .ok (.ireturn, 1) := by decide +kernel
theorem d_M_about_104 : decode b_M_about 104 = .ok (.aload_n 0, 1) := by decide +kernel
theorem d_M_about_105 : decode b_M_about 105 = .ok (.getfield 57, 3) := by decide +kernel
theorem d_M_about_108 : decode b_M_about 108 = .ok (.iload_n 1, 1) := by decide +kernel
theorem d_M_about_109 : decode b_M_about 109 = .ok (.iaload, 1) := by decide +kernel
theorem d_M_about_110 : decode b_M_about 110 = .ok (.ireturn, 1) := by decide +kernel
theorem d_M_about_111 : decode b_M_about 111 = .ok (.iconst (-1), 1) := by decide +kernel
theorem d_M_about_112 : decode b_M_about 112 = .ok (.ireturn, 1) := by decide +kernel
theorem d_M_actionJ_0 : decode b_M_actionJ 0 = .ok (.lload_n 0, 1) := by decide +kernel
theorem d_M_actionJ_1 : decode b_M_actionJ 1 = .ok (.iconst 4, 1) := by decide +kernel
theorem d_M_actionJ_2 : decode b_M_actionJ 2 = .ok (.iconst 5, 1) := by decide +kernel
theorem d_M_actionJ_3 : decode b_M_actionJ 3 = .ok (.bipush 19, 2) := by decide +kernel
theorem d_M_actionJ_5 : decode b_M_actionJ 5 = .ok (.bipush 20, 2) := by decide +kernel
theorem d_M_actionJ_7 : decode b_M_actionJ 7 = .ok (.invokestatic 104, 3) := by decide +kernel
theorem d_M_actionJ_10 : decode b_M_actionJ 10 = .ok (.ldc2_w 98, 3) := by decide +kernel
theorem d_M_actionJ_13 : decode b_M_actionJ 13 = .ok (.lmul, 1) := by decide +kernel
theorem d_M_actionJ_14 : decode b_M_actionJ 14 = .ok (.ldc2_w 114, 3) := by decide +kernel
theorem d_M_actionJ_17 : decode b_M_actionJ 17 = .ok (.ladd, 1) := by decide +kernel
theorem d_M_actionJ_18 : decode b_M_actionJ 18 = .ok (.ldc2_w 98, 3) := by decide +kernel
theorem d_M_actionJ_21 : decode b_M_actionJ 21 = .ok (.lmul, 1) := by decide +kernel
theorem d_M_actionJ_22 : decode b_M_actionJ 22 = .ok (.ldc2_w 116, 3) := by decide +kernel
theorem d_M_actionJ_25 : decode b_M_actionJ 25 = .ok (.ladd, 1) := by decide +kernel
theorem d_M_actionJ_26 : decode b_M_actionJ 26 = .ok (.ldc2_w 98, 3) := by decide +kernel
theorem d_M_actionJ_29 : decode b_M_actionJ 29 = .ok (.lmul, 1) := by decide +kernel
theorem d_M_actionJ_30 : decode b_M_actionJ 30 = .ok (.ldc2_w 118, 3) := by decide +kernel
theorem d_M_actionJ_33 : decode b_M_actionJ 33 = .ok (.ladd, 1) := by decide +kernel
theorem d_M_actionJ_34 : decode b_M_actionJ 34 = .ok (.lcmp, 1) := by decide +kernel
theorem d_M_actionJ_35 : decode b_M_actionJ 35 = .ok (.ifCond .ne 5, 3) := by decide +kernel
theorem d_M_actionJ_38 : decode b_M_actionJ 38 = .ok (.iconst 0, 1) := by decide +kernel
theorem d_M_actionJ_39 : decode b_M_actionJ 39 = .ok (.ireturn, 1) := by decide +kernel
theorem d_M_actionJ_40 : decode b_M_actionJ 40 = .ok (.lload_n 0, 1) := by decide +kernel
theorem d_M_actionJ_41 : decode b_M_actionJ 41 = .ok (.bipush 20, 2) := by decide +kernel
theorem d_M_actionJ_43 : decode b_M_actionJ 43 = .ok (.bipush 18, 2) := by decide +kernel
theorem d_M_actionJ_45 : decode b_M_actionJ 45 = .ok (.iconst 1, 1) := by decide +kernel
theorem d_M_actionJ_46 : decode b_M_actionJ 46 = .ok (.bipush 14, 2) := by decide +kernel
theorem d_M_actionJ_48 : decode b_M_actionJ 48 = .ok (.invokestatic 104, 3) := by decide +kernel
theorem d_M_actionJ_51 : decode b_M_actionJ 51 = .ok (.ldc2_w 98, 3) := by decide +kernel
theorem d_M_actionJ_54 : decode b_M_actionJ 54 = .ok (.lmul, 1) := by decide +kernel
theorem d_M_actionJ_55 : decode b_M_actionJ 55 = .ok (.ldc2_w 120, 3) := by decide +kernel
theorem d_M_actionJ_58 : decode b_M_actionJ 58 = .ok (.ladd, 1) := by decide +kernel
theorem d_M_actionJ_59 : decode b_M_actionJ 59 = .ok (.ldc2_w 98, 3) := by decide +kernel
theorem d_M_actionJ_62 : decode b_M_actionJ 62 = .ok (.lmul, 1) := by decide +kernel
theorem d_M_actionJ_63 : decode b_M_actionJ 63 = .ok (.ldc2_w 122, 3) := by decide +kernel
theorem d_M_actionJ_66 : decode b_M_actionJ 66 = .ok (.ladd, 1) := by decide +kernel
theorem d_M_actionJ_67 : decode b_M_actionJ 67 = .ok (.ldc2_w 98, 3) := by decide +kernel
theorem d_M_actionJ_70 : decode b_M_actionJ 70 = .ok (.lmul, 1) := by decide +kernel
theorem d_M_actionJ_71 : decode b_M_actionJ 71 = .ok (.ldc2_w 108, 3) := by decide +kernel
theorem d_M_actionJ_74 : decode b_M_actionJ 74 = .ok (.ladd, 1) := by decide +kernel
theorem d_M_actionJ_75 : decode b_M_actionJ 75 = .ok (.ldc2_w 98, 3) := by decide +kernel
theorem d_M_actionJ_78 : decode b_M_actionJ 78 = .ok (.lmul, 1) := by decide +kernel
theorem d_M_actionJ_79 : decode b_M_actionJ 79 = .ok (.ldc2_w 114, 3) := by decide +kernel
theorem d_M_actionJ_82 : decode b_M_actionJ 82 = .ok (.ladd, 1) := by decide +kernel
theorem d_M_actionJ_83 : decode b_M_actionJ 83 = .ok (.lcmp, 1) := by decide +kernel
theorem d_M_actionJ_84 : decode b_M_actionJ 84 = .ok (.ifCond .ne 7, 3) := by decide +kernel
theorem d_M_actionJ_87 : decode b_M_actionJ 87 = .ok (.iconst 1, 1) := by decide +kernel
theorem d_M_actionJ_88 : decode b_M_actionJ 88 = .ok (.goto 4, 3) := by decide +kernel
theorem d_M_actionJ_91 : decode b_M_actionJ 91 = .ok (.iconst (-1), 1) := by decide +kernel
theorem d_M_actionJ_92 : decode b_M_actionJ 92 = .ok (.ireturn, 1) := by decide +kernel
theorem d_M_actionOf_0 : decode b_M_actionOf 0 = .ok (.aload_n 0, 1) := by decide +kernel
theorem d_M_actionOf_1 : decode b_M_actionOf 1 = .ok (.iload_n 1, 1) := by decide +kernel
theorem d_M_actionOf_2 : decode b_M_actionOf 2 = .ok (.iload_n 2, 1) := by decide +kernel
theorem d_M_actionOf_3 : decode b_M_actionOf 3 = .ok (.invokevirtual 163, 3) := by decide +kernel
theorem d_M_actionOf_6 : decode b_M_actionOf 6 = .ok (.istore_n 3, 1) := by decide +kernel
theorem d_M_actionOf_7 : decode b_M_actionOf 7 = .ok (.iconst (-1), 1) := by decide +kernel
theorem d_M_actionOf_8 : decode b_M_actionOf 8 = .ok (.istore 4, 2) := by decide +kernel
theorem d_M_actionOf_10 : decode b_M_actionOf 10 = .ok (.aload_n 0, 1) := by decide +kernel
theorem d_M_actionOf_11 : decode b_M_actionOf 11 = .ok (.getfield 39, 3) := by decide +kernel
theorem d_M_actionOf_14 : decode b_M_actionOf 14 = .ok (.iload_n 1, 1) := by decide +kernel
theorem d_M_actionOf_15 : decode b_M_actionOf 15 = .ok (.iaload, 1) := by decide +kernel
theorem d_M_actionOf_16 : decode b_M_actionOf 16 = .ok (.iconst 1, 1) := by decide +kernel
theorem d_M_actionOf_17 : decode b_M_actionOf 17 = .ok (.isub, 1) := by decide +kernel
theorem d_M_actionOf_18 : decode b_M_actionOf 18 = .ok (.istore 5, 2) := by decide +kernel
theorem d_M_actionOf_20 : decode b_M_actionOf 20 = .ok (.iload 5, 2) := by decide +kernel
