theorem d_T_signAt_14 : decode b_T_signAt 14 = .ok (.getfield 9, 3) := by decide +kernel
theorem d_T_signAt_17 : decode b_T_signAt 17 = .ok (.arraylength, 1) := by decide +kernel
theorem d_T_signAt_18 : decode b_T_signAt 18 = .ok (.if_icmp .ge 12, 3) := by decide +kernel
theorem d_T_signAt_21 : decode b_T_signAt 21 = .ok (.aload_n 0, 1) := by decide +kernel
theorem d_T_signAt_22 : decode b_T_signAt 22 = .ok (.getfield 9, 3) := by decide +kernel
theorem d_T_signAt_25 : decode b_T_signAt 25 = .ok (.iload_n 1, 1) := by decide +kernel
theorem d_T_signAt_26 : decode b_T_signAt 26 = .ok (.iaload, 1) := by decide +kernel
theorem d_T_signAt_27 : decode b_T_signAt 27 = .ok (.goto 4, 3) := by decide +kernel
theorem d_T_signAt_30 : decode b_T_signAt 30 = .ok (.iconst (-1), 1) := by decide +kernel
theorem d_T_signAt_31 : decode b_T_signAt 31 = .ok (.ireturn, 1) := by decide +kernel
theorem d_T_wordEnd_0 : decode b_T_wordEnd 0 = .ok (.aload_n 0, 1) := by decide +kernel
theorem d_T_wordEnd_1 : decode b_T_wordEnd 1 = .ok (.getfield 19, 3) := by decide +kernel
theorem d_T_wordEnd_4 : decode b_T_wordEnd 4 = .ok (.istore_n 1, 1) := by decide +kernel
theorem d_T_wordEnd_5 : decode b_T_wordEnd 5 = .ok (.iload_n 1, 1) := by decide +kernel
theorem d_T_wordEnd_6 : decode b_T_wordEnd 6 = .ok (.aload_n 0, 1) := by decide +kernel
theorem d_T_wordEnd_7 : decode b_T_wordEnd 7 = .ok (.getfield 15, 3) := by decide +kernel
theorem d_T_wordEnd_10 : decode b_T_wordEnd 10 = .ok (.if_icmp .ge 20, 3) := by decide +kernel
theorem d_T_wordEnd_13 : decode b_T_wordEnd 13 = .ok (.aload_n 0, 1) := by decide +kernel
theorem d_T_wordEnd_14 : decode b_T_wordEnd 14 = .ok (.iload_n 1, 1) := by decide +kernel
theorem d_T_wordEnd_15 : decode b_T_wordEnd 15 = .ok (.invokevirtual 60, 3) := by decide +kernel
theorem d_T_wordEnd_18 : decode b_T_wordEnd 18 = .ok (.invokestatic 76, 3) := by decide +kernel
theorem d_T_wordEnd_21 : decode b_T_wordEnd 21 = .ok (.ifCond .eq 9, 3) := by decide +kernel
theorem d_T_wordEnd_24 : decode b_T_wordEnd 24 = .ok (.iinc 1 1, 3) := by decide +kernel
theorem d_T_wordEnd_27 : decode b_T_wordEnd 27 = .ok (.goto (-22), 3) := by decide +kernel
theorem d_T_wordEnd_30 : decode b_T_wordEnd 30 = .ok (.iload_n 1, 1) := by decide +kernel
theorem d_T_wordEnd_31 : decode b_T_wordEnd 31 = .ok (.ireturn, 1) := by decide +kernel
theorem d_T_years_0 : decode b_T_years 0 = .ok (.aload_n 0, 1) := by decide +kernel
theorem d_T_years_1 : decode b_T_years 1 = .ok (.getfield 38, 3) := by decide +kernel
theorem d_T_years_4 : decode b_T_years 4 = .ok (.ireturn, 1) := by decide +kernel
theorem d_U_addApproval_0 : decode b_U_addApproval 0 = .ok (.aload_n 0, 1) := by decide +kernel
theorem d_U_addApproval_1 : decode b_U_addApproval 1 = .ok (.getfield 71, 3) := by decide +kernel
theorem d_U_addApproval_4 : decode b_U_addApproval 4 = .ok (.ifCond .ne 8, 3) := by decide +kernel
theorem d_U_addApproval_7 : decode b_U_addApproval 7 = .ok (.aload_n 0, 1) := by decide +kernel
theorem d_U_addApproval_8 : decode b_U_addApproval 8 = .ok (.iload_n 1, 1) := by decide +kernel
theorem d_U_addApproval_9 : decode b_U_addApproval 9 = .ok (.putfield 28, 3) := by decide +kernel
theorem d_U_addApproval_12 : decode b_U_addApproval 12 = .ok (.aload_n 0, 1) := by decide +kernel
theorem d_U_addApproval_13 : decode b_U_addApproval 13 = .ok (.dup, 1) := by decide +kernel
theorem d_U_addApproval_14 : decode b_U_addApproval 14 = .ok (.getfield 71, 3) := by decide +kernel
theorem d_U_addApproval_17 : decode b_U_addApproval 17 = .ok (.iconst 1, 1) := by decide +kernel
theorem d_U_addApproval_18 : decode b_U_addApproval 18 = .ok (.iadd, 1) := by decide +kernel
theorem d_U_addApproval_19 : decode b_U_addApproval 19 = .ok (.putfield 71, 3) := by decide +kernel
theorem d_U_addApproval_22 : decode b_U_addApproval 22 = .ok (.return_, 1) := by decide +kernel
theorem d_U_addRule_0 : decode b_U_addRule 0 = .ok (.aload_n 0, 1) := by decide +kernel
theorem d_U_addRule_1 : decode b_U_addRule 1 = .ok (.getfield 40, 3) := by decide +kernel
theorem d_U_addRule_4 : decode b_U_addRule 4 = .ok (.ifCond .lt 15, 3) := by decide +kernel
theorem d_U_addRule_7 : decode b_U_addRule 7 = .ok (.aload_n 0, 1) := by decide +kernel
theorem d_U_addRule_8 : decode b_U_addRule 8 = .ok (.getfield 40, 3) := by decide +kernel
theorem d_U_addRule_11 : decode b_U_addRule 11 = .ok (.aload_n 0, 1) := by decide +kernel
theorem d_U_addRule_12 : decode b_U_addRule 12 = .ok (.getfield 17, 3) := by decide +kernel
theorem d_U_addRule_15 : decode b_U_addRule 15 = .ok (.arraylength, 1) := by decide +kernel
theorem d_U_addRule_16 : decode b_U_addRule 16 = .ok (.if_icmp .lt 5, 3) := by decide +kernel
theorem d_U_addRule_19 : decode b_U_addRule 19 = .ok (.iconst 0, 1) := by decide +kernel
theorem d_U_addRule_20 : decode b_U_addRule 20 = .ok (.ireturn, 1) := by decide +kernel
theorem d_U_addRule_21 : decode b_U_addRule 21 = .ok (.aload_n 0, 1) := by decide +kernel
theorem d_U_addRule_22 : decode b_U_addRule 22 = .ok (.getfield 17, 3) := by decide +kernel
theorem d_U_addRule_25 : decode b_U_addRule 25 = .ok (.aload_n 0, 1) := by decide +kernel
theorem d_U_addRule_26 : decode b_U_addRule 26 = .ok (.getfield 40, 3) := by decide +kernel
theorem d_U_addRule_29 : decode b_U_addRule 29 = .ok (.aload_n 1, 1) := by decide +kernel
theorem d_U_addRule_30 : decode b_U_addRule 30 = .ok (.aastore, 1) := by decide +kernel
theorem d_U_addRule_31 : decode b_U_addRule 31 = .ok (.aload_n 0, 1) := by decide +kernel
theorem d_U_addRule_32 : decode b_U_addRule 32 = .ok (.dup, 1) := by decide +kernel
theorem d_U_addRule_33 : decode b_U_addRule 33 = .ok (.getfield 40, 3) := by decide +kernel
theorem d_U_addRule_36 : decode b_U_addRule 36 = .ok (.iconst 1, 1) := by decide +kernel
theorem d_U_addRule_37 : decode b_U_addRule 37 = .ok (.iadd, 1) := by decide +kernel
theorem d_U_addRule_38 : decode b_U_addRule 38 = .ok (.putfield 40, 3) := by decide +kernel
theorem d_U_addRule_41 : decode b_U_addRule 41 = .ok (.aload_n 0, 1) := by decide +kernel
theorem d_U_addRule_42 : decode b_U_addRule 42 = .ok (.invokevirtual 37, 3) := by decide +kernel
theorem d_U_addRule_45 : decode b_U_addRule 45 = .ok (.iconst 1, 1) := by decide +kernel
theorem d_U_addRule_46 : decode b_U_addRule 46 = .ok (.ireturn, 1) := by decide +kernel
theorem d_U_approvalCount_0 : decode b_U_approvalCount 0 = .ok (.aload_n 0, 1) := by decide +kernel
theorem d_U_approvalCount_1 : decode b_U_approvalCount 1 = .ok (.getfield 71, 3) := by decide +kernel
theorem d_U_approvalCount_4 : decode b_U_approvalCount 4 = .ok (.ireturn, 1) := by decide +kernel
theorem d_U_certificateNumber_0 : decode b_U_certificateNumber 0 = .ok (.aload_n 0, 1) := by decide +kernel
theorem d_U_certificateNumber_1 : decode b_U_certificateNumber 1 = .ok (.getfield 34, 3) := by decide +kernel
theorem d_U_certificateNumber_4 : decode b_U_certificateNumber 4 = .ok (.ireturn, 1) := by decide +kernel
theorem d_U_decidingRule_0 : decode b_U_decidingRule 0 = .ok (.aconst_null, 1) := by decide +kernel
theorem d_U_decidingRule_1 : decode b_U_decidingRule 1 = .ok (.astore_n 2, 1) := by decide +kernel
theorem d_U_decidingRule_2 : decode b_U_decidingRule 2 = .ok (.iconst (-1), 1) := by decide +kernel
theorem d_U_decidingRule_3 : decode b_U_decidingRule 3 = .ok (.istore_n 3, 1) := by decide +kernel
theorem d_U_decidingRule_4 : decode b_U_decidingRule 4 = .ok (.iconst 0, 1) := by decide +kernel
theorem d_U_decidingRule_5 : decode b_U_decidingRule 5 = .ok (.istore 4, 2) := by decide +kernel
theorem d_U_decidingRule_7 : decode b_U_decidingRule 7 = .ok (.iload 4, 2) := by decide +kernel
theorem d_U_decidingRule_9 : decode b_U_decidingRule 9 = .ok (.aload_n 0, 1) := by decide +kernel
theorem d_U_decidingRule_10 : decode b_U_decidingRule 10 = .ok (.getfield 40, 3) := by decide +kernel
theorem d_U_decidingRule_13 : decode b_U_decidingRule 13 = .ok (.if_icmp .ge 80, 3) := by decide +kernel
theorem d_U_decidingRule_16 : decode b_U_decidingRule 16 = .ok (.iload 4, 2) := by decide +kernel
theorem d_U_decidingRule_18 : decode b_U_decidingRule 18 = .ok (.aload_n 0, 1) := by decide +kernel
theorem d_U_decidingRule_19 : decode b_U_decidingRule 19 = .ok (.getfield 17, 3) := by decide +kernel
theorem d_U_decidingRule_22 : decode b_U_decidingRule 22 = .ok (.arraylength, 1) := by decide +kernel
theorem d_U_decidingRule_23 : decode b_U_decidingRule 23 = .ok (.if_icmp .ge 70, 3) := by decide +kernel
theorem d_U_decidingRule_26 : decode b_U_decidingRule 26 = .ok (.aload_n 0, 1) := by decide +kernel
theorem d_U_decidingRule_27 : decode b_U_decidingRule 27 = .ok (.getfield 17, 3) := by decide +kernel
theorem d_U_decidingRule_30 : decode b_U_decidingRule 30 = .ok (.iload 4, 2) := by decide +kernel
theorem d_U_decidingRule_32 : decode b_U_decidingRule 32 = .ok (.aaload, 1) := by decide +kernel
theorem d_U_decidingRule_33 : decode b_U_decidingRule 33 = .ok (.astore 5, 2) := by decide +kernel
theorem d_U_decidingRule_35 : decode b_U_decidingRule 35 = .ok (.aload 5, 2) := by decide +kernel
theorem d_U_decidingRule_37 : decode b_U_decidingRule 37 = .ok (.ifnull 11, 3) := by decide +kernel
theorem d_U_decidingRule_40 : decode b_U_decidingRule 40 = .ok (.aload 5, 2) := by decide +kernel
theorem d_U_decidingRule_42 : decode b_U_decidingRule 42 = .ok (.invokevirtual 43, 3) := by decide +kernel
theorem d_U_decidingRule_45 : decode b_U_decidingRule 45 = .ok (.ifCond .eq 5, 3) := by decide +kernel
theorem d_U_decidingRule_48 : decode b_U_decidingRule 48 = .ok (.aconst_null, 1) := by decide +kernel
theorem d_U_decidingRule_49 : decode b_U_decidingRule 49 = .ok (.areturn, 1) := by decide +kernel
theorem d_U_decidingRule_50 : decode b_U_decidingRule 50 = .ok (.aload 5, 2) := by decide +kernel
theorem d_U_decidingRule_52 : decode b_U_decidingRule 52 = .ok (.aload_n 0, 1) := by decide +kernel
theorem d_U_decidingRule_53 : decode b_U_decidingRule 53 = .ok (.aload 5, 2) := by decide +kernel
theorem d_U_decidingRule_55 : decode b_U_decidingRule 55 = .ok (.invokevirtual 51, 3) := by decide +kernel
theorem d_U_decidingRule_58 : decode b_U_decidingRule 58 = .ok (.invokevirtual 55, 3) := by decide +kernel
theorem d_U_decidingRule_61 : decode b_U_decidingRule 61 = .ok (.iload_n 1, 1) := by decide +kernel
theorem d_U_decidingRule_62 : decode b_U_decidingRule 62 = .ok (.invokevirtual 59, 3) := by decide +kernel
theorem d_U_decidingRule_65 : decode b_U_decidingRule 65 = .ok (.istore 6, 2) := by decide +kernel
theorem d_U_decidingRule_67 : decode b_U_decidingRule 67 = .ok (.iload 6, 2) := by decide +kernel
theorem d_U_decidingRule_69 : decode b_U_decidingRule 69 = .ok (.iconst (-1), 1) := by decide +kernel
theorem d_U_decidingRule_70 : decode b_U_decidingRule 70 = .ok (.if_icmp .ne 5, 3) := by decide +kernel
theorem d_U_decidingRule_73 : decode b_U_decidingRule 73 = .ok (.aconst_null, 1) := by decide +kernel
theorem d_U_decidingRule_74 : decode b_U_decidingRule 74 = .ok (.areturn, 1) := by decide +kernel
theorem d_U_decidingRule_75 : decode b_U_decidingRule 75 = .ok (.iload 6, 2) := by decide +kernel
theorem d_U_decidingRule_77 : decode b_U_decidingRule 77 = .ok (.iload_n 3, 1) := by decide +kernel
theorem d_U_decidingRule_78 : decode b_U_decidingRule 78 = .ok (.if_icmp .le 9, 3) := by decide +kernel
theorem d_U_decidingRule_81 : decode b_U_decidingRule 81 = .ok (.iload 6, 2) := by decide +kernel
theorem d_U_decidingRule_83 : decode b_U_decidingRule 83 = .ok (.istore_n 3, 1) := by decide +kernel
theorem d_U_decidingRule_84 : decode b_U_decidingRule 84 = .ok (.aload 5, 2) := by decide +kernel
theorem d_U_decidingRule_86 : decode b_U_decidingRule 86 = .ok (.astore_n 2, 1) := by decide +kernel
theorem d_U_decidingRule_87 : decode b_U_decidingRule 87 = .ok (.iinc 4 1, 3) := by decide +kernel
theorem d_U_decidingRule_90 : decode b_U_decidingRule 90 = .ok (.goto (-83), 3) := by decide +kernel
theorem d_U_decidingRule_93 : decode b_U_decidingRule 93 = .ok (.aload_n 2, 1) := by decide +kernel
theorem d_U_decidingRule_94 : decode b_U_decidingRule 94 = .ok (.areturn, 1) := by decide +kernel
theorem d_U_disposalDay_0 : decode b_U_disposalDay 0 = .ok (.aload_n 0, 1) := by decide +kernel
theorem d_U_disposalDay_1 : decode b_U_disposalDay 1 = .ok (.getfield 31, 3) := by decide +kernel
theorem d_U_disposalDay_4 : decode b_U_disposalDay 4 = .ok (.ireturn, 1) := by decide +kernel
theorem d_U_dueAction_0 : decode b_U_dueAction 0 = .ok (.aload_n 0, 1) := by decide +kernel
theorem d_U_dueAction_1 : decode b_U_dueAction 1 = .ok (.iload_n 1, 1) := by decide +kernel
theorem d_U_dueAction_2 : decode b_U_dueAction 2 = .ok (.invokevirtual 47, 3) := by decide +kernel
theorem d_U_dueAction_5 : decode b_U_dueAction 5 = .ok (.astore_n 2, 1) := by decide +kernel
theorem d_U_dueAction_6 : decode b_U_dueAction 6 = .ok (.aload_n 2, 1) := by decide +kernel
theorem d_U_dueAction_7 : decode b_U_dueAction 7 = .ok (.ifnonnull 7, 3) := by decide +kernel
theorem d_U_dueAction_10 : decode b_U_dueAction 10 = .ok (.iconst (-1), 1) := by decide +kernel
theorem d_U_dueAction_11 : decode b_U_dueAction 11 = .ok (.goto 7, 3) := by decide +kernel
theorem d_U_dueAction_14 : decode b_U_dueAction 14 = .ok (.aload_n 2, 1) := by decide +kernel
theorem d_U_dueAction_15 : decode b_U_dueAction 15 = .ok (.invokevirtual 63, 3) := by decide +kernel
theorem d_U_dueAction_18 : decode b_U_dueAction 18 = .ok (.ireturn, 1) := by decide +kernel
theorem d_U_dueDay_0 : decode b_U_dueDay 0 = .ok (.aload_n 0, 1) := by decide +kernel
theorem d_U_dueDay_1 : decode b_U_dueDay 1 = .ok (.iload_n 1, 1) := by decide +kernel
theorem d_U_dueDay_2 : decode b_U_dueDay 2 = .ok (.invokevirtual 47, 3) := by decide +kernel
theorem d_U_dueDay_5 : decode b_U_dueDay 5 = .ok (.astore_n 2, 1) := by decide +kernel
theorem d_U_dueDay_6 : decode b_U_dueDay 6 = .ok (.aload_n 2, 1) := by decide +kernel
theorem d_U_dueDay_7 : decode b_U_dueDay 7 = .ok (.ifnonnull 7, 3) := by decide +kernel
theorem d_U_dueDay_10 : decode b_U_dueDay 10 = .ok (.iconst (-1), 1) := by decide +kernel
theorem d_U_dueDay_11 : decode b_U_dueDay 11 = .ok (.goto 16, 3) := by decide +kernel
theorem d_U_dueDay_14 : decode b_U_dueDay 14 = .ok (.aload_n 2, 1) := by decide +kernel
theorem d_U_dueDay_15 : decode b_U_dueDay 15 = .ok (.aload_n 0, 1) := by decide +kernel
theorem d_U_dueDay_16 : decode b_U_dueDay 16 = .ok (.aload_n 2, 1) := by decide +kernel
theorem d_U_dueDay_17 : decode b_U_dueDay 17 = .ok (.invokevirtual 51, 3) := by decide +kernel
theorem d_U_dueDay_20 : decode b_U_dueDay 20 = .ok (.invokevirtual 55, 3) := by decide +kernel
theorem d_U_dueDay_23 : decode b_U_dueDay 23 = .ok (.iload_n 1, 1) := by decide +kernel
theorem d_U_dueDay_24 : decode b_U_dueDay 24 = .ok (.invokevirtual 59, 3) := by decide +kernel
theorem d_U_dueDay_27 : decode b_U_dueDay 27 = .ok (.ireturn, 1) := by decide +kernel
theorem d_U_eventDay_0 : decode b_U_eventDay 0 = .ok (.iload_n 1, 1) := by decide +kernel
theorem d_U_eventDay_1 : decode b_U_eventDay 1 = .ok (.ifCond .lt 21, 3) := by decide +kernel
theorem d_U_eventDay_4 : decode b_U_eventDay 4 = .ok (.iload_n 1, 1) := by decide +kernel
theorem d_U_eventDay_5 : decode b_U_eventDay 5 = .ok (.aload_n 0, 1) := by decide +kernel
theorem d_U_eventDay_6 : decode b_U_eventDay 6 = .ok (.getfield 9, 3) := by decide +kernel
theorem d_U_eventDay_9 : decode b_U_eventDay 9 = .ok (.arraylength, 1) := by decide +kernel
theorem d_U_eventDay_10 : decode b_U_eventDay 10 = .ok (.if_icmp .ge 12, 3) := by decide +kernel
theorem d_U_eventDay_13 : decode b_U_eventDay 13 = .ok (.aload_n 0, 1) := by decide +kernel
theorem d_U_eventDay_14 : decode b_U_eventDay 14 = .ok (.getfield 9, 3) := by decide +kernel
theorem d_U_eventDay_17 : decode b_U_eventDay 17 = .ok (.iload_n 1, 1) := by decide +kernel
theorem d_U_eventDay_18 : decode b_U_eventDay 18 = .ok (.iaload, 1) := by decide +kernel
theorem d_U_eventDay_19 : decode b_U_eventDay 19 = .ok (.goto 4, 3) := by decide +kernel
theorem d_U_eventDay_22 : decode b_U_eventDay 22 = .ok (.iconst (-1), 1) := by decide +kernel
theorem d_U_eventDay_23 : decode b_U_eventDay 23 = .ok (.ireturn, 1) := by decide +kernel
theorem d_U_hasBrokenRule_0 : decode b_U_hasBrokenRule 0 = .ok (.iconst 0, 1) := by decide +kernel
theorem d_U_hasBrokenRule_1 : decode b_U_hasBrokenRule 1 = .ok (.istore_n 1, 1) := by decide +kernel
theorem d_U_hasBrokenRule_2 : decode b_U_hasBrokenRule 2 = .ok (.iload_n 1, 1) := by decide +kernel
theorem d_U_hasBrokenRule_3 : decode b_U_hasBrokenRule 3 = .ok (.aload_n 0, 1) := by decide +kernel
theorem d_U_hasBrokenRule_4 : decode b_U_hasBrokenRule 4 = .ok (.getfield 40, 3) := by decide +kernel
theorem d_U_hasBrokenRule_7 : decode b_U_hasBrokenRule 7 = .ok (.if_icmp .ge 38, 3) := by decide +kernel
theorem d_U_hasBrokenRule_10 : decode b_U_hasBrokenRule 10 = .ok (.iload_n 1, 1) := by decide +kernel
theorem d_U_hasBrokenRule_11 : decode b_U_hasBrokenRule 11 = .ok (.aload_n 0, 1) := by decide +kernel
theorem d_U_hasBrokenRule_12 : decode b_U_hasBrokenRule 12 = .ok (.getfield 17, 3) := by decide +kernel
theorem d_U_hasBrokenRule_15 : decode b_U_hasBrokenRule 15 = .ok (.arraylength, 1) := by decide +kernel
theorem d_U_hasBrokenRule_16 : decode b_U_hasBrokenRule 16 = .ok (.if_icmp .ge 29, 3) := by decide +kernel
theorem d_U_hasBrokenRule_19 : decode b_U_hasBrokenRule 19 = .ok (.aload_n 0, 1) := by decide +kernel
theorem d_U_hasBrokenRule_20 : decode b_U_hasBrokenRule 20 = .ok (.getfield 17, 3) := by decide +kernel
theorem d_U_hasBrokenRule_23 : decode b_U_hasBrokenRule 23 = .ok (.iload_n 1, 1) := by decide +kernel
theorem d_U_hasBrokenRule_24 : decode b_U_hasBrokenRule 24 = .ok (.aaload, 1) := by decide +kernel
theorem d_U_hasBrokenRule_25 : decode b_U_hasBrokenRule 25 = .ok (.astore_n 2, 1) := by decide +kernel
theorem d_U_hasBrokenRule_26 : decode b_U_hasBrokenRule 26 = .ok (.aload_n 2, 1) := by decide +kernel
theorem d_U_hasBrokenRule_27 : decode b_U_hasBrokenRule 27 = .ok (.ifnull 12, 3) := by decide +kernel
theorem d_U_hasBrokenRule_30 : decode b_U_hasBrokenRule 30 = .ok (.aload_n 2, 1) := by decide +kernel
theorem d_U_hasBrokenRule_31 : decode b_U_hasBrokenRule 31 = .ok (.invokevirtual 43, 3) := by decide +kernel
theorem d_U_hasBrokenRule_34 : decode b_U_hasBrokenRule 34 = .ok (.ifCond .eq 5, 3) := by decide +kernel
theorem d_U_hasBrokenRule_37 : decode b_U_hasBrokenRule 37 = .ok (.iconst 1, 1) := by decide +kernel
theorem d_U_hasBrokenRule_38 : decode b_U_hasBrokenRule 38 = .ok (.ireturn, 1) := by decide +kernel
theorem d_U_hasBrokenRule_39 : decode b_U_hasBrokenRule 39 = .ok (.iinc 1 1, 3) := by decide +kernel
theorem d_U_hasBrokenRule_42 : decode b_U_hasBrokenRule 42 = .ok (.goto (-40), 3) := by decide +kernel
theorem d_U_hasBrokenRule_45 : decode b_U_hasBrokenRule 45 = .ok (.iconst 0, 1) := by decide +kernel
theorem d_U_hasBrokenRule_46 : decode b_U_hasBrokenRule 46 = .ok (.ireturn, 1) := by decide +kernel
theorem d_U_hasCertificate_0 : decode b_U_hasCertificate 0 = .ok (.aload_n 0, 1) := by decide +kernel
theorem d_U_hasCertificate_1 : decode b_U_hasCertificate 1 = .ok (.getfield 34, 3) := by decide +kernel
theorem d_U_hasCertificate_4 : decode b_U_hasCertificate 4 = .ok (.iconst (-1), 1) := by decide +kernel
theorem d_U_hasCertificate_5 : decode b_U_hasCertificate 5 = .ok (.if_icmp .eq 7, 3) := by decide +kernel
theorem d_U_hasCertificate_8 : decode b_U_hasCertificate 8 = .ok (.iconst 1, 1) := by decide +kernel
theorem d_U_hasCertificate_9 : decode b_U_hasCertificate 9 = .ok (.goto 4, 3) := by decide +kernel
theorem d_U_hasCertificate_12 : decode b_U_hasCertificate 12 = .ok (.iconst 0, 1) := by decide +kernel
theorem d_U_hasCertificate_13 : decode b_U_hasCertificate 13 = .ok (.ireturn, 1) := by decide +kernel
theorem d_U_hasRule_0 : decode b_U_hasRule 0 = .ok (.iconst 0, 1) := by decide +kernel
theorem d_U_hasRule_1 : decode b_U_hasRule 1 = .ok (.istore_n 2, 1) := by decide +kernel
theorem d_U_hasRule_2 : decode b_U_hasRule 2 = .ok (.iload_n 2, 1) := by decide +kernel
theorem d_U_hasRule_3 : decode b_U_hasRule 3 = .ok (.aload_n 0, 1) := by decide +kernel
theorem d_U_hasRule_4 : decode b_U_hasRule 4 = .ok (.getfield 40, 3) := by decide +kernel
theorem d_U_hasRule_7 : decode b_U_hasRule 7 = .ok (.if_icmp .ge 30, 3) := by decide +kernel
theorem d_U_hasRule_10 : decode b_U_hasRule 10 = .ok (.iload_n 2, 1) := by decide +kernel
theorem d_U_hasRule_11 : decode b_U_hasRule 11 = .ok (.aload_n 0, 1) := by decide +kernel
theorem d_U_hasRule_12 : decode b_U_hasRule 12 = .ok (.getfield 17, 3) := by decide +kernel
theorem d_U_hasRule_15 : decode b_U_hasRule 15 = .ok (.arraylength, 1) := by decide +kernel
theorem d_U_hasRule_16 : decode b_U_hasRule 16 = .ok (.if_icmp .ge 21, 3) := by decide +kernel
theorem d_U_hasRule_19 : decode b_U_hasRule 19 = .ok (.aload_n 0, 1) := by decide +kernel
theorem d_U_hasRule_20 : decode b_U_hasRule 20 = .ok (.getfield 17, 3) := by decide +kernel
theorem d_U_hasRule_23 : decode b_U_hasRule 23 = .ok (.iload_n 2, 1) := by decide +kernel
theorem d_U_hasRule_24 : decode b_U_hasRule 24 = .ok (.aaload, 1) := by decide +kernel
theorem d_U_hasRule_25 : decode b_U_hasRule 25 = .ok (.aload_n 1, 1) := by decide +kernel
theorem d_U_hasRule_26 : decode b_U_hasRule 26 = .ok (.if_acmp .ne 5, 3) := by decide +kernel
theorem d_U_hasRule_29 : decode b_U_hasRule 29 = .ok (.iconst 1, 1) := by decide +kernel
theorem d_U_hasRule_30 : decode b_U_hasRule 30 = .ok (.ireturn, 1) := by decide +kernel
theorem d_U_hasRule_31 : decode b_U_hasRule 31 = .ok (.iinc 2 1, 3) := by decide +kernel
theorem d_U_hasRule_34 : decode b_U_hasRule 34 = .ok (.goto (-32), 3) := by decide +kernel
theorem d_U_hasRule_37 : decode b_U_hasRule 37 = .ok (.iconst 0, 1) := by decide +kernel
theorem d_U_hasRule_38 : decode b_U_hasRule 38 = .ok (.ireturn, 1) := by decide +kernel
theorem d_U_init_0 : decode b_U_init 0 = .ok (.aload_n 0, 1) := by decide +kernel
theorem d_U_init_1 : decode b_U_init 1 = .ok (.invokespecial 3, 3) := by decide +kernel
theorem d_U_init_4 : decode b_U_init 4 = .ok (.aload_n 0, 1) := by decide +kernel
theorem d_U_init_5 : decode b_U_init 5 = .ok (.iconst 4, 1) := by decide +kernel
theorem d_U_init_6 : decode b_U_init 6 = .ok (.newarray .int, 2) := by decide +kernel
theorem d_U_init_8 : decode b_U_init 8 = .ok (.putfield 9, 3) := by decide +kernel
theorem d_U_init_11 : decode b_U_init 11 = .ok (.aload_n 0, 1) := by decide +kernel
theorem d_U_init_12 : decode b_U_init 12 = .ok (.iconst 4, 1) := by decide +kernel
theorem d_U_init_13 : decode b_U_init 13 = .ok (.anewarray 15, 3) := by decide +kernel
theorem d_U_init_16 : decode b_U_init 16 = .ok (.putfield 17, 3) := by decide +kernel
theorem d_U_init_19 : decode b_U_init 19 = .ok (.aload_n 0, 1) := by decide +kernel
theorem d_U_init_20 : decode b_U_init 20 = .ok (.iconst 4, 1) := by decide +kernel
theorem d_U_init_21 : decode b_U_init 21 = .ok (.newarray .int, 2) := by decide +kernel
theorem d_U_init_23 : decode b_U_init 23 = .ok (.putfield 21, 3) := by decide +kernel
theorem d_U_init_26 : decode b_U_init 26 = .ok (.aload_n 0, 1) := by decide +kernel
theorem d_U_init_27 : decode b_U_init 27 = .ok (.iconst (-1), 1) := by decide +kernel
theorem d_U_init_28 : decode b_U_init 28 = .ok (.putfield 24, 3) := by decide +kernel
theorem d_U_init_31 : decode b_U_init 31 = .ok (.aload_n 0, 1) := by decide +kernel
theorem d_U_init_32 : decode b_U_init 32 = .ok (.iconst (-1), 1) := by decide +kernel
theorem d_U_init_33 : decode b_U_init 33 = .ok (.putfield 28, 3) := by decide +kernel
theorem d_U_init_36 : decode b_U_init 36 = .ok (.aload_n 0, 1) := by decide +kernel
theorem d_U_init_37 : decode b_U_init 37 = .ok (.iconst (-1), 1) := by decide +kernel
theorem d_U_init_38 : decode b_U_init 38 = .ok (.putfield 31, 3) := by decide +kernel
theorem d_U_init_41 : decode b_U_init 41 = .ok (.aload_n 0, 1) := by decide +kernel
theorem d_U_init_42 : decode b_U_init 42 = .ok (.iconst (-1), 1) := by decide +kernel
theorem d_U_init_43 : decode b_U_init 43 = .ok (.putfield 34, 3) := by decide +kernel
theorem d_U_init_46 : decode b_U_init 46 = .ok (.iconst 0, 1) := by decide +kernel
theorem d_U_init_47 : decode b_U_init 47 = .ok (.istore_n 1, 1) := by decide +kernel
theorem d_U_init_48 : decode b_U_init 48 = .ok (.iload_n 1, 1) := by decide +kernel
theorem d_U_init_49 : decode b_U_init 49 = .ok (.aload_n 0, 1) := by decide +kernel
theorem d_U_init_50 : decode b_U_init 50 = .ok (.getfield 9, 3) := by decide +kernel
theorem d_U_init_53 : decode b_U_init 53 = .ok (.arraylength, 1) := by decide +kernel
theorem d_U_init_54 : decode b_U_init 54 = .ok (.if_icmp .ge 16, 3) := by decide +kernel
theorem d_U_init_57 : decode b_U_init 57 = .ok (.aload_n 0, 1) := by decide +kernel
theorem d_U_init_58 : decode b_U_init 58 = .ok (.getfield 9, 3) := by decide +kernel
theorem d_U_init_61 : decode b_U_init 61 = .ok (.iload_n 1, 1) := by decide +kernel
theorem d_U_init_62 : decode b_U_init 62 = .ok (.iconst (-1), 1) := by decide +kernel
theorem d_U_init_63 : decode b_U_init 63 = .ok (.iastore, 1) := by decide +kernel
theorem d_U_init_64 : decode b_U_init 64 = .ok (.iinc 1 1, 3) := by decide +kernel
theorem d_U_init_67 : decode b_U_init 67 = .ok (.goto (-19), 3) := by decide +kernel
theorem d_U_init_70 : decode b_U_init 70 = .ok (.iconst 0, 1) := by decide +kernel
theorem d_U_init_71 : decode b_U_init 71 = .ok (.istore_n 1, 1) := by decide +kernel
theorem d_U_init_72 : decode b_U_init 72 = .ok (.iload_n 1, 1) := by decide +kernel
theorem d_U_init_73 : decode b_U_init 73 = .ok (.aload_n 0, 1) := by decide +kernel
theorem d_U_init_74 : decode b_U_init 74 = .ok (.getfield 21, 3) := by decide +kernel
theorem d_U_init_77 : decode b_U_init 77 = .ok (.arraylength, 1) := by decide +kernel
theorem d_U_init_78 : decode b_U_init 78 = .ok (.if_icmp .ge 17, 3) := by decide +kernel
theorem d_U_init_81 : decode b_U_init 81 = .ok (.aload_n 0, 1) := by decide +kernel
theorem d_U_init_82 : decode b_U_init 82 = .ok (.getfield 21, 3) := by decide +kernel
theorem d_U_init_85 : decode b_U_init 85 = .ok (.iload_n 1, 1) := by decide +kernel
theorem d_U_init_86 : decode b_U_init 86 = .ok (.bipush (-2), 2) := by decide +kernel
theorem d_U_init_88 : decode b_U_init 88 = .ok (.iastore, 1) := by decide +kernel
theorem d_U_init_89 : decode b_U_init 89 = .ok (.iinc 1 1, 3) := by decide +kernel
theorem d_U_init_92 : decode b_U_init 92 = .ok (.goto (-20), 3) := by decide +kernel
theorem d_U_init_95 : decode b_U_init 95 = .ok (.return_, 1) := by decide +kernel
theorem d_U_isApproved_0 : decode b_U_isApproved 0 = .ok (.aload_n 0, 1) := by decide +kernel
theorem d_U_isApproved_1 : decode b_U_isApproved 1 = .ok (.getfield 71, 3) := by decide +kernel
theorem d_U_isApproved_4 : decode b_U_isApproved 4 = .ok (.iconst 2, 1) := by decide +kernel
theorem d_U_isApproved_5 : decode b_U_isApproved 5 = .ok (.if_icmp .lt 7, 3) := by decide +kernel
theorem d_U_isApproved_8 : decode b_U_isApproved 8 = .ok (.iconst 1, 1) := by decide +kernel
theorem d_U_isApproved_9 : decode b_U_isApproved 9 = .ok (.goto 4, 3) := by decide +kernel
theorem d_U_isApproved_12 : decode b_U_isApproved 12 = .ok (.iconst 0, 1) := by decide +kernel
theorem d_U_isApproved_13 : decode b_U_isApproved 13 = .ok (.ireturn, 1) := by decide +kernel
theorem d_U_isApprovedBy_0 : decode b_U_isApprovedBy 0 = .ok (.aload_n 0, 1) := by decide +kernel
theorem d_U_isApprovedBy_1 : decode b_U_isApprovedBy 1 = .ok (.getfield 71, 3) := by decide +kernel
theorem d_U_isApprovedBy_4 : decode b_U_isApprovedBy 4 = .ok (.ifCond .le 15, 3) := by decide +kernel
theorem d_U_isApprovedBy_7 : decode b_U_isApprovedBy 7 = .ok (.aload_n 0, 1) := by decide +kernel
theorem d_U_isApprovedBy_8 : decode b_U_isApprovedBy 8 = .ok (.getfield 28, 3) := by decide +kernel
theorem d_U_isApprovedBy_11 : decode b_U_isApprovedBy 11 = .ok (.iload_n 1, 1) := by decide +kernel
theorem d_U_isApprovedBy_12 : decode b_U_isApprovedBy 12 = .ok (.if_icmp .ne 7, 3) := by decide +kernel
theorem d_U_isApprovedBy_15 : decode b_U_isApprovedBy 15 = .ok (.iconst 1, 1) := by decide +kernel
theorem d_U_isApprovedBy_16 : decode b_U_isApprovedBy 16 = .ok (.goto 4, 3) := by decide +kernel
theorem d_U_isApprovedBy_19 : decode b_U_isApprovedBy 19 = .ok (.iconst 0, 1) := by decide +kernel
theorem d_U_isApprovedBy_20 : decode b_U_isApprovedBy 20 = .ok (.ireturn, 1) := by decide +kernel
theorem d_U_isDisposed_0 : decode b_U_isDisposed 0 = .ok (.aload_n 0, 1) := by decide +kernel
theorem d_U_isDisposed_1 : decode b_U_isDisposed 1 = .ok (.getfield 31, 3) := by decide +kernel
theorem d_U_isDisposed_4 : decode b_U_isDisposed 4 = .ok (.iconst (-1), 1) := by decide +kernel
theorem d_U_isDisposed_5 : decode b_U_isDisposed 5 = .ok (.if_icmp .eq 7, 3) := by decide +kernel
theorem d_U_isDisposed_8 : decode b_U_isDisposed 8 = .ok (.iconst 1, 1) := by decide +kernel
theorem d_U_isDisposed_9 : decode b_U_isDisposed 9 = .ok (.goto 4, 3) := by decide +kernel
theorem d_U_isDisposed_12 : decode b_U_isDisposed 12 = .ok (.iconst 0, 1) := by decide +kernel
theorem d_U_isDisposed_13 : decode b_U_isDisposed 13 = .ok (.ireturn, 1) := by decide +kernel
theorem d_U_isDue_0 : decode b_U_isDue 0 = .ok (.aload_n 0, 1) := by decide +kernel
theorem d_U_isDue_1 : decode b_U_isDue 1 = .ok (.invokevirtual 66, 3) := by decide +kernel
theorem d_U_isDue_4 : decode b_U_isDue 4 = .ok (.ifCond .ne 11, 3) := by decide +kernel
theorem d_U_isDue_7 : decode b_U_isDue 7 = .ok (.aload_n 0, 1) := by decide +kernel
theorem d_U_isDue_8 : decode b_U_isDue 8 = .ok (.getfield 24, 3) := by decide +kernel
theorem d_U_isDue_11 : decode b_U_isDue 11 = .ok (.iload_n 1, 1) := by decide +kernel
theorem d_U_isDue_12 : decode b_U_isDue 12 = .ok (.if_icmp .lt 5, 3) := by decide +kernel
theorem d_U_isDue_15 : decode b_U_isDue 15 = .ok (.iconst 0, 1) := by decide +kernel
theorem d_U_isDue_16 : decode b_U_isDue 16 = .ok (.ireturn, 1) := by decide +kernel
theorem d_U_isDue_17 : decode b_U_isDue 17 = .ok (.aload_n 0, 1) := by decide +kernel
theorem d_U_isDue_18 : decode b_U_isDue 18 = .ok (.iload_n 1, 1) := by decide +kernel
theorem d_U_isDue_19 : decode b_U_isDue 19 = .ok (.invokevirtual 69, 3) := by decide +kernel
theorem d_U_isDue_22 : decode b_U_isDue 22 = .ok (.istore_n 2, 1) := by decide +kernel
theorem d_U_isDue_23 : decode b_U_isDue 23 = .ok (.iload_n 2, 1) := by decide +kernel
theorem d_U_isDue_24 : decode b_U_isDue 24 = .ok (.iconst (-1), 1) := by decide +kernel
theorem d_U_isDue_25 : decode b_U_isDue 25 = .ok (.if_icmp .eq 12, 3) := by decide +kernel
theorem d_U_isDue_28 : decode b_U_isDue 28 = .ok (.iload_n 2, 1) := by decide +kernel
theorem d_U_isDue_29 : decode b_U_isDue 29 = .ok (.iload_n 1, 1) := by decide +kernel
theorem d_U_isDue_30 : decode b_U_isDue 30 = .ok (.if_icmp .gt 7, 3) := by decide +kernel
theorem d_U_isDue_33 : decode b_U_isDue 33 = .ok (.iconst 1, 1) := by decide +kernel
theorem d_U_isDue_34 : decode b_U_isDue 34 = .ok (.goto 4, 3) := by decide +kernel
theorem d_U_isDue_37 : decode b_U_isDue 37 = .ok (.iconst 0, 1) := by decide +kernel
theorem d_U_isDue_38 : decode b_U_isDue 38 = .ok (.ireturn, 1) := by decide +kernel
theorem d_U_isHeld_0 : decode b_U_isHeld 0 = .ok (.iconst 0, 1) := by decide +kernel
theorem d_U_isHeld_1 : decode b_U_isHeld 1 = .ok (.istore_n 2, 1) := by decide +kernel
theorem d_U_isHeld_2 : decode b_U_isHeld 2 = .ok (.iload_n 2, 1) := by decide +kernel
theorem d_U_isHeld_3 : decode b_U_isHeld 3 = .ok (.aload_n 0, 1) := by decide +kernel
theorem d_U_isHeld_4 : decode b_U_isHeld 4 = .ok (.getfield 21, 3) := by decide +kernel
theorem d_U_isHeld_7 : decode b_U_isHeld 7 = .ok (.arraylength, 1) := by decide +kernel
theorem d_U_isHeld_8 : decode b_U_isHeld 8 = .ok (.if_icmp .ge 31, 3) := by decide +kernel
theorem d_U_isHeld_11 : decode b_U_isHeld 11 = .ok (.aload_n 0, 1) := by decide +kernel
theorem d_U_isHeld_12 : decode b_U_isHeld 12 = .ok (.getfield 21, 3) := by decide +kernel
theorem d_U_isHeld_15 : decode b_U_isHeld 15 = .ok (.iload_n 2, 1) := by decide +kernel
theorem d_U_isHeld_16 : decode b_U_isHeld 16 = .ok (.iaload, 1) := by decide +kernel
theorem d_U_isHeld_17 : decode b_U_isHeld 17 = .ok (.iconst (-1), 1) := by decide +kernel
theorem d_U_isHeld_18 : decode b_U_isHeld 18 = .ok (.if_icmp .eq 13, 3) := by decide +kernel
theorem d_U_isHeld_21 : decode b_U_isHeld 21 = .ok (.aload_n 0, 1) := by decide +kernel
theorem d_U_isHeld_22 : decode b_U_isHeld 22 = .ok (.getfield 21, 3) := by decide +kernel
theorem d_U_isHeld_25 : decode b_U_isHeld 25 = .ok (.iload_n 2, 1) := by decide +kernel
theorem d_U_isHeld_26 : decode b_U_isHeld 26 = .ok (.iaload, 1) := by decide +kernel
theorem d_U_isHeld_27 : decode b_U_isHeld 27 = .ok (.iload_n 1, 1) := by decide +kernel
theorem d_U_isHeld_28 : decode b_U_isHeld 28 = .ok (.if_icmp .lt 5, 3) := by decide +kernel
theorem d_U_isHeld_31 : decode b_U_isHeld 31 = .ok (.iconst 1, 1) := by decide +kernel
theorem d_U_isHeld_32 : decode b_U_isHeld 32 = .ok (.ireturn, 1) := by decide +kernel
theorem d_U_isHeld_33 : decode b_U_isHeld 33 = .ok (.iinc 2 1, 3) := by decide +kernel
theorem d_U_isHeld_36 : decode b_U_isHeld 36 = .ok (.goto (-34), 3) := by decide +kernel
theorem d_U_isHeld_39 : decode b_U_isHeld 39 = .ok (.iconst 0, 1) := by decide +kernel
theorem d_U_isHeld_40 : decode b_U_isHeld 40 = .ok (.ireturn, 1) := by decide +kernel
theorem d_U_ruleCount_0 : decode b_U_ruleCount 0 = .ok (.aload_n 0, 1) := by decide +kernel
theorem d_U_ruleCount_1 : decode b_U_ruleCount 1 = .ok (.getfield 40, 3) := by decide +kernel
theorem d_U_ruleCount_4 : decode b_U_ruleCount 4 = .ok (.ireturn, 1) := by decide +kernel
theorem d_U_setCertificate_0 : decode b_U_setCertificate 0 = .ok (.aload_n 0, 1) := by decide +kernel
theorem d_U_setCertificate_1 : decode b_U_setCertificate 1 = .ok (.iload_n 1, 1) := by decide +kernel
theorem d_U_setCertificate_2 : decode b_U_setCertificate 2 = .ok (.putfield 34, 3) := by decide +kernel
theorem d_U_setCertificate_5 : decode b_U_setCertificate 5 = .ok (.return_, 1) := by decide +kernel
theorem d_U_setDisposed_0 : decode b_U_setDisposed 0 = .ok (.aload_n 0, 1) := by decide +kernel
theorem d_U_setDisposed_1 : decode b_U_setDisposed 1 = .ok (.iload_n 1, 1) := by decide +kernel
theorem d_U_setDisposed_2 : decode b_U_setDisposed 2 = .ok (.putfield 31, 3) := by decide +kernel
theorem d_U_setDisposed_5 : decode b_U_setDisposed 5 = .ok (.return_, 1) := by decide +kernel
theorem d_U_setEvent_0 : decode b_U_setEvent 0 = .ok (.iload_n 1, 1) := by decide +kernel
theorem d_U_setEvent_1 : decode b_U_setEvent 1 = .ok (.ifCond .lt 23, 3) := by decide +kernel
theorem d_U_setEvent_4 : decode b_U_setEvent 4 = .ok (.iload_n 1, 1) := by decide +kernel
theorem d_U_setEvent_5 : decode b_U_setEvent 5 = .ok (.aload_n 0, 1) := by decide +kernel
theorem d_U_setEvent_6 : decode b_U_setEvent 6 = .ok (.getfield 9, 3) := by decide +kernel
theorem d_U_setEvent_9 : decode b_U_setEvent 9 = .ok (.arraylength, 1) := by decide +kernel
theorem d_U_setEvent_10 : decode b_U_setEvent 10 = .ok (.if_icmp .ge 14, 3) := by decide +kernel
theorem d_U_setEvent_13 : decode b_U_setEvent 13 = .ok (.aload_n 0, 1) := by decide +kernel
theorem d_U_setEvent_14 : decode b_U_setEvent 14 = .ok (.getfield 9, 3) := by decide +kernel
theorem d_U_setEvent_17 : decode b_U_setEvent 17 = .ok (.iload_n 1, 1) := by decide +kernel
theorem d_U_setEvent_18 : decode b_U_setEvent 18 = .ok (.iload_n 2, 1) := by decide +kernel
theorem d_U_setEvent_19 : decode b_U_setEvent 19 = .ok (.iastore, 1) := by decide +kernel
theorem d_U_setEvent_20 : decode b_U_setEvent 20 = .ok (.aload_n 0, 1) := by decide +kernel
theorem d_U_setEvent_21 : decode b_U_setEvent 21 = .ok (.invokevirtual 37, 3) := by decide +kernel
theorem d_U_setEvent_24 : decode b_U_setEvent 24 = .ok (.return_, 1) := by decide +kernel
theorem d_U_setException_0 : decode b_U_setException 0 = .ok (.aload_n 0, 1) := by decide +kernel
theorem d_U_setException_1 : decode b_U_setException 1 = .ok (.iload_n 1, 1) := by decide +kernel
theorem d_U_setException_2 : decode b_U_setException 2 = .ok (.putfield 24, 3) := by decide +kernel
theorem d_U_setException_5 : decode b_U_setException 5 = .ok (.aload_n 0, 1) := by decide +kernel
theorem d_U_setException_6 : decode b_U_setException 6 = .ok (.invokevirtual 37, 3) := by decide +kernel
theorem d_U_setException_9 : decode b_U_setException 9 = .ok (.return_, 1) := by decide +kernel
theorem d_U_setHold_0 : decode b_U_setHold 0 = .ok (.iload_n 1, 1) := by decide +kernel
theorem d_U_setHold_1 : decode b_U_setHold 1 = .ok (.ifCond .lt 23, 3) := by decide +kernel
theorem d_U_setHold_4 : decode b_U_setHold 4 = .ok (.iload_n 1, 1) := by decide +kernel
theorem d_U_setHold_5 : decode b_U_setHold 5 = .ok (.aload_n 0, 1) := by decide +kernel
theorem d_U_setHold_6 : decode b_U_setHold 6 = .ok (.getfield 21, 3) := by decide +kernel
theorem d_U_setHold_9 : decode b_U_setHold 9 = .ok (.arraylength, 1) := by decide +kernel
theorem d_U_setHold_10 : decode b_U_setHold 10 = .ok (.if_icmp .ge 14, 3) := by decide +kernel
theorem d_U_setHold_13 : decode b_U_setHold 13 = .ok (.aload_n 0, 1) := by decide +kernel
theorem d_U_setHold_14 : decode b_U_setHold 14 = .ok (.getfield 21, 3) := by decide +kernel
theorem d_U_setHold_17 : decode b_U_setHold 17 = .ok (.iload_n 1, 1) := by decide +kernel
theorem d_U_setHold_18 : decode b_U_setHold 18 = .ok (.iload_n 2, 1) := by decide +kernel
theorem d_U_setHold_19 : decode b_U_setHold 19 = .ok (.iastore, 1) := by decide +kernel
theorem d_U_setHold_20 : decode b_U_setHold 20 = .ok (.aload_n 0, 1) := by decide +kernel
theorem d_U_setHold_21 : decode b_U_setHold 21 = .ok (.invokevirtual 37, 3) := by decide +kernel
theorem d_U_setHold_24 : decode b_U_setHold 24 = .ok (.return_, 1) := by decide +kernel
theorem d_U_takeApprovalsAway_0 : decode b_U_takeApprovalsAway 0 = .ok (.aload_n 0, 1) := by decide +kernel
theorem d_U_takeApprovalsAway_1 : decode b_U_takeApprovalsAway 1 = .ok (.iconst 0, 1) := by decide +kernel
theorem d_U_takeApprovalsAway_2 : decode b_U_takeApprovalsAway 2 = .ok (.putfield 71, 3) := by decide +kernel
theorem d_U_takeApprovalsAway_5 : decode b_U_takeApprovalsAway 5 = .ok (.return_, 1) := by decide +kernel
theorem d_W_law_0 : decode b_W_law 0 = .ok (.new 8, 3) := by decide +kernel
theorem d_W_law_3 : decode b_W_law 3 = .ok (.dup, 1) := by decide +kernel
theorem d_W_law_4 : decode b_W_law 4 = .ok (.invokespecial 19, 3) := by decide +kernel
theorem d_W_law_7 : decode b_W_law 7 = .ok (.astore_n 1, 1) := by decide +kernel
theorem d_W_law_8 : decode b_W_law 8 = .ok (.new 20, 3) := by decide +kernel
theorem d_W_law_11 : decode b_W_law 11 = .ok (.dup, 1) := by decide +kernel
theorem d_W_law_12 : decode b_W_law 12 = .ok (.invokespecial 22, 3) := by decide +kernel
theorem d_W_law_15 : decode b_W_law 15 = .ok (.astore_n 2, 1) := by decide +kernel
theorem d_W_law_16 : decode b_W_law 16 = .ok (.iconst 1, 1) := by decide +kernel
theorem d_W_law_17 : decode b_W_law 17 = .ok (.newarray .long, 2) := by decide +kernel
theorem d_W_law_19 : decode b_W_law 19 = .ok (.astore_n 3, 1) := by decide +kernel
theorem d_W_law_20 : decode b_W_law 20 = .ok (.iconst 0, 1) := by decide +kernel
theorem d_W_law_21 : decode b_W_law 21 = .ok (.istore 4, 2) := by decide +kernel
theorem d_W_law_23 : decode b_W_law 23 = .ok (.iload 4, 2) := by decide +kernel
theorem d_W_law_25 : decode b_W_law 25 = .ok (.aload_n 0, 1) := by decide +kernel
theorem d_W_law_26 : decode b_W_law 26 = .ok (.arraylength, 1) := by decide +kernel
theorem d_W_law_27 : decode b_W_law 27 = .ok (.iconst 4, 1) := by decide +kernel
theorem d_W_law_28 : decode b_W_law 28 = .ok (.isub, 1) := by decide +kernel
theorem d_W_law_29 : decode b_W_law 29 = .ok (.if_icmp .gt 749, 3) := by decide +kernel
theorem d_W_law_32 : decode b_W_law 32 = .ok (.aload_n 0, 1) := by decide +kernel
theorem d_W_law_33 : decode b_W_law 33 = .ok (.iload 4, 2) := by decide +kernel
theorem d_W_law_35 : decode b_W_law 35 = .ok (.iaload, 1) := by decide +kernel
theorem d_W_law_36 : decode b_W_law 36 = .ok (.bipush 15, 2) := by decide +kernel
theorem d_W_law_38 : decode b_W_law 38 = .ok (.iand, 1) := by decide +kernel
theorem d_W_law_39 : decode b_W_law 39 = .ok (.tableswitch 733 0 15 #[77, 100, 113, 162, 215, 264, 301, 350, 387, 424, 449, 517, 554, 603, 640, 677], 77) := by decide +kernel
theorem d_W_law_116 : decode b_W_law 116 = .ok (.aload_n 1, 1) := by decide +kernel
theorem d_W_law_117 : decode b_W_law 117 = .ok (.aload_n 0, 1) := by decide +kernel
theorem d_W_law_118 : decode b_W_law 118 = .ok (.iload 4, 2) := by decide +kernel
theorem d_W_law_120 : decode b_W_law 120 = .ok (.iconst 1, 1) := by decide +kernel
theorem d_W_law_121 : decode b_W_law 121 = .ok (.iadd, 1) := by decide +kernel
theorem d_W_law_122 : decode b_W_law 122 = .ok (.iaload, 1) := by decide +kernel
theorem d_W_law_123 : decode b_W_law 123 = .ok (.invokevirtual 23, 3) := by decide +kernel
theorem d_W_law_126 : decode b_W_law 126 = .ok (.aload_n 2, 1) := by decide +kernel
theorem d_W_law_127 : decode b_W_law 127 = .ok (.aload_n 0, 1) := by decide +kernel
theorem d_W_law_128 : decode b_W_law 128 = .ok (.iload 4, 2) := by decide +kernel
theorem d_W_law_130 : decode b_W_law 130 = .ok (.iconst 1, 1) := by decide +kernel
theorem d_W_law_131 : decode b_W_law 131 = .ok (.iadd, 1) := by decide +kernel
theorem d_W_law_132 : decode b_W_law 132 = .ok (.iaload, 1) := by decide +kernel
theorem d_W_law_133 : decode b_W_law 133 = .ok (.invokevirtual 27, 3) := by decide +kernel
theorem d_W_law_136 : decode b_W_law 136 = .ok (.goto 636, 3) := by decide +kernel
theorem d_W_law_139 : decode b_W_law 139 = .ok (.aload_n 1, 1) := by decide +kernel
theorem d_W_law_140 : decode b_W_law 140 = .ok (.invokevirtual 28, 3) := by decide +kernel
theorem d_W_law_143 : decode b_W_law 143 = .ok (.aload_n 2, 1) := by decide +kernel
theorem d_W_law_144 : decode b_W_law 144 = .ok (.invokevirtual 32, 3) := by decide +kernel
theorem d_W_law_147 : decode b_W_law 147 = .ok (.if_icmp .eq 625, 3) := by decide +kernel
theorem d_W_law_150 : decode b_W_law 150 = .ok (.iconst 0, 1) := by decide +kernel
theorem d_W_law_151 : decode b_W_law 151 = .ok (.ireturn, 1) := by decide +kernel
theorem d_W_law_152 : decode b_W_law 152 = .ok (.aload_n 1, 1) := by decide +kernel
theorem d_W_law_153 : decode b_W_law 153 = .ok (.aload_n 0, 1) := by decide +kernel
theorem d_W_law_154 : decode b_W_law 154 = .ok (.iload 4, 2) := by decide +kernel
theorem d_W_law_156 : decode b_W_law 156 = .ok (.iconst 1, 1) := by decide +kernel
theorem d_W_law_157 : decode b_W_law 157 = .ok (.iadd, 1) := by decide +kernel
theorem d_W_law_158 : decode b_W_law 158 = .ok (.iaload, 1) := by decide +kernel
theorem d_W_law_159 : decode b_W_law 159 = .ok (.aload_n 0, 1) := by decide +kernel
theorem d_W_law_160 : decode b_W_law 160 = .ok (.iload 4, 2) := by decide +kernel
theorem d_W_law_162 : decode b_W_law 162 = .ok (.iconst 2, 1) := by decide +kernel
theorem d_W_law_163 : decode b_W_law 163 = .ok (.iadd, 1) := by decide +kernel
theorem d_W_law_164 : decode b_W_law 164 = .ok (.iaload, 1) := by decide +kernel
theorem d_W_law_165 : decode b_W_law 165 = .ok (.aload_n 0, 1) := by decide +kernel
theorem d_W_law_166 : decode b_W_law 166 = .ok (.iload 4, 2) := by decide +kernel
theorem d_W_law_168 : decode b_W_law 168 = .ok (.iconst 3, 1) := by decide +kernel
theorem d_W_law_169 : decode b_W_law 169 = .ok (.iadd, 1) := by decide +kernel
theorem d_W_law_170 : decode b_W_law 170 = .ok (.iaload, 1) := by decide +kernel
theorem d_W_law_171 : decode b_W_law 171 = .ok (.invokevirtual 33, 3) := by decide +kernel
theorem d_W_law_174 : decode b_W_law 174 = .ok (.aload_n 2, 1) := by decide +kernel
theorem d_W_law_175 : decode b_W_law 175 = .ok (.aload_n 0, 1) := by decide +kernel
theorem d_W_law_176 : decode b_W_law 176 = .ok (.iload 4, 2) := by decide +kernel
theorem d_W_law_178 : decode b_W_law 178 = .ok (.iconst 1, 1) := by decide +kernel
theorem d_W_law_179 : decode b_W_law 179 = .ok (.iadd, 1) := by decide +kernel
theorem d_W_law_180 : decode b_W_law 180 = .ok (.iaload, 1) := by decide +kernel
theorem d_W_law_181 : decode b_W_law 181 = .ok (.aload_n 0, 1) := by decide +kernel
theorem d_W_law_182 : decode b_W_law 182 = .ok (.iload 4, 2) := by decide +kernel
theorem d_W_law_184 : decode b_W_law 184 = .ok (.iconst 2, 1) := by decide +kernel
theorem d_W_law_185 : decode b_W_law 185 = .ok (.iadd, 1) := by decide +kernel
theorem d_W_law_186 : decode b_W_law 186 = .ok (.iaload, 1) := by decide +kernel
theorem d_W_law_187 : decode b_W_law 187 = .ok (.aload_n 0, 1) := by decide +kernel
theorem d_W_law_188 : decode b_W_law 188 = .ok (.iload 4, 2) := by decide +kernel
theorem d_W_law_190 : decode b_W_law 190 = .ok (.iconst 3, 1) := by decide +kernel
theorem d_W_law_191 : decode b_W_law 191 = .ok (.iadd, 1) := by decide +kernel
theorem d_W_law_192 : decode b_W_law 192 = .ok (.iaload, 1) := by decide +kernel
theorem d_W_law_193 : decode b_W_law 193 = .ok (.invokevirtual 37, 3) := by decide +kernel
theorem d_W_law_196 : decode b_W_law 196 = .ok (.if_icmp .eq 576, 3) := by decide +kernel
theorem d_W_law_199 : decode b_W_law 199 = .ok (.iconst 0, 1) := by decide +kernel
theorem d_W_law_200 : decode b_W_law 200 = .ok (.ireturn, 1) := by decide +kernel
theorem d_W_law_201 : decode b_W_law 201 = .ok (.aload_n 1, 1) := by decide +kernel
theorem d_W_law_202 : decode b_W_law 202 = .ok (.aload_n 0, 1) := by decide +kernel
theorem d_W_law_203 : decode b_W_law 203 = .ok (.iload 4, 2) := by decide +kernel
theorem d_W_law_205 : decode b_W_law 205 = .ok (.iconst 1, 1) := by decide +kernel
theorem d_W_law_206 : decode b_W_law 206 = .ok (.iadd, 1) := by decide +kernel
theorem d_W_law_207 : decode b_W_law 207 = .ok (.iaload, 1) := by decide +kernel
theorem d_W_law_208 : decode b_W_law 208 = .ok (.aload_n 0, 1) := by decide +kernel
theorem d_W_law_209 : decode b_W_law 209 = .ok (.iload 4, 2) := by decide +kernel
theorem d_W_law_211 : decode b_W_law 211 = .ok (.iconst 2, 1) := by decide +kernel
theorem d_W_law_212 : decode b_W_law 212 = .ok (.iadd, 1) := by decide +kernel
theorem d_W_law_213 : decode b_W_law 213 = .ok (.iaload, 1) := by decide +kernel
theorem d_W_law_214 : decode b_W_law 214 = .ok (.ifCond .eq 7, 3) := by decide +kernel
theorem d_W_law_217 : decode b_W_law 217 = .ok (.iconst 1, 1) := by decide +kernel
theorem d_W_law_218 : decode b_W_law 218 = .ok (.goto 4, 3) := by decide +kernel
theorem d_W_law_221 : decode b_W_law 221 = .ok (.iconst 0, 1) := by decide +kernel
theorem d_W_law_222 : decode b_W_law 222 = .ok (.invokevirtual 38, 3) := by decide +kernel
theorem d_W_law_225 : decode b_W_law 225 = .ok (.aload_n 2, 1) := by decide +kernel
theorem d_W_law_226 : decode b_W_law 226 = .ok (.aload_n 0, 1) := by decide +kernel
theorem d_W_law_227 : decode b_W_law 227 = .ok (.iload 4, 2) := by decide +kernel
theorem d_W_law_229 : decode b_W_law 229 = .ok (.iconst 1, 1) := by decide +kernel
theorem d_W_law_230 : decode b_W_law 230 = .ok (.iadd, 1) := by decide +kernel
theorem d_W_law_231 : decode b_W_law 231 = .ok (.iaload, 1) := by decide +kernel
theorem d_W_law_232 : decode b_W_law 232 = .ok (.aload_n 0, 1) := by decide +kernel
theorem d_W_law_233 : decode b_W_law 233 = .ok (.iload 4, 2) := by decide +kernel
theorem d_W_law_235 : decode b_W_law 235 = .ok (.iconst 2, 1) := by decide +kernel
theorem d_W_law_236 : decode b_W_law 236 = .ok (.iadd, 1) := by decide +kernel
theorem d_W_law_237 : decode b_W_law 237 = .ok (.iaload, 1) := by decide +kernel
theorem d_W_law_238 : decode b_W_law 238 = .ok (.ifCond .eq 7, 3) := by decide +kernel
theorem d_W_law_241 : decode b_W_law 241 = .ok (.iconst 1, 1) := by decide +kernel
theorem d_W_law_242 : decode b_W_law 242 = .ok (.goto 4, 3) := by decide +kernel
theorem d_W_law_245 : decode b_W_law 245 = .ok (.iconst 0, 1) := by decide +kernel
theorem d_W_law_246 : decode b_W_law 246 = .ok (.invokevirtual 42, 3) := by decide +kernel
theorem d_W_law_249 : decode b_W_law 249 = .ok (.if_icmp .eq 523, 3) := by decide +kernel
theorem d_W_law_252 : decode b_W_law 252 = .ok (.iconst 0, 1) := by decide +kernel
theorem d_W_law_253 : decode b_W_law 253 = .ok (.ireturn, 1) := by decide +kernel
theorem d_W_law_254 : decode b_W_law 254 = .ok (.aload_n 1, 1) := by decide +kernel
theorem d_W_law_255 : decode b_W_law 255 = .ok (.aload_n 0, 1) := by decide +kernel
theorem d_W_law_256 : decode b_W_law 256 = .ok (.iload 4, 2) := by decide +kernel
theorem d_W_law_258 : decode b_W_law 258 = .ok (.iconst 1, 1) := by decide +kernel
theorem d_W_law_259 : decode b_W_law 259 = .ok (.iadd, 1) := by decide +kernel
theorem d_W_law_260 : decode b_W_law 260 = .ok (.iaload, 1) := by decide +kernel
theorem d_W_law_261 : decode b_W_law 261 = .ok (.aload_n 0, 1) := by decide +kernel
theorem d_W_law_262 : decode b_W_law 262 = .ok (.iload 4, 2) := by decide +kernel
theorem d_W_law_264 : decode b_W_law 264 = .ok (.iconst 2, 1) := by decide +kernel
theorem d_W_law_265 : decode b_W_law 265 = .ok (.iadd, 1) := by decide +kernel
theorem d_W_law_266 : decode b_W_law 266 = .ok (.iaload, 1) := by decide +kernel
theorem d_W_law_267 : decode b_W_law 267 = .ok (.aload_n 0, 1) := by decide +kernel
theorem d_W_law_268 : decode b_W_law 268 = .ok (.iload 4, 2) := by decide +kernel
theorem d_W_law_270 : decode b_W_law 270 = .ok (.iconst 3, 1) := by decide +kernel
theorem d_W_law_271 : decode b_W_law 271 = .ok (.iadd, 1) := by decide +kernel
theorem d_W_law_272 : decode b_W_law 272 = .ok (.iaload, 1) := by decide +kernel
theorem d_W_law_273 : decode b_W_law 273 = .ok (.invokevirtual 43, 3) := by decide +kernel
theorem d_W_law_276 : decode b_W_law 276 = .ok (.aload_n 2, 1) := by decide +kernel
theorem d_W_law_277 : decode b_W_law 277 = .ok (.aload_n 0, 1) := by decide +kernel
theorem d_W_law_278 : decode b_W_law 278 = .ok (.iload 4, 2) := by decide +kernel
theorem d_W_law_280 : decode b_W_law 280 = .ok (.iconst 1, 1) := by decide +kernel
theorem d_W_law_281 : decode b_W_law 281 = .ok (.iadd, 1) := by decide +kernel
theorem d_W_law_282 : decode b_W_law 282 = .ok (.iaload, 1) := by decide +kernel
theorem d_W_law_283 : decode b_W_law 283 = .ok (.aload_n 0, 1) := by decide +kernel
theorem d_W_law_284 : decode b_W_law 284 = .ok (.iload 4, 2) := by decide +kernel
theorem d_W_law_286 : decode b_W_law 286 = .ok (.iconst 2, 1) := by decide +kernel
theorem d_W_law_287 : decode b_W_law 287 = .ok (.iadd, 1) := by decide +kernel
theorem d_W_law_288 : decode b_W_law 288 = .ok (.iaload, 1) := by decide +kernel
theorem d_W_law_289 : decode b_W_law 289 = .ok (.aload_n 0, 1) := by decide +kernel
theorem d_W_law_290 : decode b_W_law 290 = .ok (.iload 4, 2) := by decide +kernel
theorem d_W_law_292 : decode b_W_law 292 = .ok (.iconst 3, 1) := by decide +kernel
theorem d_W_law_293 : decode b_W_law 293 = .ok (.iadd, 1) := by decide +kernel
theorem d_W_law_294 : decode b_W_law 294 = .ok (.iaload, 1) := by decide +kernel
theorem d_W_law_295 : decode b_W_law 295 = .ok (.invokevirtual 46, 3) := by decide +kernel
theorem d_W_law_298 : decode b_W_law 298 = .ok (.if_icmp .eq 474, 3) := by decide +kernel
theorem d_W_law_301 : decode b_W_law 301 = .ok (.iconst 0, 1) := by decide +kernel
theorem d_W_law_302 : decode b_W_law 302 = .ok (.ireturn, 1) := by decide +kernel
theorem d_W_law_303 : decode b_W_law 303 = .ok (.aload_n 1, 1) := by decide +kernel
theorem d_W_law_304 : decode b_W_law 304 = .ok (.aload_n 0, 1) := by decide +kernel
theorem d_W_law_305 : decode b_W_law 305 = .ok (.iload 4, 2) := by decide +kernel
theorem d_W_law_307 : decode b_W_law 307 = .ok (.iconst 1, 1) := by decide +kernel
theorem d_W_law_308 : decode b_W_law 308 = .ok (.iadd, 1) := by decide +kernel
theorem d_W_law_309 : decode b_W_law 309 = .ok (.iaload, 1) := by decide +kernel
theorem d_W_law_310 : decode b_W_law 310 = .ok (.aload_n 0, 1) := by decide +kernel
theorem d_W_law_311 : decode b_W_law 311 = .ok (.iload 4, 2) := by decide +kernel
theorem d_W_law_313 : decode b_W_law 313 = .ok (.iconst 2, 1) := by decide +kernel
theorem d_W_law_314 : decode b_W_law 314 = .ok (.iadd, 1) := by decide +kernel
theorem d_W_law_315 : decode b_W_law 315 = .ok (.iaload, 1) := by decide +kernel
theorem d_W_law_316 : decode b_W_law 316 = .ok (.invokevirtual 47, 3) := by decide +kernel
theorem d_W_law_319 : decode b_W_law 319 = .ok (.aload_n 2, 1) := by decide +kernel
theorem d_W_law_320 : decode b_W_law 320 = .ok (.aload_n 0, 1) := by decide +kernel
theorem d_W_law_321 : decode b_W_law 321 = .ok (.iload 4, 2) := by decide +kernel
theorem d_W_law_323 : decode b_W_law 323 = .ok (.iconst 1, 1) := by decide +kernel
theorem d_W_law_324 : decode b_W_law 324 = .ok (.iadd, 1) := by decide +kernel
theorem d_W_law_325 : decode b_W_law 325 = .ok (.iaload, 1) := by decide +kernel
theorem d_W_law_326 : decode b_W_law 326 = .ok (.aload_n 0, 1) := by decide +kernel
theorem d_W_law_327 : decode b_W_law 327 = .ok (.iload 4, 2) := by decide +kernel
theorem d_W_law_329 : decode b_W_law 329 = .ok (.iconst 2, 1) := by decide +kernel
theorem d_W_law_330 : decode b_W_law 330 = .ok (.iadd, 1) := by decide +kernel
theorem d_W_law_331 : decode b_W_law 331 = .ok (.iaload, 1) := by decide +kernel
theorem d_W_law_332 : decode b_W_law 332 = .ok (.invokevirtual 50, 3) := by decide +kernel
theorem d_W_law_335 : decode b_W_law 335 = .ok (.if_icmp .eq 437, 3) := by decide +kernel
theorem d_W_law_338 : decode b_W_law 338 = .ok (.iconst 0, 1) := by decide +kernel
theorem d_W_law_339 : decode b_W_law 339 = .ok (.ireturn, 1) := by decide +kernel
theorem d_W_law_340 : decode b_W_law 340 = .ok (.aload_n 1, 1) := by decide +kernel
theorem d_W_law_341 : decode b_W_law 341 = .ok (.aload_n 0, 1) := by decide +kernel
theorem d_W_law_342 : decode b_W_law 342 = .ok (.iload 4, 2) := by decide +kernel
theorem d_W_law_344 : decode b_W_law 344 = .ok (.iconst 1, 1) := by decide +kernel
theorem d_W_law_345 : decode b_W_law 345 = .ok (.iadd, 1) := by decide +kernel
theorem d_W_law_346 : decode b_W_law 346 = .ok (.iaload, 1) := by decide +kernel
theorem d_W_law_347 : decode b_W_law 347 = .ok (.aload_n 0, 1) := by decide +kernel
theorem d_W_law_348 : decode b_W_law 348 = .ok (.iload 4, 2) := by decide +kernel
theorem d_W_law_350 : decode b_W_law 350 = .ok (.iconst 2, 1) := by decide +kernel
theorem d_W_law_351 : decode b_W_law 351 = .ok (.iadd, 1) := by decide +kernel
theorem d_W_law_352 : decode b_W_law 352 = .ok (.iaload, 1) := by decide +kernel
theorem d_W_law_353 : decode b_W_law 353 = .ok (.aload_n 0, 1) := by decide +kernel
theorem d_W_law_354 : decode b_W_law 354 = .ok (.iload 4, 2) := by decide +kernel
theorem d_W_law_356 : decode b_W_law 356 = .ok (.iconst 3, 1) := by decide +kernel
theorem d_W_law_357 : decode b_W_law 357 = .ok (.iadd, 1) := by decide +kernel
theorem d_W_law_358 : decode b_W_law 358 = .ok (.iaload, 1) := by decide +kernel
theorem d_W_law_359 : decode b_W_law 359 = .ok (.invokevirtual 51, 3) := by decide +kernel
theorem d_W_law_362 : decode b_W_law 362 = .ok (.aload_n 2, 1) := by decide +kernel
theorem d_W_law_363 : decode b_W_law 363 = .ok (.aload_n 0, 1) := by decide +kernel
theorem d_W_law_364 : decode b_W_law 364 = .ok (.iload 4, 2) := by decide +kernel
theorem d_W_law_366 : decode b_W_law 366 = .ok (.iconst 1, 1) := by decide +kernel
theorem d_W_law_367 : decode b_W_law 367 = .ok (.iadd, 1) := by decide +kernel
theorem d_W_law_368 : decode b_W_law 368 = .ok (.iaload, 1) := by decide +kernel
theorem d_W_law_369 : decode b_W_law 369 = .ok (.aload_n 0, 1) := by decide +kernel
theorem d_W_law_370 : decode b_W_law 370 = .ok (.iload 4, 2) := by decide +kernel
theorem d_W_law_372 : decode b_W_law 372 = .ok (.iconst 2, 1) := by decide +kernel
theorem d_W_law_373 : decode b_W_law 373 = .ok (.iadd, 1) := by decide +kernel
theorem d_W_law_374 : decode b_W_law 374 = .ok (.iaload, 1) := by decide +kernel
theorem d_W_law_375 : decode b_W_law 375 = .ok (.aload_n 0, 1) := by decide +kernel
theorem d_W_law_376 : decode b_W_law 376 = .ok (.iload 4, 2) := by decide +kernel
theorem d_W_law_378 : decode b_W_law 378 = .ok (.iconst 3, 1) := by decide +kernel
theorem d_W_law_379 : decode b_W_law 379 = .ok (.iadd, 1) := by decide +kernel
theorem d_W_law_380 : decode b_W_law 380 = .ok (.iaload, 1) := by decide +kernel
theorem d_W_law_381 : decode b_W_law 381 = .ok (.invokevirtual 54, 3) := by decide +kernel
theorem d_W_law_384 : decode b_W_law 384 = .ok (.if_icmp .eq 388, 3) := by decide +kernel
theorem d_W_law_387 : decode b_W_law 387 = .ok (.iconst 0, 1) := by decide +kernel
theorem d_W_law_388 : decode b_W_law 388 = .ok (.ireturn, 1) := by decide +kernel
theorem d_W_law_389 : decode b_W_law 389 = .ok (.aload_n 1, 1) := by decide +kernel
theorem d_W_law_390 : decode b_W_law 390 = .ok (.aload_n 0, 1) := by decide +kernel
theorem d_W_law_391 : decode b_W_law 391 = .ok (.iload 4, 2) := by decide +kernel
theorem d_W_law_393 : decode b_W_law 393 = .ok (.iconst 1, 1) := by decide +kernel
theorem d_W_law_394 : decode b_W_law 394 = .ok (.iadd, 1) := by decide +kernel
theorem d_W_law_395 : decode b_W_law 395 = .ok (.iaload, 1) := by decide +kernel
theorem d_W_law_396 : decode b_W_law 396 = .ok (.aload_n 0, 1) := by decide +kernel
theorem d_W_law_397 : decode b_W_law 397 = .ok (.iload 4, 2) := by decide +kernel
theorem d_W_law_399 : decode b_W_law 399 = .ok (.iconst 2, 1) := by decide +kernel
theorem d_W_law_400 : decode b_W_law 400 = .ok (.iadd, 1) := by decide +kernel
theorem d_W_law_401 : decode b_W_law 401 = .ok (.iaload, 1) := by decide +kernel
theorem d_W_law_402 : decode b_W_law 402 = .ok (.invokevirtual 55, 3) := by decide +kernel
theorem d_W_law_405 : decode b_W_law 405 = .ok (.aload_n 2, 1) := by decide +kernel
theorem d_W_law_406 : decode b_W_law 406 = .ok (.aload_n 0, 1) := by decide +kernel
theorem d_W_law_407 : decode b_W_law 407 = .ok (.iload 4, 2) := by decide +kernel
theorem d_W_law_409 : decode b_W_law 409 = .ok (.iconst 1, 1) := by decide +kernel
theorem d_W_law_410 : decode b_W_law 410 = .ok (.iadd, 1) := by decide +kernel
theorem d_W_law_411 : decode b_W_law 411 = .ok (.iaload, 1) := by decide +kernel
theorem d_W_law_412 : decode b_W_law 412 = .ok (.aload_n 0, 1) := by decide +kernel
theorem d_W_law_413 : decode b_W_law 413 = .ok (.iload 4, 2) := by decide +kernel
theorem d_W_law_415 : decode b_W_law 415 = .ok (.iconst 2, 1) := by decide +kernel
theorem d_W_law_416 : decode b_W_law 416 = .ok (.iadd, 1) := by decide +kernel
theorem d_W_law_417 : decode b_W_law 417 = .ok (.iaload, 1) := by decide +kernel
theorem d_W_law_418 : decode b_W_law 418 = .ok (.invokevirtual 58, 3) := by decide +kernel
theorem d_W_law_421 : decode b_W_law 421 = .ok (.if_icmp .eq 351, 3) := by decide +kernel
theorem d_W_law_424 : decode b_W_law 424 = .ok (.iconst 0, 1) := by decide +kernel
theorem d_W_law_425 : decode b_W_law 425 = .ok (.ireturn, 1) := by decide +kernel
theorem d_W_law_426 : decode b_W_law 426 = .ok (.aload_n 1, 1) := by decide +kernel
theorem d_W_law_427 : decode b_W_law 427 = .ok (.aload_n 0, 1) := by decide +kernel
theorem d_W_law_428 : decode b_W_law 428 = .ok (.iload 4, 2) := by decide +kernel
theorem d_W_law_430 : decode b_W_law 430 = .ok (.iconst 1, 1) := by decide +kernel
theorem d_W_law_431 : decode b_W_law 431 = .ok (.iadd, 1) := by decide +kernel
theorem d_W_law_432 : decode b_W_law 432 = .ok (.iaload, 1) := by decide +kernel
theorem d_W_law_433 : decode b_W_law 433 = .ok (.aload_n 0, 1) := by decide +kernel
theorem d_W_law_434 : decode b_W_law 434 = .ok (.iload 4, 2) := by decide +kernel
theorem d_W_law_436 : decode b_W_law 436 = .ok (.iconst 2, 1) := by decide +kernel
theorem d_W_law_437 : decode b_W_law 437 = .ok (.iadd, 1) := by decide +kernel
theorem d_W_law_438 : decode b_W_law 438 = .ok (.iaload, 1) := by decide +kernel
theorem d_W_law_439 : decode b_W_law 439 = .ok (.invokevirtual 59, 3) := by decide +kernel
theorem d_W_law_442 : decode b_W_law 442 = .ok (.aload_n 2, 1) := by decide +kernel
theorem d_W_law_443 : decode b_W_law 443 = .ok (.aload_n 0, 1) := by decide +kernel
theorem d_W_law_444 : decode b_W_law 444 = .ok (.iload 4, 2) := by decide +kernel
theorem d_W_law_446 : decode b_W_law 446 = .ok (.iconst 1, 1) := by decide +kernel
theorem d_W_law_447 : decode b_W_law 447 = .ok (.iadd, 1) := by decide +kernel
theorem d_W_law_448 : decode b_W_law 448 = .ok (.iaload, 1) := by decide +kernel
theorem d_W_law_449 : decode b_W_law 449 = .ok (.aload_n 0, 1) := by decide +kernel
theorem d_W_law_450 : decode b_W_law 450 = .ok (.iload 4, 2) := by decide +kernel
theorem d_W_law_452 : decode b_W_law 452 = .ok (.iconst 2, 1) := by decide +kernel
theorem d_W_law_453 : decode b_W_law 453 = .ok (.iadd, 1) := by decide +kernel
theorem d_W_law_454 : decode b_W_law 454 = .ok (.iaload, 1) := by decide +kernel
theorem d_W_law_455 : decode b_W_law 455 = .ok (.invokevirtual 62, 3) := by decide +kernel
theorem d_W_law_458 : decode b_W_law 458 = .ok (.if_icmp .eq 314, 3) := by decide +kernel
theorem d_W_law_461 : decode b_W_law 461 = .ok (.iconst 0, 1) := by decide +kernel
theorem d_W_law_462 : decode b_W_law 462 = .ok (.ireturn, 1) := by decide +kernel
theorem d_W_law_463 : decode b_W_law 463 = .ok (.aload_n 1, 1) := by decide +kernel
theorem d_W_law_464 : decode b_W_law 464 = .ok (.aload_n 0, 1) := by decide +kernel
theorem d_W_law_465 : decode b_W_law 465 = .ok (.iload 4, 2) := by decide +kernel
theorem d_W_law_467 : decode b_W_law 467 = .ok (.iconst 1, 1) := by decide +kernel
theorem d_W_law_468 : decode b_W_law 468 = .ok (.iadd, 1) := by decide +kernel
theorem d_W_law_469 : decode b_W_law 469 = .ok (.iaload, 1) := by decide +kernel
theorem d_W_law_470 : decode b_W_law 470 = .ok (.invokevirtual 63, 3) := by decide +kernel
theorem d_W_law_473 : decode b_W_law 473 = .ok (.aload_n 2, 1) := by decide +kernel
theorem d_W_law_474 : decode b_W_law 474 = .ok (.aload_n 0, 1) := by decide +kernel
theorem d_W_law_475 : decode b_W_law 475 = .ok (.iload 4, 2) := by decide +kernel
theorem d_W_law_477 : decode b_W_law 477 = .ok (.iconst 1, 1) := by decide +kernel
theorem d_W_law_478 : decode b_W_law 478 = .ok (.iadd, 1) := by decide +kernel
theorem d_W_law_479 : decode b_W_law 479 = .ok (.iaload, 1) := by decide +kernel
theorem d_W_law_480 : decode b_W_law 480 = .ok (.invokevirtual 66, 3) := by decide +kernel
theorem d_W_law_483 : decode b_W_law 483 = .ok (.if_icmp .eq 289, 3) := by decide +kernel
theorem d_W_law_486 : decode b_W_law 486 = .ok (.iconst 0, 1) := by decide +kernel
theorem d_W_law_487 : decode b_W_law 487 = .ok (.ireturn, 1) := by decide +kernel
theorem d_W_law_488 : decode b_W_law 488 = .ok (.aload_n 1, 1) := by decide +kernel
theorem d_W_law_489 : decode b_W_law 489 = .ok (.aload_n 0, 1) := by decide +kernel
theorem d_W_law_490 : decode b_W_law 490 = .ok (.iload 4, 2) := by decide +kernel
theorem d_W_law_492 : decode b_W_law 492 = .ok (.iconst 1, 1) := by decide +kernel
theorem d_W_law_493 : decode b_W_law 493 = .ok (.iadd, 1) := by decide +kernel
theorem d_W_law_494 : decode b_W_law 494 = .ok (.iaload, 1) := by decide +kernel
theorem d_W_law_495 : decode b_W_law 495 = .ok (.aload_n 0, 1) := by decide +kernel
theorem d_W_law_496 : decode b_W_law 496 = .ok (.iload 4, 2) := by decide +kernel
theorem d_W_law_498 : decode b_W_law 498 = .ok (.iconst 2, 1) := by decide +kernel
theorem d_W_law_499 : decode b_W_law 499 = .ok (.iadd, 1) := by decide +kernel
theorem d_W_law_500 : decode b_W_law 500 = .ok (.iaload, 1) := by decide +kernel
theorem d_W_law_501 : decode b_W_law 501 = .ok (.aload_n 3, 1) := by decide +kernel
theorem d_W_law_502 : decode b_W_law 502 = .ok (.invokestatic 67, 3) := by decide +kernel
theorem d_W_law_505 : decode b_W_law 505 = .ok (.istore 5, 2) := by decide +kernel
theorem d_W_law_507 : decode b_W_law 507 = .ok (.aload_n 2, 1) := by decide +kernel
theorem d_W_law_508 : decode b_W_law 508 = .ok (.aload_n 0, 1) := by decide +kernel
theorem d_W_law_509 : decode b_W_law 509 = .ok (.iload 4, 2) := by decide +kernel
theorem d_W_law_511 : decode b_W_law 511 = .ok (.iconst 1, 1) := by decide +kernel
theorem d_W_law_512 : decode b_W_law 512 = .ok (.iadd, 1) := by decide +kernel
theorem d_W_law_513 : decode b_W_law 513 = .ok (.iaload, 1) := by decide +kernel
theorem d_W_law_514 : decode b_W_law 514 = .ok (.aload_n 0, 1) := by decide +kernel
theorem d_W_law_515 : decode b_W_law 515 = .ok (.iload 4, 2) := by decide +kernel
theorem d_W_law_517 : decode b_W_law 517 = .ok (.iconst 2, 1) := by decide +kernel
theorem d_W_law_518 : decode b_W_law 518 = .ok (.iadd, 1) := by decide +kernel
theorem d_W_law_519 : decode b_W_law 519 = .ok (.iaload, 1) := by decide +kernel
theorem d_W_law_520 : decode b_W_law 520 = .ok (.invokevirtual 72, 3) := by decide +kernel
theorem d_W_law_523 : decode b_W_law 523 = .ok (.istore 6, 2) := by decide +kernel
theorem d_W_law_525 : decode b_W_law 525 = .ok (.aload_n 2, 1) := by decide +kernel
theorem d_W_law_526 : decode b_W_law 526 = .ok (.invokevirtual 73, 3) := by decide +kernel
theorem d_W_law_529 : decode b_W_law 529 = .ok (.iload 5, 2) := by decide +kernel
theorem d_W_law_531 : decode b_W_law 531 = .ok (.if_icmp .eq 5, 3) := by decide +kernel
theorem d_W_law_534 : decode b_W_law 534 = .ok (.iconst 0, 1) := by decide +kernel
theorem d_W_law_535 : decode b_W_law 535 = .ok (.ireturn, 1) := by decide +kernel
theorem d_W_law_536 : decode b_W_law 536 = .ok (.iload 5, 2) := by decide +kernel
theorem d_W_law_538 : decode b_W_law 538 = .ok (.ifCond .ne 15, 3) := by decide +kernel
theorem d_W_law_541 : decode b_W_law 541 = .ok (.aload_n 3, 1) := by decide +kernel
theorem d_W_law_542 : decode b_W_law 542 = .ok (.iconst 0, 1) := by decide +kernel
theorem d_W_law_543 : decode b_W_law 543 = .ok (.laload, 1) := by decide +kernel
theorem d_W_law_544 : decode b_W_law 544 = .ok (.iload 6, 2) := by decide +kernel
theorem d_W_law_546 : decode b_W_law 546 = .ok (.i2l, 1) := by decide +kernel
theorem d_W_law_547 : decode b_W_law 547 = .ok (.lcmp, 1) := by decide +kernel
theorem d_W_law_548 : decode b_W_law 548 = .ok (.ifCond .eq 5, 3) := by decide +kernel
theorem d_W_law_551 : decode b_W_law 551 = .ok (.iconst 0, 1) := by decide +kernel
theorem d_W_law_552 : decode b_W_law 552 = .ok (.ireturn, 1) := by decide +kernel
theorem d_W_law_553 : decode b_W_law 553 = .ok (.goto 219, 3) := by decide +kernel
theorem d_W_law_556 : decode b_W_law 556 = .ok (.aload_n 1, 1) := by decide +kernel
theorem d_W_law_557 : decode b_W_law 557 = .ok (.aload_n 0, 1) := by decide +kernel
theorem d_W_law_558 : decode b_W_law 558 = .ok (.iload 4, 2) := by decide +kernel
theorem d_W_law_560 : decode b_W_law 560 = .ok (.iconst 1, 1) := by decide +kernel
theorem d_W_law_561 : decode b_W_law 561 = .ok (.iadd, 1) := by decide +kernel
theorem d_W_law_562 : decode b_W_law 562 = .ok (.iaload, 1) := by decide +kernel
theorem d_W_law_563 : decode b_W_law 563 = .ok (.aload_n 0, 1) := by decide +kernel
theorem d_W_law_564 : decode b_W_law 564 = .ok (.iload 4, 2) := by decide +kernel
theorem d_W_law_566 : decode b_W_law 566 = .ok (.iconst 2, 1) := by decide +kernel
theorem d_W_law_567 : decode b_W_law 567 = .ok (.iadd, 1) := by decide +kernel
theorem d_W_law_568 : decode b_W_law 568 = .ok (.iaload, 1) := by decide +kernel
theorem d_W_law_569 : decode b_W_law 569 = .ok (.invokevirtual 76, 3) := by decide +kernel
theorem d_W_law_572 : decode b_W_law 572 = .ok (.aload_n 2, 1) := by decide +kernel
theorem d_W_law_573 : decode b_W_law 573 = .ok (.aload_n 0, 1) := by decide +kernel
theorem d_W_law_574 : decode b_W_law 574 = .ok (.iload 4, 2) := by decide +kernel
theorem d_W_law_576 : decode b_W_law 576 = .ok (.iconst 1, 1) := by decide +kernel
theorem d_W_law_577 : decode b_W_law 577 = .ok (.iadd, 1) := by decide +kernel
theorem d_W_law_578 : decode b_W_law 578 = .ok (.iaload, 1) := by decide +kernel
theorem d_W_law_579 : decode b_W_law 579 = .ok (.aload_n 0, 1) := by decide +kernel
theorem d_W_law_580 : decode b_W_law 580 = .ok (.iload 4, 2) := by decide +kernel
theorem d_W_law_582 : decode b_W_law 582 = .ok (.iconst 2, 1) := by decide +kernel
theorem d_W_law_583 : decode b_W_law 583 = .ok (.iadd, 1) := by decide +kernel
theorem d_W_law_584 : decode b_W_law 584 = .ok (.iaload, 1) := by decide +kernel
theorem d_W_law_585 : decode b_W_law 585 = .ok (.invokevirtual 79, 3) := by decide +kernel
theorem d_W_law_588 : decode b_W_law 588 = .ok (.if_icmp .eq 184, 3) := by decide +kernel
theorem d_W_law_591 : decode b_W_law 591 = .ok (.iconst 0, 1) := by decide +kernel
theorem d_W_law_592 : decode b_W_law 592 = .ok (.ireturn, 1) := by decide +kernel
theorem d_W_law_593 : decode b_W_law 593 = .ok (.aload_n 1, 1) := by decide +kernel
theorem d_W_law_594 : decode b_W_law 594 = .ok (.aload_n 0, 1) := by decide +kernel
theorem d_W_law_595 : decode b_W_law 595 = .ok (.iload 4, 2) := by decide +kernel
theorem d_W_law_597 : decode b_W_law 597 = .ok (.iconst 1, 1) := by decide +kernel
theorem d_W_law_598 : decode b_W_law 598 = .ok (.iadd, 1) := by decide +kernel
theorem d_W_law_599 : decode b_W_law 599 = .ok (.iaload, 1) := by decide +kernel
theorem d_W_law_600 : decode b_W_law 600 = .ok (.aload_n 0, 1) := by decide +kernel
theorem d_W_law_601 : decode b_W_law 601 = .ok (.iload 4, 2) := by decide +kernel
theorem d_W_law_603 : decode b_W_law 603 = .ok (.iconst 2, 1) := by decide +kernel
theorem d_W_law_604 : decode b_W_law 604 = .ok (.iadd, 1) := by decide +kernel
theorem d_W_law_605 : decode b_W_law 605 = .ok (.iaload, 1) := by decide +kernel
theorem d_W_law_606 : decode b_W_law 606 = .ok (.aload_n 0, 1) := by decide +kernel
theorem d_W_law_607 : decode b_W_law 607 = .ok (.iload 4, 2) := by decide +kernel
theorem d_W_law_609 : decode b_W_law 609 = .ok (.iconst 3, 1) := by decide +kernel
theorem d_W_law_610 : decode b_W_law 610 = .ok (.iadd, 1) := by decide +kernel
theorem d_W_law_611 : decode b_W_law 611 = .ok (.iaload, 1) := by decide +kernel
theorem d_W_law_612 : decode b_W_law 612 = .ok (.invokevirtual 80, 3) := by decide +kernel
theorem d_W_law_615 : decode b_W_law 615 = .ok (.aload_n 2, 1) := by decide +kernel
theorem d_W_law_616 : decode b_W_law 616 = .ok (.aload_n 0, 1) := by decide +kernel
theorem d_W_law_617 : decode b_W_law 617 = .ok (.iload 4, 2) := by decide +kernel
theorem d_W_law_619 : decode b_W_law 619 = .ok (.iconst 1, 1) := by decide +kernel
theorem d_W_law_620 : decode b_W_law 620 = .ok (.iadd, 1) := by decide +kernel
theorem d_W_law_621 : decode b_W_law 621 = .ok (.iaload, 1) := by decide +kernel
theorem d_W_law_622 : decode b_W_law 622 = .ok (.aload_n 0, 1) := by decide +kernel
theorem d_W_law_623 : decode b_W_law 623 = .ok (.iload 4, 2) := by decide +kernel
theorem d_W_law_625 : decode b_W_law 625 = .ok (.iconst 2, 1) := by decide +kernel
theorem d_W_law_626 : decode b_W_law 626 = .ok (.iadd, 1) := by decide +kernel
theorem d_W_law_627 : decode b_W_law 627 = .ok (.iaload, 1) := by decide +kernel
theorem d_W_law_628 : decode b_W_law 628 = .ok (.aload_n 0, 1) := by decide +kernel
theorem d_W_law_629 : decode b_W_law 629 = .ok (.iload 4, 2) := by decide +kernel
theorem d_W_law_631 : decode b_W_law 631 = .ok (.iconst 3, 1) := by decide +kernel
theorem d_W_law_632 : decode b_W_law 632 = .ok (.iadd, 1) := by decide +kernel
theorem d_W_law_633 : decode b_W_law 633 = .ok (.iaload, 1) := by decide +kernel
theorem d_W_law_634 : decode b_W_law 634 = .ok (.invokevirtual 83, 3) := by decide +kernel
theorem d_W_law_637 : decode b_W_law 637 = .ok (.if_icmp .eq 135, 3) := by decide +kernel
theorem d_W_law_640 : decode b_W_law 640 = .ok (.iconst 0, 1) := by decide +kernel
theorem d_W_law_641 : decode b_W_law 641 = .ok (.ireturn, 1) := by decide +kernel
theorem d_W_law_642 : decode b_W_law 642 = .ok (.aload_n 1, 1) := by decide +kernel
theorem d_W_law_643 : decode b_W_law 643 = .ok (.aload_n 0, 1) := by decide +kernel
theorem d_W_law_644 : decode b_W_law 644 = .ok (.iload 4, 2) := by decide +kernel
theorem d_W_law_646 : decode b_W_law 646 = .ok (.iconst 1, 1) := by decide +kernel
theorem d_W_law_647 : decode b_W_law 647 = .ok (.iadd, 1) := by decide +kernel
theorem d_W_law_648 : decode b_W_law 648 = .ok (.iaload, 1) := by decide +kernel
theorem d_W_law_649 : decode b_W_law 649 = .ok (.aload_n 0, 1) := by decide +kernel
theorem d_W_law_650 : decode b_W_law 650 = .ok (.iload 4, 2) := by decide +kernel
theorem d_W_law_652 : decode b_W_law 652 = .ok (.iconst 2, 1) := by decide +kernel
theorem d_W_law_653 : decode b_W_law 653 = .ok (.iadd, 1) := by decide +kernel
theorem d_W_law_654 : decode b_W_law 654 = .ok (.iaload, 1) := by decide +kernel
theorem d_W_law_655 : decode b_W_law 655 = .ok (.invokevirtual 84, 3) := by decide +kernel
theorem d_W_law_658 : decode b_W_law 658 = .ok (.aload_n 2, 1) := by decide +kernel
theorem d_W_law_659 : decode b_W_law 659 = .ok (.aload_n 0, 1) := by decide +kernel
theorem d_W_law_660 : decode b_W_law 660 = .ok (.iload 4, 2) := by decide +kernel
theorem d_W_law_662 : decode b_W_law 662 = .ok (.iconst 1, 1) := by decide +kernel
theorem d_W_law_663 : decode b_W_law 663 = .ok (.iadd, 1) := by decide +kernel
theorem d_W_law_664 : decode b_W_law 664 = .ok (.iaload, 1) := by decide +kernel
theorem d_W_law_665 : decode b_W_law 665 = .ok (.aload_n 0, 1) := by decide +kernel
theorem d_W_law_666 : decode b_W_law 666 = .ok (.iload 4, 2) := by decide +kernel
theorem d_W_law_668 : decode b_W_law 668 = .ok (.iconst 2, 1) := by decide +kernel
theorem d_W_law_669 : decode b_W_law 669 = .ok (.iadd, 1) := by decide +kernel
theorem d_W_law_670 : decode b_W_law 670 = .ok (.iaload, 1) := by decide +kernel
theorem d_W_law_671 : decode b_W_law 671 = .ok (.invokevirtual 87, 3) := by decide +kernel
theorem d_W_law_674 : decode b_W_law 674 = .ok (.if_icmp .eq 98, 3) := by decide +kernel
theorem d_W_law_677 : decode b_W_law 677 = .ok (.iconst 0, 1) := by decide +kernel
theorem d_W_law_678 : decode b_W_law 678 = .ok (.ireturn, 1) := by decide +kernel
theorem d_W_law_679 : decode b_W_law 679 = .ok (.aload_n 1, 1) := by decide +kernel
theorem d_W_law_680 : decode b_W_law 680 = .ok (.aload_n 0, 1) := by decide +kernel
theorem d_W_law_681 : decode b_W_law 681 = .ok (.iload 4, 2) := by decide +kernel
theorem d_W_law_683 : decode b_W_law 683 = .ok (.iconst 1, 1) := by decide +kernel
theorem d_W_law_684 : decode b_W_law 684 = .ok (.iadd, 1) := by decide +kernel
theorem d_W_law_685 : decode b_W_law 685 = .ok (.iaload, 1) := by decide +kernel
theorem d_W_law_686 : decode b_W_law 686 = .ok (.aload_n 0, 1) := by decide +kernel
theorem d_W_law_687 : decode b_W_law 687 = .ok (.iload 4, 2) := by decide +kernel
theorem d_W_law_689 : decode b_W_law 689 = .ok (.iconst 2, 1) := by decide +kernel
theorem d_W_law_690 : decode b_W_law 690 = .ok (.iadd, 1) := by decide +kernel
theorem d_W_law_691 : decode b_W_law 691 = .ok (.iaload, 1) := by decide +kernel
theorem d_W_law_692 : decode b_W_law 692 = .ok (.invokevirtual 88, 3) := by decide +kernel
theorem d_W_law_695 : decode b_W_law 695 = .ok (.aload_n 2, 1) := by decide +kernel
theorem d_W_law_696 : decode b_W_law 696 = .ok (.aload_n 0, 1) := by decide +kernel
theorem d_W_law_697 : decode b_W_law 697 = .ok (.iload 4, 2) := by decide +kernel
theorem d_W_law_699 : decode b_W_law 699 = .ok (.iconst 1, 1) := by decide +kernel
theorem d_W_law_700 : decode b_W_law 700 = .ok (.iadd, 1) := by decide +kernel
theorem d_W_law_701 : decode b_W_law 701 = .ok (.iaload, 1) := by decide +kernel
theorem d_W_law_702 : decode b_W_law 702 = .ok (.aload_n 0, 1) := by decide +kernel
theorem d_W_law_703 : decode b_W_law 703 = .ok (.iload 4, 2) := by decide +kernel
theorem d_W_law_705 : decode b_W_law 705 = .ok (.iconst 2, 1) := by decide +kernel
theorem d_W_law_706 : decode b_W_law 706 = .ok (.iadd, 1) := by decide +kernel
theorem d_W_law_707 : decode b_W_law 707 = .ok (.iaload, 1) := by decide +kernel
theorem d_W_law_708 : decode b_W_law 708 = .ok (.invokevirtual 91, 3) := by decide +kernel
theorem d_W_law_711 : decode b_W_law 711 = .ok (.if_icmp .eq 61, 3) := by decide +kernel
theorem d_W_law_714 : decode b_W_law 714 = .ok (.iconst 0, 1) := by decide +kernel
theorem d_W_law_715 : decode b_W_law 715 = .ok (.ireturn, 1) := by decide +kernel
theorem d_W_law_716 : decode b_W_law 716 = .ok (.aload_n 1, 1) := by decide +kernel
theorem d_W_law_717 : decode b_W_law 717 = .ok (.aload_n 0, 1) := by decide +kernel
theorem d_W_law_718 : decode b_W_law 718 = .ok (.iload 4, 2) := by decide +kernel
theorem d_W_law_720 : decode b_W_law 720 = .ok (.iconst 1, 1) := by decide +kernel
theorem d_W_law_721 : decode b_W_law 721 = .ok (.iadd, 1) := by decide +kernel
theorem d_W_law_722 : decode b_W_law 722 = .ok (.iaload, 1) := by decide +kernel
theorem d_W_law_723 : decode b_W_law 723 = .ok (.aload_n 3, 1) := by decide +kernel
theorem d_W_law_724 : decode b_W_law 724 = .ok (.invokestatic 92, 3) := by decide +kernel
theorem d_W_law_727 : decode b_W_law 727 = .ok (.istore 5, 2) := by decide +kernel
theorem d_W_law_729 : decode b_W_law 729 = .ok (.aload_n 2, 1) := by decide +kernel
theorem d_W_law_730 : decode b_W_law 730 = .ok (.aload_n 0, 1) := by decide +kernel
theorem d_W_law_731 : decode b_W_law 731 = .ok (.iload 4, 2) := by decide +kernel
theorem d_W_law_733 : decode b_W_law 733 = .ok (.iconst 1, 1) := by decide +kernel
theorem d_W_law_734 : decode b_W_law 734 = .ok (.iadd, 1) := by decide +kernel
theorem d_W_law_735 : decode b_W_law 735 = .ok (.iaload, 1) := by decide +kernel
theorem d_W_law_736 : decode b_W_law 736 = .ok (.invokevirtual 95, 3) := by decide +kernel
theorem d_W_law_739 : decode b_W_law 739 = .ok (.istore 6, 2) := by decide +kernel
theorem d_W_law_741 : decode b_W_law 741 = .ok (.aload_n 2, 1) := by decide +kernel
theorem d_W_law_742 : decode b_W_law 742 = .ok (.invokevirtual 73, 3) := by decide +kernel
theorem d_W_law_745 : decode b_W_law 745 = .ok (.iload 5, 2) := by decide +kernel
theorem d_W_law_747 : decode b_W_law 747 = .ok (.if_icmp .eq 5, 3) := by decide +kernel
theorem d_W_law_750 : decode b_W_law 750 = .ok (.iconst 0, 1) := by decide +kernel
theorem d_W_law_751 : decode b_W_law 751 = .ok (.ireturn, 1) := by decide +kernel
theorem d_W_law_752 : decode b_W_law 752 = .ok (.iload 5, 2) := by decide +kernel
theorem d_W_law_754 : decode b_W_law 754 = .ok (.ifCond .ne 15, 3) := by decide +kernel
theorem d_W_law_757 : decode b_W_law 757 = .ok (.aload_n 3, 1) := by decide +kernel
theorem d_W_law_758 : decode b_W_law 758 = .ok (.iconst 0, 1) := by decide +kernel
theorem d_W_law_759 : decode b_W_law 759 = .ok (.laload, 1) := by decide +kernel
theorem d_W_law_760 : decode b_W_law 760 = .ok (.iload 6, 2) := by decide +kernel
theorem d_W_law_762 : decode b_W_law 762 = .ok (.i2l, 1) := by decide +kernel
theorem d_W_law_763 : decode b_W_law 763 = .ok (.lcmp, 1) := by decide +kernel
theorem d_W_law_764 : decode b_W_law 764 = .ok (.ifCond .eq 5, 3) := by decide +kernel
theorem d_W_law_767 : decode b_W_law 767 = .ok (.iconst 0, 1) := by decide +kernel
theorem d_W_law_768 : decode b_W_law 768 = .ok (.ireturn, 1) := by decide +kernel
theorem d_W_law_769 : decode b_W_law 769 = .ok (.goto 3, 3) := by decide +kernel
theorem d_W_law_772 : decode b_W_law 772 = .ok (.iinc 4 4, 3) := by decide +kernel
theorem d_W_law_775 : decode b_W_law 775 = .ok (.goto (-752), 3) := by decide +kernel
theorem d_W_law_778 : decode b_W_law 778 = .ok (.iconst 1, 1) := by decide +kernel
theorem d_W_law_779 : decode b_W_law 779 = .ok (.ireturn, 1) := by decide +kernel
