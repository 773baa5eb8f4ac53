set_option maxHeartbeats 4000000 in
set_option maxRecDepth 100000 in
theorem c_C_isCertificateMissing (K : KTy) (nr : Nat) (μ : Mu) (hN : 272 ≤ KN K) (hI : CI μ nr) (hKN : KN K = 272 + 3 * nr) : CT K y_C_isCertificateMissing (k_C_isCertificateMissing :: GT) 1 [.ref 0] μ (fun v μ2 => v = some (.int (bi (f_cm μ))) ∧ μ2 = μ) := by
  refine CT.bool (cc := b_C_isCertificateMissing) (maxL := 3) (by decide) rfl rfl (Nat.le_of_ble_eq_true rfl) ?_
  intro G ad N hK X hret
  subst hK
  have hN : 272 ≤ N := hN
  have hKN : N = 272 + 3 * nr := hKN
  have hnr := hI.nr
  show AW G (rmD 1) 3 (0, 0, ad, N, fb) 0 [(0, .ref 0)] [] μ
  have hdn := hI.dn.2
  rcases Nat.eq_zero_or_pos (dnN μ) with h0 | h0
  · refine AW.aload_n X (pc := 0) 0 rfl rfl d_C_isCertificateMissing_0 ?_
    refine AW.get X (pc := 1) (k := 0) (ci := 4) (j := 6) (v := .int (μ 0 6)) (by omega) rfl rfl in_C (by decide) wf_C_191 rfl rfl d_C_isCertificateMissing_1 ?_
    refine AW.val (w := .int 0) (congrArg Value.int (hI.dn.1.trans (by rw [h0] <;> exact nI_0))) ?_
    refine AW.iconst X (pc := 4) (v := 1) (by decide) d_C_isCertificateMissing_4 ?_
    refine AW.isub X (pc := 5) d_C_isCertificateMissing_5 ?_
    refine AW.istore_n X (pc := 6) (lv2 := [(1, .int (0 - 1)), (0, .ref 0)]) rfl d_C_isCertificateMissing_6 (by decide) rfl ?_
    refine AW.iload_n X (pc := 7) 0 rfl rfl d_C_isCertificateMissing_7 ?_
    refine AW.if_lt X (pc := 8) 20 d_C_isCertificateMissing_8 (by decide) (fun c_8 => ?_) (fun c_8 => absurd c_8 (by decide))
    refine AW.iconst X (pc := 20) (v := 0) (by decide) d_C_isCertificateMissing_20 ?_
    exact hret 21 _ _ _ d_C_isCertificateMissing_21 rfl ⟨by simp [bi, f_cm, h0], rfl⟩
  · have hi := (hI.di (show dnN μ - 1 < dnN μ by omega)).2
    refine AW.aload_n X (pc := 0) 0 rfl rfl d_C_isCertificateMissing_0 ?_
    refine AW.get X (pc := 1) (k := 0) (ci := 4) (j := 6) (v := .int (μ 0 6)) (by omega) rfl rfl in_C (by decide) wf_C_191 rfl rfl d_C_isCertificateMissing_1 ?_
    refine AW.val (w := .int (nI (dnN μ))) (congrArg Value.int (hI.dn.1)) ?_
    refine AW.iconst X (pc := 4) (v := 1) (by decide) d_C_isCertificateMissing_4 ?_
    refine AW.isub X (pc := 5) d_C_isCertificateMissing_5 ?_
    refine AW.val (congrArg Value.int (show nI (dnN μ) - 1 = nI (dnN μ - 1) from pk_sub (b := 1) h0)) ?_
    refine AW.istore_n X (pc := 6) (lv2 := [(1, .int (nI (dnN μ - 1))), (0, .ref 0)]) rfl d_C_isCertificateMissing_6 (by decide) rfl ?_
    refine AW.iload_n X (pc := 7) 0 rfl rfl d_C_isCertificateMissing_7 ?_
    refine AW.if_lt X (pc := 8) 20 d_C_isCertificateMissing_8 (by decide) (fun c_8 => absurd c_8 (by rw [i_lt (nI_toInt (show dnN μ - 1 < 2 ^ 31 by omega)) (show (0 : Int32).toInt = 0 by decide)]; omega)) (fun c_8 => ?_)
    refine AW.iload_n X (pc := 11) 0 rfl rfl d_C_isCertificateMissing_11 ?_
    refine AW.aload_n X (pc := 12) 1 rfl rfl d_C_isCertificateMissing_12 ?_
    refine AW.get X (pc := 13) (k := 0) (ci := 4) (j := 5) (v := .ref 249) (by omega) rfl rfl in_C (by decide) wf_C_36 rfl rfl d_C_isCertificateMissing_13 ?_
    refine AW.alen X (pc := 16) (k := 249) (t := 0) (n := 60) (kd := 0) (v := 60) (by omega) rfl rfl (by decide) d_C_isCertificateMissing_16 ?_
    refine AW.icmp_lt X (pc := 17) 22 d_C_isCertificateMissing_17 (by decide) (fun c_17 => ?_) (fun c_17 => absurd c_17 (by rw [i_lt (nI_toInt (show dnN μ - 1 < 2 ^ 31 by omega)) (show (60 : Int32).toInt = 60 by decide)]; omega))
    refine AW.aload_n X (pc := 22) 1 rfl rfl d_C_isCertificateMissing_22 ?_
    refine AW.aload_n X (pc := 23) 1 rfl rfl d_C_isCertificateMissing_23 ?_
    refine AW.get X (pc := 24) (k := 0) (ci := 4) (j := 5) (v := .ref 249) (by omega) rfl rfl in_C (by decide) wf_C_36 rfl rfl d_C_isCertificateMissing_24 ?_
    refine AW.iload_n X (pc := 27) 0 rfl rfl d_C_isCertificateMissing_27 ?_
    refine AW.ialdN X (pc := 28) (k := 249) (t := 0) (n := 60) (j := dnN μ - 1) (by omega) rfl rfl (by omega) (by decide) d_C_isCertificateMissing_28 ?_
    refine AW.val (congrArg Value.int (hI.di (show dnN μ - 1 < dnN μ by omega)).1) ?_
    refine AW.callV X (pc := 29) (b := 0) (ci := 4) (nA := 1) [.int (nI (diN μ (dnN μ - 1)))] [] (c_C_findUnit (kOf G ad N) (diN μ (dnN μ - 1)) nr μ hN hi hI hKN) (gv_V wm_C_93 wi_C_findUnit wl_C_findUnit wn_C kw_C_findUnit) rfl (by decide +kernel) rfl (by omega) rfl rfl ⟨Nat.le_of_ble_eq_true rfl, Nat.le_of_ble_eq_true rfl⟩ ⟨Nat.zero_le _, Nat.zero_le _⟩ (Nat.le_of_ble_eq_true rfl) d_C_isCertificateMissing_29 rfl (fun v μ2 hq => ?_)
    obtain ⟨rfl, hm⟩ := hq
    rw [hm]
    clear hm
    show AW G (rmD 1) 3 (0, 0, ad, N, fb) 32 [(1, .int (nI (dnN μ - 1))), (0, .ref 0)] [.ref (5 + 4 * (diN μ (dnN μ - 1)))] μ
    refine AW.astore_n X (pc := 32) (lv2 := [(2, .ref (5 + 4 * (diN μ (dnN μ - 1)))), (1, .int (nI (dnN μ - 1))), (0, .ref 0)]) rfl d_C_isCertificateMissing_32 (by decide) rfl ?_
    refine AW.aload_n X (pc := 33) 0 rfl rfl d_C_isCertificateMissing_33 ?_
    refine AW.ifnull X (pc := 34) d_C_isCertificateMissing_34 ?_
    refine AW.aload_n X (pc := 37) 0 rfl rfl d_C_isCertificateMissing_37 ?_
    refine AW.callV X (pc := 38) (b := 5 + 4 * (diN μ (dnN μ - 1))) (ci := 3) (nA := 0) [] [] (c_U_hasCertificate (kOf G ad N) (diN μ (dnN μ - 1)) μ hN hi) (gv_V wm_C_176 wi_U_hasCertificate wl_U_hasCertificate wn_U kw_U_hasCertificate) rfl (by decide +kernel) rfl (by omega) (sh_u hi) rfl ⟨Nat.le_of_ble_eq_true rfl, Nat.le_of_ble_eq_true rfl⟩ ⟨Nat.zero_le _, Nat.zero_le _⟩ (Nat.le_of_ble_eq_true rfl) d_C_isCertificateMissing_38 rfl (fun v μ2 hq => ?_)
    obtain ⟨rfl, hm⟩ := hq
    rw [hm]
    clear hm
    show AW G (rmD 1) 3 (0, 0, ad, N, fb) 41 [(2, .ref (5 + 4 * (diN μ (dnN μ - 1)))), (1, .int (nI (dnN μ - 1))), (0, .ref 0)] [.int (bi (decide (¬ μ (5 + 4 * (diN μ (dnN μ - 1))) 8 = -1)))] μ
    refine AW.if_ne X (pc := 41) 48 d_C_isCertificateMissing_41 (by decide) (fun c_41 => ?_) (fun c_41 => ?_)
    · have c_41 := of_decide_eq_true (bi_ne.mp c_41)
      refine AW.iconst X (pc := 48) (v := 0) (by decide) d_C_isCertificateMissing_48 ?_
      exact hret 49 _ _ _ d_C_isCertificateMissing_49 rfl ⟨by simp [bi, f_cm, h0, c_41], rfl⟩
    · have c_41 := Decidable.not_not.mp (of_decide_eq_false (bi_eq.mp c_41))
      refine AW.iconst X (pc := 44) (v := 1) (by decide) d_C_isCertificateMissing_44 ?_
      refine AW.goto X (pc := 45) 49 d_C_isCertificateMissing_45 (by decide) ?_
      exact hret 49 _ _ _ d_C_isCertificateMissing_49 rfl ⟨by simp [bi, f_cm, h0, c_41], rfl⟩
set_option maxHeartbeats 4000000 in
set_option maxRecDepth 100000 in
theorem c_C_obstacleTo (K : KTy) (i nr : Nat) (how dd : Int32) (μ : Mu) (hN : 272 ≤ KN K) (hi : i < 60) (hI : CI μ nr) (hKN : KN K = 272 + 3 * nr) : CT K y_C_obstacleTo (k_C_obstacleTo :: GT) 5 [.ref 0, .ref (5 + 4 * i), .int how, .int dd] μ (fun v μ2 => v = some (.int (f_obst μ i how dd)) ∧ μ2 = μ) := by
  refine CT.int (cc := b_C_obstacleTo) (maxL := 4) (by decide) rfl rfl (Nat.le_of_ble_eq_true rfl) ?_
  intro G ad N hK X hret
  subst hK
  have hN : 272 ≤ N := hN
  have hKN : N = 272 + 3 * nr := hKN
  have hnr := hI.nr
  show AW G (rmD 5) 4 (0, 0, ad, N, fb) 0 [(0, .ref 0), (1, .ref (5 + 4 * i)), (2, .int how), (3, .int dd)] [] μ
  refine AW.aload_n X (pc := 0) 1 rfl rfl d_C_obstacleTo_0 ?_
  refine AW.callV X (pc := 1) (b := 5 + 4 * i) (ci := 3) (nA := 0) [] [] (c_U_isDisposed (kOf G ad N) i μ hN hi) (gv_V wm_C_97 wi_U_isDisposed wl_U_isDisposed wn_U kw_U_isDisposed) rfl (by decide +kernel) rfl (by omega) (sh_u hi) rfl ⟨Nat.le_of_ble_eq_true rfl, Nat.le_of_ble_eq_true rfl⟩ ⟨Nat.zero_le _, Nat.zero_le _⟩ (Nat.le_of_ble_eq_true rfl) d_C_obstacleTo_1 rfl (fun v μ2 hq => ?_)
  obtain ⟨rfl, hm⟩ := hq
  rw [hm]
  clear hm
  show AW G (rmD 5) 4 (0, 0, ad, N, fb) 4 [(0, .ref 0), (1, .ref (5 + 4 * i)), (2, .int how), (3, .int dd)] [.int (bi (decide (¬ μ (5 + 4 * i) 7 = -1)))] μ
  refine AW.if_eq X (pc := 4) 9 d_C_obstacleTo_4 (by decide) (fun c_4 => ?_) (fun c_4 => ?_)
  · have c_4 := Decidable.not_not.mp (of_decide_eq_false (bi_eq.mp c_4))
    refine AW.aload_n X (pc := 9) 0 rfl rfl d_C_obstacleTo_9 ?_
    refine AW.callV X (pc := 10) (b := 0) (ci := 4) (nA := 0) [] [] (c_C_isCertificateMissing (kOf G ad N) nr μ hN hI hKN) (gv_V wm_C_196 wi_C_isCertificateMissing wl_C_isCertificateMissing wn_C kw_C_isCertificateMissing) rfl (by decide +kernel) rfl (by omega) rfl rfl ⟨Nat.le_of_ble_eq_true rfl, Nat.le_of_ble_eq_true rfl⟩ ⟨Nat.zero_le _, Nat.zero_le _⟩ (Nat.le_of_ble_eq_true rfl) d_C_obstacleTo_10 rfl (fun v μ2 hq => ?_)
    obtain ⟨rfl, hm⟩ := hq
    rw [hm]
    clear hm
    show AW G (rmD 5) 4 (0, 0, ad, N, fb) 13 [(0, .ref 0), (1, .ref (5 + 4 * i)), (2, .int how), (3, .int dd)] [.int (bi (f_cm μ))] μ
    refine AW.if_eq X (pc := 13) 18 d_C_obstacleTo_13 (by decide) (fun c_13 => ?_) (fun c_13 => ?_)
    · have c_13 := bi_eq.mp c_13
      refine AW.aload_n X (pc := 18) 1 rfl rfl d_C_obstacleTo_18 ?_
      refine AW.callV X (pc := 19) (b := 5 + 4 * i) (ci := 3) (nA := 0) [] [] (c_U_hasBrokenRule (kOf G ad N) i nr μ hN hi hI hKN) (gv_V wm_C_119 wi_U_hasBrokenRule wl_U_hasBrokenRule wn_U kw_U_hasBrokenRule) rfl (by decide +kernel) rfl (by omega) (sh_u hi) rfl ⟨Nat.le_of_ble_eq_true rfl, Nat.le_of_ble_eq_true rfl⟩ ⟨Nat.zero_le _, Nat.zero_le _⟩ (Nat.le_of_ble_eq_true rfl) d_C_obstacleTo_19 rfl (fun v μ2 hq => ?_)
      obtain ⟨rfl, hm⟩ := hq
      rw [hm]
      clear hm
      show AW G (rmD 5) 4 (0, 0, ad, N, fb) 22 [(0, .ref 0), (1, .ref (5 + 4 * i)), (2, .int how), (3, .int dd)] [.int (bi (f_fails μ i))] μ
      refine AW.if_eq X (pc := 22) 27 d_C_obstacleTo_22 (by decide) (fun c_22 => ?_) (fun c_22 => ?_)
      · have c_22 := bi_eq.mp c_22
        refine AW.aload_n X (pc := 27) 1 rfl rfl d_C_obstacleTo_27 ?_
        refine AW.iload_n X (pc := 28) 3 rfl rfl d_C_obstacleTo_28 ?_
        refine AW.callV X (pc := 29) (b := 5 + 4 * i) (ci := 3) (nA := 1) [.int dd] [] (c_U_isDue (kOf G ad N) i nr dd μ hN hi hI hKN) (gv_V wm_C_127 wi_U_isDue wl_U_isDue wn_U kw_U_isDue) rfl (by decide +kernel) rfl (by omega) (sh_u hi) rfl ⟨Nat.le_of_ble_eq_true rfl, Nat.le_of_ble_eq_true rfl⟩ ⟨Nat.zero_le _, Nat.zero_le _⟩ (Nat.le_of_ble_eq_true rfl) d_C_obstacleTo_29 rfl (fun v μ2 hq => ?_)
        obtain ⟨rfl, hm⟩ := hq
        rw [hm]
        clear hm
        show AW G (rmD 5) 4 (0, 0, ad, N, fb) 32 [(0, .ref 0), (1, .ref (5 + 4 * i)), (2, .int how), (3, .int dd)] [.int (bi (f_isDue μ i dd))] μ
        refine AW.if_ne X (pc := 32) 37 d_C_obstacleTo_32 (by decide) (fun c_32 => ?_) (fun c_32 => ?_)
        · have c_32 := bi_ne.mp c_32
          refine AW.aload_n X (pc := 37) 1 rfl rfl d_C_obstacleTo_37 ?_
          refine AW.iload_n X (pc := 38) 3 rfl rfl d_C_obstacleTo_38 ?_
          refine AW.callV X (pc := 39) (b := 5 + 4 * i) (ci := 3) (nA := 1) [.int dd] [] (c_U_isHeld (kOf G ad N) i dd μ hN hi) (gv_V wm_C_199 wi_U_isHeld wl_U_isHeld wn_U kw_U_isHeld) rfl (by decide +kernel) rfl (by omega) (sh_u hi) rfl ⟨Nat.le_of_ble_eq_true rfl, Nat.le_of_ble_eq_true rfl⟩ ⟨Nat.zero_le _, Nat.zero_le _⟩ (Nat.le_of_ble_eq_true rfl) d_C_obstacleTo_39 rfl (fun v μ2 hq => ?_)
          obtain ⟨rfl, hm⟩ := hq
          rw [hm]
          clear hm
          show AW G (rmD 5) 4 (0, 0, ad, N, fb) 42 [(0, .ref 0), (1, .ref (5 + 4 * i)), (2, .int how), (3, .int dd)] [.int (bi (f_held μ i dd))] μ
          refine AW.if_eq X (pc := 42) 47 d_C_obstacleTo_42 (by decide) (fun c_42 => ?_) (fun c_42 => ?_)
          · have c_42 := bi_eq.mp c_42
            refine AW.aload_n X (pc := 47) 1 rfl rfl d_C_obstacleTo_47 ?_
            refine AW.callV X (pc := 48) (b := 5 + 4 * i) (ci := 3) (nA := 0) [] [] (c_U_isApproved (kOf G ad N) i μ hN hi) (gv_V wm_C_153 wi_U_isApproved wl_U_isApproved wn_U kw_U_isApproved) rfl (by decide +kernel) rfl (by omega) (sh_u hi) rfl ⟨Nat.le_of_ble_eq_true rfl, Nat.le_of_ble_eq_true rfl⟩ ⟨Nat.zero_le _, Nat.zero_le _⟩ (Nat.le_of_ble_eq_true rfl) d_C_obstacleTo_48 rfl (fun v μ2 hq => ?_)
            obtain ⟨rfl, hm⟩ := hq
            rw [hm]
            clear hm
            show AW G (rmD 5) 4 (0, 0, ad, N, fb) 51 [(0, .ref 0), (1, .ref (5 + 4 * i)), (2, .int how), (3, .int dd)] [.int (bi (decide (2 ≤ μ (5 + 4 * i) 5)))] μ
            refine AW.if_ne X (pc := 51) 57 d_C_obstacleTo_51 (by decide) (fun c_51 => ?_) (fun c_51 => ?_)
            · have c_51 := of_decide_eq_true (bi_ne.mp c_51)
              refine AW.aload_n X (pc := 57) 1 rfl rfl d_C_obstacleTo_57 ?_
              refine AW.iload_n X (pc := 58) 3 rfl rfl d_C_obstacleTo_58 ?_
              refine AW.callV X (pc := 59) (b := 5 + 4 * i) (ci := 3) (nA := 1) [.int dd] [] (c_U_dueAction (kOf G ad N) i nr dd μ hN hi hI hKN) (gv_V wm_C_130 wi_U_dueAction wl_U_dueAction wn_U kw_U_dueAction) rfl (by decide +kernel) rfl (by omega) (sh_u hi) rfl ⟨Nat.le_of_ble_eq_true rfl, Nat.le_of_ble_eq_true rfl⟩ ⟨Nat.zero_le _, Nat.zero_le _⟩ (Nat.le_of_ble_eq_true rfl) d_C_obstacleTo_59 rfl (fun v μ2 hq => ?_)
              obtain ⟨rfl, hm⟩ := hq
              rw [hm]
              clear hm
              show AW G (rmD 5) 4 (0, 0, ad, N, fb) 62 [(0, .ref 0), (1, .ref (5 + 4 * i)), (2, .int how), (3, .int dd)] [.int (f_dueAction μ i dd)] μ
              refine AW.iload_n X (pc := 62) 2 rfl rfl d_C_obstacleTo_62 ?_
              refine AW.icmp_ne X (pc := 63) 70 d_C_obstacleTo_63 (by decide) (fun c_63 => ?_) (fun c_63 => ?_)
              · refine AW.bipush X (pc := 70) (v := 7) (by decide) d_C_obstacleTo_70 ?_
                exact hret 72 _ _ _ d_C_obstacleTo_72 ⟨by rw [show f_obst μ i how dd = 7 by simp [f_obst, c_4, c_13, c_22, c_32, c_42, c_51, c_63]], rfl⟩
              · refine AW.iconst X (pc := 66) (v := 0) (by decide) d_C_obstacleTo_66 ?_
                refine AW.goto X (pc := 67) 72 d_C_obstacleTo_67 (by decide) ?_
                exact hret 72 _ _ _ d_C_obstacleTo_72 ⟨by rw [show f_obst μ i how dd = 0 by simp [f_obst, c_4, c_13, c_22, c_32, c_42, c_51, c_63]], rfl⟩
            · have c_51 := of_decide_eq_false (bi_eq.mp c_51)
              refine AW.bipush X (pc := 54) (v := 6) (by decide) d_C_obstacleTo_54 ?_
              exact hret 56 _ _ _ d_C_obstacleTo_56 ⟨by rw [show f_obst μ i how dd = 6 by simp [f_obst, c_4, c_13, c_22, c_32, c_42, c_51]], rfl⟩
          · have c_42 := bi_ne.mp c_42
            refine AW.iconst X (pc := 45) (v := 5) (by decide) d_C_obstacleTo_45 ?_
            exact hret 46 _ _ _ d_C_obstacleTo_46 ⟨by rw [show f_obst μ i how dd = 5 by simp [f_obst, c_4, c_13, c_22, c_32, c_42]], rfl⟩
        · have c_32 := bi_eq.mp c_32
          refine AW.iconst X (pc := 35) (v := 4) (by decide) d_C_obstacleTo_35 ?_
          exact hret 36 _ _ _ d_C_obstacleTo_36 ⟨by rw [show f_obst μ i how dd = 4 by simp [f_obst, c_4, c_13, c_22, c_32]], rfl⟩
      · have c_22 := bi_ne.mp c_22
        refine AW.iconst X (pc := 25) (v := 3) (by decide) d_C_obstacleTo_25 ?_
        exact hret 26 _ _ _ d_C_obstacleTo_26 ⟨by rw [show f_obst μ i how dd = 3 by simp [f_obst, c_4, c_13, c_22]], rfl⟩
    · have c_13 := bi_ne.mp c_13
      refine AW.iconst X (pc := 16) (v := 2) (by decide) d_C_obstacleTo_16 ?_
      exact hret 17 _ _ _ d_C_obstacleTo_17 ⟨by rw [show f_obst μ i how dd = 2 by simp [f_obst, c_4, c_13]], rfl⟩
  · have c_4 := of_decide_eq_true (bi_ne.mp c_4)
    refine AW.iconst X (pc := 7) (v := 1) (by decide) d_C_obstacleTo_7 ?_
    exact hret 8 _ _ _ d_C_obstacleTo_8 ⟨by rw [show f_obst μ i how dd = 1 by simp [f_obst, c_4]], rfl⟩
set_option maxHeartbeats 4000000 in
set_option maxRecDepth 100000 in
theorem c_C_keepDisposed (K : KTy) (n : Nat) (u : Int32) (μ : Mu) (hN : 272 ≤ KN K) (hn : μ 0 6 = nI n) (hn6 : n ≤ 60) : CT K y_C_keepDisposed (k_C_keepDisposed :: GT) 0 [.ref 0, .int u] μ (fun v μ2 => v = none ∧ μ2 = keepD μ n u) := by
  refine CT.void (cc := b_C_keepDisposed) (maxL := 2) (by decide) rfl rfl (Nat.le_of_ble_eq_true rfl) ?_
  intro G ad N hK X hret
  subst hK
  have hN : 272 ≤ N := hN
  show AW G (rmD 0) 2 (0, 0, ad, N, fb) 0 [(0, .ref 0), (1, .int u)] [] μ
  refine AW.aload_n X (pc := 0) 0 rfl rfl d_C_keepDisposed_0 ?_
  refine AW.get X (pc := 1) (k := 0) (ci := 4) (j := 6) (v := .int (μ 0 6)) (by omega) rfl rfl in_C (by decide) wf_C_191 rfl rfl d_C_keepDisposed_1 ?_
  refine AW.val (w := .int (nI n)) (congrArg Value.int (hn)) ?_
  refine AW.if_lt X (pc := 4) 39 d_C_keepDisposed_4 (by decide) (fun c_4 => absurd c_4 (by rw [i_lt (nI_toInt (show n < 2 ^ 31 by omega)) (show (0 : Int32).toInt = 0 by decide)]; omega)) (fun c_4 => ?_)
  refine AW.aload_n X (pc := 7) 0 rfl rfl d_C_keepDisposed_7 ?_
  refine AW.get X (pc := 8) (k := 0) (ci := 4) (j := 6) (v := .int (μ 0 6)) (by omega) rfl rfl in_C (by decide) wf_C_191 rfl rfl d_C_keepDisposed_8 ?_
  refine AW.val (w := .int (nI n)) (congrArg Value.int (hn)) ?_
  refine AW.aload_n X (pc := 11) 0 rfl rfl d_C_keepDisposed_11 ?_
  refine AW.get X (pc := 12) (k := 0) (ci := 4) (j := 5) (v := .ref 249) (by omega) rfl rfl in_C (by decide) wf_C_36 rfl rfl d_C_keepDisposed_12 ?_
  refine AW.alen X (pc := 15) (k := 249) (t := 0) (n := 60) (kd := 0) (v := 60) (by omega) rfl rfl (by decide) d_C_keepDisposed_15 ?_
  refine AW.icmp_ge X (pc := 16) 39 d_C_keepDisposed_16 (by decide) (fun c_16 => ?_) (fun c_16 => ?_)
  · rw [i_le (show (60 : Int32).toInt = 60 by decide) (nI_toInt (show n < 2 ^ 31 by omega))] at c_16
    have c_16 : ¬ n < 60 := by omega
    exact hret 39 _ _ d_C_keepDisposed_39 ⟨rfl, by rw [keepD]; first | (rw [if_pos c_16]; done) | rw [if_neg c_16]⟩
  · rw [i_le (show (60 : Int32).toInt = 60 by decide) (nI_toInt (show n < 2 ^ 31 by omega))] at c_16
    have c_16 : n < 60 := by omega
    refine AW.aload_n X (pc := 19) 0 rfl rfl d_C_keepDisposed_19 ?_
    refine AW.get X (pc := 20) (k := 0) (ci := 4) (j := 5) (v := .ref 249) (by omega) rfl rfl in_C (by decide) wf_C_36 rfl rfl d_C_keepDisposed_20 ?_
    refine AW.aload_n X (pc := 23) 0 rfl rfl d_C_keepDisposed_23 ?_
    refine AW.get X (pc := 24) (k := 0) (ci := 4) (j := 6) (v := .int (μ 0 6)) (by omega) rfl rfl in_C (by decide) wf_C_191 rfl rfl d_C_keepDisposed_24 ?_
    refine AW.val (w := .int (nI n)) (congrArg Value.int (hn)) ?_
    refine AW.iload_n X (pc := 27) 1 rfl rfl d_C_keepDisposed_27 ?_
    refine AW.iastN X (pc := 28) (k := 249) (t := 0) (n := 60) (j := n) (x := u) (by omega) rfl rfl (by omega) (by decide) d_C_keepDisposed_28 ?_
    refine AW.aload_n X (pc := 29) 0 rfl rfl d_C_keepDisposed_29 ?_
    refine AW.dup X (pc := 30) rfl d_C_keepDisposed_30 ?_
    refine AW.get X (pc := 31) (k := 0) (ci := 4) (j := 6) (v := .int ((m_up μ 249 n u) 0 6)) (by omega) rfl rfl in_C (by decide) wf_C_191 rfl rfl d_C_keepDisposed_31 ?_
    refine AW.val (w := .int (nI n)) (congrArg Value.int ((m_up_ne (by omega)).trans hn)) ?_
    refine AW.iconst X (pc := 34) (v := 1) (by decide) d_C_keepDisposed_34 ?_
    refine AW.iadd X (pc := 35) d_C_keepDisposed_35 ?_
    refine AW.put X (pc := 36) (k := 0) (ci := 4) (j := 6) (x := (nI n) + 1) (ty := .int) ft_C (by omega) rfl rfl in_C ft_C_ok n_C (by decide) wf_C_191 rfl rfl rfl rfl rfl d_C_keepDisposed_36 ?_
    exact hret 39 _ _ d_C_keepDisposed_39 ⟨rfl, by rw [keepD]; first | (rw [if_pos c_16]; done) | rw [if_neg c_16]⟩
set_option maxHeartbeats 4000000 in
set_option maxRecDepth 100000 in
theorem c_C_dispose (K : KTy) (nr : Nat) (u how d : Int32) (μ : Mu) (hN : 272 ≤ KN K) (hI : CI μ nr) (hKN : KN K = 272 + 3 * nr) : CT K y_C_dispose (k_C_dispose :: GT) 6 [.ref 0, .int u, .int how, .int d] μ (fun v μ2 => v = some (.int (F_dispose μ u how d).1) ∧ μ2 = (F_dispose μ u how d).2) := by
  refine CT.int (cc := b_C_dispose) (maxL := 6) (by decide) rfl rfl (Nat.le_of_ble_eq_true rfl) ?_
  intro G ad N hK X hret
  subst hK
  have hN : 272 ≤ N := hN
  have hKN : N = 272 + 3 * nr := hKN
  have hnr := hI.nr
  show AW G (rmD 6) 6 (0, 0, ad, N, fb) 0 [(0, .ref 0), (1, .int u), (2, .int how), (3, .int d)] [] μ
  cases hU : okU u with
  | false =>
    refine AW.aload_n X (pc := 0) 0 rfl rfl d_C_dispose_0 ?_
    refine AW.iload_n X (pc := 1) 1 rfl rfl d_C_dispose_1 ?_
    refine AW.callV X (pc := 2) (b := 0) (ci := 4) (nA := 1) [.int u] [] (c_C_findUnit_no (kOf G ad N) u μ hN hU) (gv_V wm_C_93 wi_C_findUnit wl_C_findUnit wn_C kw_C_findUnit) rfl (by decide +kernel) rfl (by omega) rfl rfl ⟨Nat.le_of_ble_eq_true rfl, Nat.le_of_ble_eq_true rfl⟩ ⟨Nat.zero_le _, Nat.zero_le _⟩ (Nat.le_of_ble_eq_true rfl) d_C_dispose_2 rfl (fun v μ2 hq => ?_)
    obtain ⟨rfl, hm⟩ := hq
    rw [hm]
    clear hm
    show AW G (rmD 6) 6 (0, 0, ad, N, fb) 5 [(0, .ref 0), (1, .int u), (2, .int how), (3, .int d)] [.null] μ
    refine AW.astoreN X (pc := 5) (lv2 := [(4, .null), (0, .ref 0), (1, .int u), (2, .int how), (3, .int d)]) d_C_dispose_5 (by decide) rfl ?_
    refine AW.aloadN X (pc := 7) 0 rfl d_C_dispose_7 ?_
    refine AW.ifnonnullN X (pc := 9) d_C_dispose_9 ?_
    refine AW.iconst X (pc := 12) (v := -1) (by decide) d_C_dispose_12 ?_
    exact hret 13 _ _ _ d_C_dispose_13 (by rw [show F_dispose μ u how d = (-1, μ) by first | (simp [F_dispose, hU]; done) | simp +contextual [F_dispose, hU]]; exact ⟨rfl, rfl⟩)
  | true =>
    obtain ⟨i, hi, rfl⟩ := okU_of hU
    have hci : (nI i).toNatClampNeg = i := nI_clamp (by omega)
    show AW G (rmD 6) 6 (0, 0, ad, N, fb) 0 [(0, .ref 0), (1, .int (nI i)), (2, .int how), (3, .int d)] [] μ
    refine AW.aload_n X (pc := 0) 0 rfl rfl d_C_dispose_0 ?_
    refine AW.iload_n X (pc := 1) 1 rfl rfl d_C_dispose_1 ?_
    refine AW.callV X (pc := 2) (b := 0) (ci := 4) (nA := 1) [.int (nI i)] [] (c_C_findUnit (kOf G ad N) i nr μ hN hi hI hKN) (gv_V wm_C_93 wi_C_findUnit wl_C_findUnit wn_C kw_C_findUnit) rfl (by decide +kernel) rfl (by omega) rfl rfl ⟨Nat.le_of_ble_eq_true rfl, Nat.le_of_ble_eq_true rfl⟩ ⟨Nat.zero_le _, Nat.zero_le _⟩ (Nat.le_of_ble_eq_true rfl) d_C_dispose_2 rfl (fun v μ2 hq => ?_)
    obtain ⟨rfl, hm⟩ := hq
    rw [hm]
    clear hm
    show AW G (rmD 6) 6 (0, 0, ad, N, fb) 5 [(0, .ref 0), (1, .int (nI i)), (2, .int how), (3, .int d)] [.ref (5 + 4 * i)] μ
    refine AW.astore X (pc := 5) (lv2 := [(4, .ref (5 + 4 * i)), (0, .ref 0), (1, .int (nI i)), (2, .int how), (3, .int d)]) d_C_dispose_5 (by decide) rfl ?_
    refine AW.aload X (pc := 7) 0 rfl d_C_dispose_7 ?_
    refine AW.ifnonnull X (pc := 9) 14 d_C_dispose_9 (by decide) ?_
    refine AW.iload_n X (pc := 14) 3 rfl rfl d_C_dispose_14 ?_
    refine AW.if_eq X (pc := 15) 23 d_C_dispose_15 (by decide) (fun c_15 => ?_) (fun c_15 => ?_)
    · refine AW.iload_n X (pc := 23) 4 rfl rfl d_C_dispose_23 ?_
      refine AW.callS X (pc := 24) (nA := 1) [.int d] [] (c_C_isDay (kOf G ad N) d μ hN) (gv_S wm_C_75 ws_C_isDay wn_C kw_C_isDay) rfl (by decide +kernel) rfl ⟨Nat.le_of_ble_eq_true rfl, Nat.le_of_ble_eq_true rfl⟩ ⟨Nat.zero_le _, Nat.zero_le _⟩ (Nat.le_of_ble_eq_true rfl) d_C_dispose_24 rfl (fun v μ2 hq => ?_)
      obtain ⟨rfl, hm⟩ := hq
      rw [hm]
      clear hm
      show AW G (rmD 6) 6 (0, 0, ad, N, fb) 27 [(4, .ref (5 + 4 * i)), (0, .ref 0), (1, .int (nI i)), (2, .int how), (3, .int d)] [.int (bi (okD d))] μ
      refine AW.if_ne X (pc := 27) 33 d_C_dispose_27 (by decide) (fun c_27 => ?_) (fun c_27 => ?_)
      · have c_27 := bi_ne.mp c_27
        refine AW.aload_n X (pc := 33) 1 rfl rfl d_C_dispose_33 ?_
        refine AW.aload X (pc := 34) 0 rfl d_C_dispose_34 ?_
        refine AW.iload_n X (pc := 36) 3 rfl rfl d_C_dispose_36 ?_
        refine AW.iload_n X (pc := 37) 4 rfl rfl d_C_dispose_37 ?_
        refine AW.callV X (pc := 38) (b := 0) (ci := 4) (nA := 3) [.ref (5 + 4 * i), .int how, .int d] [] (c_C_obstacleTo (kOf G ad N) i nr how d μ hN hi hI hKN) (gv_V wm_C_165 wi_C_obstacleTo wl_C_obstacleTo wn_C kw_C_obstacleTo) rfl (by decide +kernel) rfl (by omega) rfl rfl ⟨Nat.le_of_ble_eq_true rfl, Nat.le_of_ble_eq_true rfl⟩ ⟨Nat.zero_le _, Nat.zero_le _⟩ (Nat.le_of_ble_eq_true rfl) d_C_dispose_38 rfl (fun v μ2 hq => ?_)
        obtain ⟨rfl, hm⟩ := hq
        rw [hm]
        clear hm
        show AW G (rmD 6) 6 (0, 0, ad, N, fb) 41 [(4, .ref (5 + 4 * i)), (0, .ref 0), (1, .int (nI i)), (2, .int how), (3, .int d)] [.int (f_obst μ i how d)] μ
        refine AW.istore X (pc := 41) (lv2 := [(5, .int (f_obst μ i how d)), (4, .ref (5 + 4 * i)), (0, .ref 0), (1, .int (nI i)), (2, .int how), (3, .int d)]) d_C_dispose_41 (by decide) rfl ?_
        refine AW.iload X (pc := 43) 0 rfl d_C_dispose_43 ?_
        refine AW.if_eq X (pc := 45) 54 d_C_dispose_45 (by decide) (fun c_45 => ?_) (fun c_45 => ?_)
        · refine AW.aload X (pc := 54) 1 rfl d_C_dispose_54 ?_
          refine AW.iload_n X (pc := 56) 5 rfl rfl d_C_dispose_56 ?_
          refine AW.callV X (pc := 57) (b := 5 + 4 * i) (ci := 3) (nA := 1) [.int d] [] (c_U_setDisposed (kOf G ad N) i d μ hN hi) (gv_V wm_C_169 wi_U_setDisposed wl_U_setDisposed wn_U kw_U_setDisposed) rfl (by decide +kernel) rfl (by omega) (sh_u hi) rfl ⟨Nat.le_of_ble_eq_true rfl, Nat.le_of_ble_eq_true rfl⟩ ⟨Nat.zero_le _, Nat.zero_le _⟩ (Nat.le_of_ble_eq_true rfl) d_C_dispose_57 rfl (fun v μ2 hq => ?_)
          obtain ⟨rfl, hm⟩ := hq
          rw [hm]
          clear hm
          show AW G (rmD 6) 6 (0, 0, ad, N, fb) 60 [(5, .int (f_obst μ i how d)), (4, .ref (5 + 4 * i)), (0, .ref 0), (1, .int (nI i)), (2, .int how), (3, .int d)] [] (m_up μ (5 + 4 * i) 7 d)
          refine AW.aload_n X (pc := 60) 2 rfl rfl d_C_dispose_60 ?_
          refine AW.iload_n X (pc := 61) 3 rfl rfl d_C_dispose_61 ?_
          refine AW.callV X (pc := 62) (b := 0) (ci := 4) (nA := 1) [.int (nI i)] [] (c_C_keepDisposed (kOf G ad N) (dnN μ) (nI i) (m_up μ (5 + 4 * i) 7 d) hN ((m_up_ne (by omega)).trans hI.dn.1) hI.dn.2) (gv_V wm_C_172 wi_C_keepDisposed wl_C_keepDisposed wn_C kw_C_keepDisposed) rfl (by decide +kernel) rfl (by omega) rfl rfl ⟨Nat.le_of_ble_eq_true rfl, Nat.le_of_ble_eq_true rfl⟩ ⟨Nat.zero_le _, Nat.zero_le _⟩ (Nat.le_of_ble_eq_true rfl) d_C_dispose_62 rfl (fun v μ2 hq => ?_)
          obtain ⟨rfl, hm⟩ := hq
          rw [hm]
          clear hm
          show AW G (rmD 6) 6 (0, 0, ad, N, fb) 65 [(5, .int (f_obst μ i how d)), (4, .ref (5 + 4 * i)), (0, .ref 0), (1, .int (nI i)), (2, .int how), (3, .int d)] [] (keepD (m_up μ (5 + 4 * i) 7 d) (dnN μ) (nI i))
          refine AW.iconst X (pc := 65) (v := 1) (by decide) d_C_dispose_65 ?_
          exact hret 66 _ _ _ d_C_dispose_66 (by rw [show F_dispose μ (nI i) how d = (1, (keepD (m_up μ (5 + 4 * i) 7 d) (dnN μ) (nI i))) by first | (simp [F_dispose, hU, hci, eq_true c_15, c_27, c_45]; done) | simp +contextual [F_dispose, hU, hci, eq_true c_15, c_27, c_45]]; exact ⟨rfl, rfl⟩)
        · refine AW.bipush X (pc := 48) (v := -10) (by decide) d_C_dispose_48 ?_
          refine AW.iload X (pc := 50) 0 rfl d_C_dispose_50 ?_
          refine AW.isub X (pc := 52) d_C_dispose_52 ?_
          exact hret 53 _ _ _ d_C_dispose_53 (by rw [show F_dispose μ (nI i) how d = ((-10) - (f_obst μ i how d), μ) by first | (simp [F_dispose, hU, hci, eq_true c_15, c_27, c_45]; done) | simp +contextual [F_dispose, hU, hci, eq_true c_15, c_27, c_45]]; exact ⟨rfl, rfl⟩)
      · have c_27 := bi_eq.mp c_27
        refine AW.bipush X (pc := 30) (v := -2) (by decide) d_C_dispose_30 ?_
        exact hret 32 _ _ _ d_C_dispose_32 (by rw [show F_dispose μ (nI i) how d = (-2, μ) by first | (simp [F_dispose, hU, hci, eq_true c_15, c_27]; done) | simp +contextual [F_dispose, hU, hci, eq_true c_15, c_27]]; exact ⟨rfl, rfl⟩)
    · refine AW.iload_n X (pc := 18) 3 rfl rfl d_C_dispose_18 ?_
      refine AW.iconst X (pc := 19) (v := 1) (by decide) d_C_dispose_19 ?_
      refine AW.icmp_ne X (pc := 20) 30 d_C_dispose_20 (by decide) (fun c_20 => ?_) (fun c_20 => ?_)
      · refine AW.bipush X (pc := 30) (v := -2) (by decide) d_C_dispose_30 ?_
        exact hret 32 _ _ _ d_C_dispose_32 (by rw [show F_dispose μ (nI i) how d = (-2, μ) by first | (simp [F_dispose, hU, hci, eq_true c_15, eq_true c_20]; done) | simp +contextual [F_dispose, hU, hci, eq_true c_15, eq_true c_20]]; exact ⟨rfl, rfl⟩)
      · refine AW.iload_n X (pc := 23) 4 rfl rfl d_C_dispose_23 ?_
        refine AW.callS X (pc := 24) (nA := 1) [.int d] [] (c_C_isDay (kOf G ad N) d μ hN) (gv_S wm_C_75 ws_C_isDay wn_C kw_C_isDay) rfl (by decide +kernel) rfl ⟨Nat.le_of_ble_eq_true rfl, Nat.le_of_ble_eq_true rfl⟩ ⟨Nat.zero_le _, Nat.zero_le _⟩ (Nat.le_of_ble_eq_true rfl) d_C_dispose_24 rfl (fun v μ2 hq => ?_)
        obtain ⟨rfl, hm⟩ := hq
        rw [hm]
        clear hm
        show AW G (rmD 6) 6 (0, 0, ad, N, fb) 27 [(4, .ref (5 + 4 * i)), (0, .ref 0), (1, .int (nI i)), (2, .int how), (3, .int d)] [.int (bi (okD d))] μ
        refine AW.if_ne X (pc := 27) 33 d_C_dispose_27 (by decide) (fun c_27 => ?_) (fun c_27 => ?_)
        · have c_27 := bi_ne.mp c_27
          refine AW.aload_n X (pc := 33) 1 rfl rfl d_C_dispose_33 ?_
          refine AW.aload X (pc := 34) 0 rfl d_C_dispose_34 ?_
          refine AW.iload_n X (pc := 36) 3 rfl rfl d_C_dispose_36 ?_
          refine AW.iload_n X (pc := 37) 4 rfl rfl d_C_dispose_37 ?_
          refine AW.callV X (pc := 38) (b := 0) (ci := 4) (nA := 3) [.ref (5 + 4 * i), .int how, .int d] [] (c_C_obstacleTo (kOf G ad N) i nr how d μ hN hi hI hKN) (gv_V wm_C_165 wi_C_obstacleTo wl_C_obstacleTo wn_C kw_C_obstacleTo) rfl (by decide +kernel) rfl (by omega) rfl rfl ⟨Nat.le_of_ble_eq_true rfl, Nat.le_of_ble_eq_true rfl⟩ ⟨Nat.zero_le _, Nat.zero_le _⟩ (Nat.le_of_ble_eq_true rfl) d_C_dispose_38 rfl (fun v μ2 hq => ?_)
          obtain ⟨rfl, hm⟩ := hq
          rw [hm]
          clear hm
          show AW G (rmD 6) 6 (0, 0, ad, N, fb) 41 [(4, .ref (5 + 4 * i)), (0, .ref 0), (1, .int (nI i)), (2, .int how), (3, .int d)] [.int (f_obst μ i how d)] μ
          refine AW.istore X (pc := 41) (lv2 := [(5, .int (f_obst μ i how d)), (4, .ref (5 + 4 * i)), (0, .ref 0), (1, .int (nI i)), (2, .int how), (3, .int d)]) d_C_dispose_41 (by decide) rfl ?_
          refine AW.iload X (pc := 43) 0 rfl d_C_dispose_43 ?_
          refine AW.if_eq X (pc := 45) 54 d_C_dispose_45 (by decide) (fun c_45 => ?_) (fun c_45 => ?_)
          · refine AW.aload X (pc := 54) 1 rfl d_C_dispose_54 ?_
            refine AW.iload_n X (pc := 56) 5 rfl rfl d_C_dispose_56 ?_
            refine AW.callV X (pc := 57) (b := 5 + 4 * i) (ci := 3) (nA := 1) [.int d] [] (c_U_setDisposed (kOf G ad N) i d μ hN hi) (gv_V wm_C_169 wi_U_setDisposed wl_U_setDisposed wn_U kw_U_setDisposed) rfl (by decide +kernel) rfl (by omega) (sh_u hi) rfl ⟨Nat.le_of_ble_eq_true rfl, Nat.le_of_ble_eq_true rfl⟩ ⟨Nat.zero_le _, Nat.zero_le _⟩ (Nat.le_of_ble_eq_true rfl) d_C_dispose_57 rfl (fun v μ2 hq => ?_)
            obtain ⟨rfl, hm⟩ := hq
            rw [hm]
            clear hm
            show AW G (rmD 6) 6 (0, 0, ad, N, fb) 60 [(5, .int (f_obst μ i how d)), (4, .ref (5 + 4 * i)), (0, .ref 0), (1, .int (nI i)), (2, .int how), (3, .int d)] [] (m_up μ (5 + 4 * i) 7 d)
            refine AW.aload_n X (pc := 60) 2 rfl rfl d_C_dispose_60 ?_
            refine AW.iload_n X (pc := 61) 3 rfl rfl d_C_dispose_61 ?_
            refine AW.callV X (pc := 62) (b := 0) (ci := 4) (nA := 1) [.int (nI i)] [] (c_C_keepDisposed (kOf G ad N) (dnN μ) (nI i) (m_up μ (5 + 4 * i) 7 d) hN ((m_up_ne (by omega)).trans hI.dn.1) hI.dn.2) (gv_V wm_C_172 wi_C_keepDisposed wl_C_keepDisposed wn_C kw_C_keepDisposed) rfl (by decide +kernel) rfl (by omega) rfl rfl ⟨Nat.le_of_ble_eq_true rfl, Nat.le_of_ble_eq_true rfl⟩ ⟨Nat.zero_le _, Nat.zero_le _⟩ (Nat.le_of_ble_eq_true rfl) d_C_dispose_62 rfl (fun v μ2 hq => ?_)
            obtain ⟨rfl, hm⟩ := hq
            rw [hm]
            clear hm
            show AW G (rmD 6) 6 (0, 0, ad, N, fb) 65 [(5, .int (f_obst μ i how d)), (4, .ref (5 + 4 * i)), (0, .ref 0), (1, .int (nI i)), (2, .int how), (3, .int d)] [] (keepD (m_up μ (5 + 4 * i) 7 d) (dnN μ) (nI i))
            refine AW.iconst X (pc := 65) (v := 1) (by decide) d_C_dispose_65 ?_
            exact hret 66 _ _ _ d_C_dispose_66 (by rw [show F_dispose μ (nI i) how d = (1, (keepD (m_up μ (5 + 4 * i) 7 d) (dnN μ) (nI i))) by first | (simp [F_dispose, hU, hci, eq_true c_15, eq_true c_20, c_27, c_45]; done) | simp +contextual [F_dispose, hU, hci, eq_true c_15, eq_true c_20, c_27, c_45]]; exact ⟨rfl, rfl⟩)
          · refine AW.bipush X (pc := 48) (v := -10) (by decide) d_C_dispose_48 ?_
            refine AW.iload X (pc := 50) 0 rfl d_C_dispose_50 ?_
            refine AW.isub X (pc := 52) d_C_dispose_52 ?_
            exact hret 53 _ _ _ d_C_dispose_53 (by rw [show F_dispose μ (nI i) how d = ((-10) - (f_obst μ i how d), μ) by first | (simp [F_dispose, hU, hci, eq_true c_15, eq_true c_20, c_27, c_45]; done) | simp +contextual [F_dispose, hU, hci, eq_true c_15, eq_true c_20, c_27, c_45]]; exact ⟨rfl, rfl⟩)
        · have c_27 := bi_eq.mp c_27
          refine AW.bipush X (pc := 30) (v := -2) (by decide) d_C_dispose_30 ?_
          exact hret 32 _ _ _ d_C_dispose_32 (by rw [show F_dispose μ (nI i) how d = (-2, μ) by first | (simp [F_dispose, hU, hci, eq_true c_15, eq_true c_20, c_27]; done) | simp +contextual [F_dispose, hU, hci, eq_true c_15, eq_true c_20, c_27]]; exact ⟨rfl, rfl⟩)
set_option maxHeartbeats 4000000 in
set_option maxRecDepth 100000 in
theorem c_L_insert (K : KTy) (u dd a : Int32) (μ : Mu) (hN : 272 ≤ KN K) (hl : μ 245 3 = nI (lnN μ)) (hl6 : lnN μ < 60) : CT K y_L_insert (k_L_insert :: GT) 1 [.ref 245, .int u, .int dd, .int a] μ (fun v μ2 => v = none ∧ μ2 = insM μ u dd a) := by
  refine CT.void (cc := b_L_insert) (maxL := 5) (by decide) rfl rfl (Nat.le_of_ble_eq_true rfl) ?_
  intro G ad N hK X hret
  subst hK
  have hN : 272 ≤ N := hN
  show AW G (rmD 1) 5 (0, 0, ad, N, fb) 0 [(0, .ref 245), (1, .int u), (2, .int dd), (3, .int a)] [] μ
  have key : ∀ (n f : Nat) (x : Int32) (μ1 : Mu), f < n → f ≤ lnN μ → x = nI f → μ1 245 3 = nI (lnN μ) → ins 246 247 248 dd f μ1 = ins 246 247 248 dd (lnN μ) μ → AW G (rmD 1) 5 (0, 0, ad, N, fb) 23 [(4, .int x), (0, .ref 245), (1, .int u), (2, .int dd), (3, .int a)] [] μ1 := by
    intro n
    induction n with
    | zero =>
      intro f x μ1 hlt
      exact absurd hlt (Nat.not_lt_zero _)
    | succ n ih =>
      intro f x μ1 hlt hf ex hz he
      subst ex
      cases f with
      | zero =>
        refine AW.iload X (pc := 23) 0 rfl d_L_insert_23 ?_
        refine AW.if_le X (pc := 25) 80 d_L_insert_25 (by decide) (fun c_25 => ?_) (fun c_25 => absurd c_25 (by decide))
        refine AW.aload_n X (pc := 80) 1 rfl rfl d_L_insert_80 ?_
        refine AW.iload X (pc := 81) 0 rfl d_L_insert_81 ?_
        refine AW.iload_n X (pc := 83) 2 rfl rfl d_L_insert_83 ?_
        refine AW.iload_n X (pc := 84) 3 rfl rfl d_L_insert_84 ?_
        refine AW.iload_n X (pc := 85) 4 rfl rfl d_L_insert_85 ?_
        refine AW.callV X (pc := 86) (b := 245) (ci := 0) (nA := 4) [.int (nI 0), .int u, .int dd, .int a] [] (c_L_put (kOf G ad N) 0 u dd a μ1 hN (by omega)) (gv_V wm_L_25 wi_L_put wl_L_put wn_L kw_L_put) rfl (by decide +kernel) rfl (by omega) rfl rfl ⟨Nat.le_of_ble_eq_true rfl, Nat.le_of_ble_eq_true rfl⟩ ⟨Nat.zero_le _, Nat.zero_le _⟩ (Nat.le_of_ble_eq_true rfl) d_L_insert_86 rfl (fun v μ2 hq => ?_)
        obtain ⟨rfl, hm⟩ := hq
        rw [hm]
        clear hm
        show AW G (rmD 1) 5 (0, 0, ad, N, fb) 89 [(4, .int (nI 0)), (0, .ref 245), (1, .int u), (2, .int dd), (3, .int a)] [] (put3 246 247 248 μ1 0 u dd a)
        refine AW.aload_n X (pc := 89) 1 rfl rfl d_L_insert_89 ?_
        refine AW.dup X (pc := 90) rfl d_L_insert_90 ?_
        refine AW.get X (pc := 91) (k := 245) (ci := 0) (j := 3) (v := .int ((put3 246 247 248 μ1 0 u dd a) 245 3)) (by omega) rfl rfl in_L (by decide) wf_L_21 rfl rfl d_L_insert_91 ?_
        refine AW.val (w := .int (nI (lnN μ))) (congrArg Value.int ((congrFun (put3_out (by decide) (by decide) (by decide)) 3).trans hz)) ?_
        refine AW.iconst X (pc := 94) (v := 1) (by decide) d_L_insert_94 ?_
        refine AW.iadd X (pc := 95) d_L_insert_95 ?_
        refine AW.put X (pc := 96) (k := 245) (ci := 0) (j := 3) (x := (nI (lnN μ)) + 1) (ty := .int) ft_L (by omega) rfl rfl in_L ft_L_ok n_L (by decide) wf_L_21 rfl rfl rfl rfl rfl d_L_insert_96 ?_
        have hT : ins 246 247 248 dd (lnN μ) μ = (μ1, 0) := he.symm
        exact hret 99 _ _ d_L_insert_99 ⟨rfl, by rw [insM, hT]⟩
      | succ g =>
        refine AW.iload X (pc := 23) 0 rfl d_L_insert_23 ?_
        refine AW.if_le X (pc := 25) 80 d_L_insert_25 (by decide) (fun c_25 => absurd c_25 (by rw [i_le (nI_toInt (show g + 1 < 2 ^ 31 by omega)) (show (0 : Int32).toInt = 0 by decide)]; omega)) (fun c_25 => ?_)
        refine AW.aload_n X (pc := 28) 1 rfl rfl d_L_insert_28 ?_
        refine AW.get X (pc := 29) (k := 245) (ci := 0) (j := 1) (v := .ref 247) (by omega) rfl rfl in_L (by decide) wf_L_15 rfl rfl d_L_insert_29 ?_
        refine AW.iload X (pc := 32) 0 rfl d_L_insert_32 ?_
        refine AW.iconst X (pc := 34) (v := 1) (by decide) d_L_insert_34 ?_
        refine AW.isub X (pc := 35) d_L_insert_35 ?_
        rw [show (nI (g + 1)) - 1 = nI g from nI_pred g]
        refine AW.ialdN X (pc := 36) (k := 247) (t := 0) (n := 60) (j := g) (by omega) rfl rfl (by omega) (by decide) d_L_insert_36 ?_
        refine AW.iload_n X (pc := 37) 3 rfl rfl d_L_insert_37 ?_
        refine AW.icmp_le X (pc := 38) 80 d_L_insert_38 (by decide) (fun c_38 => ?_) (fun c_38 => ?_)
        · refine AW.aload_n X (pc := 80) 1 rfl rfl d_L_insert_80 ?_
          refine AW.iload X (pc := 81) 0 rfl d_L_insert_81 ?_
          refine AW.iload_n X (pc := 83) 2 rfl rfl d_L_insert_83 ?_
          refine AW.iload_n X (pc := 84) 3 rfl rfl d_L_insert_84 ?_
          refine AW.iload_n X (pc := 85) 4 rfl rfl d_L_insert_85 ?_
          refine AW.callV X (pc := 86) (b := 245) (ci := 0) (nA := 4) [.int (nI (g + 1)), .int u, .int dd, .int a] [] (c_L_put (kOf G ad N) (g + 1) u dd a μ1 hN (by omega)) (gv_V wm_L_25 wi_L_put wl_L_put wn_L kw_L_put) rfl (by decide +kernel) rfl (by omega) rfl rfl ⟨Nat.le_of_ble_eq_true rfl, Nat.le_of_ble_eq_true rfl⟩ ⟨Nat.zero_le _, Nat.zero_le _⟩ (Nat.le_of_ble_eq_true rfl) d_L_insert_86 rfl (fun v μ2 hq => ?_)
          obtain ⟨rfl, hm⟩ := hq
          rw [hm]
          clear hm
          show AW G (rmD 1) 5 (0, 0, ad, N, fb) 89 [(4, .int (nI (g + 1))), (0, .ref 245), (1, .int u), (2, .int dd), (3, .int a)] [] (put3 246 247 248 μ1 (g + 1) u dd a)
          refine AW.aload_n X (pc := 89) 1 rfl rfl d_L_insert_89 ?_
          refine AW.dup X (pc := 90) rfl d_L_insert_90 ?_
          refine AW.get X (pc := 91) (k := 245) (ci := 0) (j := 3) (v := .int ((put3 246 247 248 μ1 (g + 1) u dd a) 245 3)) (by omega) rfl rfl in_L (by decide) wf_L_21 rfl rfl d_L_insert_91 ?_
          refine AW.val (w := .int (nI (lnN μ))) (congrArg Value.int ((congrFun (put3_out (by decide) (by decide) (by decide)) 3).trans hz)) ?_
          refine AW.iconst X (pc := 94) (v := 1) (by decide) d_L_insert_94 ?_
          refine AW.iadd X (pc := 95) d_L_insert_95 ?_
          refine AW.put X (pc := 96) (k := 245) (ci := 0) (j := 3) (x := (nI (lnN μ)) + 1) (ty := .int) ft_L (by omega) rfl rfl in_L ft_L_ok n_L (by decide) wf_L_21 rfl rfl rfl rfl rfl d_L_insert_96 ?_
          have hT : ins 246 247 248 dd (lnN μ) μ = (μ1, g + 1) := by rw [← he, ins, if_pos c_38]
          exact hret 99 _ _ d_L_insert_99 ⟨rfl, by rw [insM, hT]⟩
        · refine AW.aload_n X (pc := 41) 1 rfl rfl d_L_insert_41 ?_
          refine AW.iload X (pc := 42) 0 rfl d_L_insert_42 ?_
          refine AW.aload_n X (pc := 44) 1 rfl rfl d_L_insert_44 ?_
          refine AW.get X (pc := 45) (k := 245) (ci := 0) (j := 0) (v := .ref 246) (by omega) rfl rfl in_L (by decide) wf_L_9 rfl rfl d_L_insert_45 ?_
          refine AW.iload X (pc := 48) 0 rfl d_L_insert_48 ?_
          refine AW.iconst X (pc := 50) (v := 1) (by decide) d_L_insert_50 ?_
          refine AW.isub X (pc := 51) d_L_insert_51 ?_
          rw [show (nI (g + 1)) - 1 = nI g from nI_pred g]
          refine AW.ialdN X (pc := 52) (k := 246) (t := 0) (n := 60) (j := g) (by omega) rfl rfl (by omega) (by decide) d_L_insert_52 ?_
          refine AW.aload_n X (pc := 53) 1 rfl rfl d_L_insert_53 ?_
          refine AW.get X (pc := 54) (k := 245) (ci := 0) (j := 1) (v := .ref 247) (by omega) rfl rfl in_L (by decide) wf_L_15 rfl rfl d_L_insert_54 ?_
          refine AW.iload X (pc := 57) 0 rfl d_L_insert_57 ?_
          refine AW.iconst X (pc := 59) (v := 1) (by decide) d_L_insert_59 ?_
          refine AW.isub X (pc := 60) d_L_insert_60 ?_
          rw [show (nI (g + 1)) - 1 = nI g from nI_pred g]
          refine AW.ialdN X (pc := 61) (k := 247) (t := 0) (n := 60) (j := g) (by omega) rfl rfl (by omega) (by decide) d_L_insert_61 ?_
          refine AW.aload_n X (pc := 62) 1 rfl rfl d_L_insert_62 ?_
          refine AW.get X (pc := 63) (k := 245) (ci := 0) (j := 2) (v := .ref 248) (by omega) rfl rfl in_L (by decide) wf_L_18 rfl rfl d_L_insert_63 ?_
          refine AW.iload X (pc := 66) 0 rfl d_L_insert_66 ?_
          refine AW.iconst X (pc := 68) (v := 1) (by decide) d_L_insert_68 ?_
          refine AW.isub X (pc := 69) d_L_insert_69 ?_
          rw [show (nI (g + 1)) - 1 = nI g from nI_pred g]
          refine AW.ialdN X (pc := 70) (k := 248) (t := 0) (n := 60) (j := g) (by omega) rfl rfl (by omega) (by decide) d_L_insert_70 ?_
          refine AW.callV X (pc := 71) (b := 245) (ci := 0) (nA := 4) [.int (nI (g + 1)), .int (μ1 246 g), .int (μ1 247 g), .int (μ1 248 g)] [] (c_L_put (kOf G ad N) (g + 1) (μ1 246 g) (μ1 247 g) (μ1 248 g) μ1 hN (by omega)) (gv_V wm_L_25 wi_L_put wl_L_put wn_L kw_L_put) rfl (by decide +kernel) rfl (by omega) rfl rfl ⟨Nat.le_of_ble_eq_true rfl, Nat.le_of_ble_eq_true rfl⟩ ⟨Nat.zero_le _, Nat.zero_le _⟩ (Nat.le_of_ble_eq_true rfl) d_L_insert_71 rfl (fun v μ2 hq => ?_)
          obtain ⟨rfl, hm⟩ := hq
          rw [hm]
          clear hm
          show AW G (rmD 1) 5 (0, 0, ad, N, fb) 74 [(4, .int (nI (g + 1))), (0, .ref 245), (1, .int u), (2, .int dd), (3, .int a)] [] (put3 246 247 248 μ1 (g + 1) (μ1 246 g) (μ1 247 g) (μ1 248 g))
          refine AW.iinc X (pc := 74) (v := nI g) (lv2 := [(4, .int (nI g)), (0, .ref 245), (1, .int u), (2, .int dd), (3, .int a)]) 0 rfl (i_dec _) d_L_insert_74 (by decide) rfl ?_
          refine AW.goto X (pc := 77) 23 d_L_insert_77 (by decide) ?_
          exact ih g _ _ (by omega) (by omega) rfl (by rw [put3_out (by decide) (by decide) (by decide)]; exact hz) (by rw [← he, ins, if_neg c_38])
  refine AW.aload_n X (pc := 0) 0 rfl rfl d_L_insert_0 ?_
  refine AW.get X (pc := 1) (k := 245) (ci := 0) (j := 3) (v := .int (μ 245 3)) (by omega) rfl rfl in_L (by decide) wf_L_21 rfl rfl d_L_insert_1 ?_
  refine AW.val (w := .int (nI (lnN μ))) (congrArg Value.int (hl)) ?_
  refine AW.if_lt X (pc := 4) 16 d_L_insert_4 (by decide) (fun c_4 => absurd c_4 (by rw [i_lt (nI_toInt (show lnN μ < 2 ^ 31 by omega)) (show (0 : Int32).toInt = 0 by decide)]; omega)) (fun c_4 => ?_)
  refine AW.aload_n X (pc := 7) 0 rfl rfl d_L_insert_7 ?_
  refine AW.get X (pc := 8) (k := 245) (ci := 0) (j := 3) (v := .int (μ 245 3)) (by omega) rfl rfl in_L (by decide) wf_L_21 rfl rfl d_L_insert_8 ?_
  refine AW.val (w := .int (nI (lnN μ))) (congrArg Value.int (hl)) ?_
  refine AW.bipush X (pc := 11) (v := 60) (by decide) d_L_insert_11 ?_
  refine AW.icmp_lt X (pc := 13) 17 d_L_insert_13 (by decide) (fun c_13 => ?_) (fun c_13 => absurd c_13 (by rw [i_lt (nI_toInt (show lnN μ < 2 ^ 31 by omega)) (show (60 : Int32).toInt = 60 by decide)]; omega))
  refine AW.aload_n X (pc := 17) 0 rfl rfl d_L_insert_17 ?_
  refine AW.get X (pc := 18) (k := 245) (ci := 0) (j := 3) (v := .int (μ 245 3)) (by omega) rfl rfl in_L (by decide) wf_L_21 rfl rfl d_L_insert_18 ?_
  refine AW.val (w := .int (nI (lnN μ))) (congrArg Value.int (hl)) ?_
  refine AW.istore X (pc := 21) (lv2 := [(4, .int (nI (lnN μ))), (0, .ref 245), (1, .int u), (2, .int dd), (3, .int a)]) d_L_insert_21 (by decide) rfl ?_
  exact key (lnN μ + 1) (lnN μ) _ μ (by omega) (Nat.le_refl _) rfl hl rfl
set_option maxHeartbeats 4000000 in
set_option maxRecDepth 100000 in
theorem c_C_due (K : KTy) (nr n6 : Nat) (on : Int32) (μ : Mu) (hN : 272 ≤ KN K) (h6 : n6 = 60) (hI : CI μ nr) (hKN : KN K = 272 + 3 * nr) : CT K y_C_due (k_C_due :: GT) 5 [.ref 0, .int on] μ (fun v μ2 => if okD on = false then v = some (.int (-2)) ∧ μ2 = μ else v = some (.int (dueM μ on n6 245 3)) ∧ μ2 = dueM μ on n6) := by
  refine CT.int (cc := b_C_due) (maxL := 4) (by decide) rfl rfl (Nat.le_of_ble_eq_true rfl) ?_
  intro G ad N hK X hret
  subst hK
  have hN : 272 ≤ N := hN
  have hKN : N = 272 + 3 * nr := hKN
  have hnr := hI.nr
  show AW G (rmD 5) 4 (0, 0, ad, N, fb) 0 [(0, .ref 0), (1, .int on)] [] μ
  cases hD : okD on with
  | false =>
    refine AW.iload_n X (pc := 0) 1 rfl rfl d_C_due_0 ?_
    refine AW.callS X (pc := 1) (nA := 1) [.int on] [] (c_C_isDay (kOf G ad N) on μ hN) (gv_S wm_C_75 ws_C_isDay wn_C kw_C_isDay) rfl (by decide +kernel) rfl ⟨Nat.le_of_ble_eq_true rfl, Nat.le_of_ble_eq_true rfl⟩ ⟨Nat.zero_le _, Nat.zero_le _⟩ (Nat.le_of_ble_eq_true rfl) d_C_due_1 rfl (fun v μ2 hq => ?_)
    obtain ⟨rfl, hm⟩ := hq
    rw [hm]
    clear hm
    show AW G (rmD 5) 4 (0, 0, ad, N, fb) 4 [(0, .ref 0), (1, .int on)] [.int (bi (okD on))] μ
    refine AW.if_ne X (pc := 4) 10 d_C_due_4 (by decide) (fun c_4 => absurd c_4 (by rw [hD]; decide)) (fun c_4 => ?_)
    refine AW.bipush X (pc := 7) (v := -2) (by decide) d_C_due_7 ?_
    exact hret 9 _ _ _ d_C_due_9 (by rw [if_pos hD]; exact ⟨rfl, rfl⟩)
  | true =>
    have key : ∀ (n : Nat) (j : Nat) (x : Int32), 60 - j < n → (j ≤ 60) → (x = nI j) → AW G (rmD 5) 4 (0, 0, ad, N, fb) 19 [(2, .int x), (0, .ref 0), (1, .int on)] [] (dueM μ on j) := by
      intro n
      induction n with
      | zero =>
        intro j x hlt
        exact absurd hlt (Nat.not_lt_zero _)
      | succ n ih =>
        intro j x hlt hj ex
        subst ex
        have hIj := hI.due on hj
        have hl := dueM_ln μ on j hj
        refine AW.iload_n X (pc := 19) 0 rfl rfl d_C_due_19 ?_
        refine AW.aload_n X (pc := 20) 1 rfl rfl d_C_due_20 ?_
        refine AW.get X (pc := 21) (k := 0) (ci := 4) (j := 3) (v := .ref 4) (by omega) rfl rfl in_C (by decide) wf_C_24 rfl rfl d_C_due_21 ?_
        refine AW.alen X (pc := 24) (k := 4) (t := 3) (n := 60) (kd := 2) (v := 60) (by omega) rfl rfl (by decide) d_C_due_24 ?_
        refine AW.icmp_ge X (pc := 25) 71 d_C_due_25 (by decide) (fun c_25 => ?_) (fun c_25 => ?_)
        · rw [i_le (show (60 : Int32).toInt = 60 by decide) (nI_toInt (show j < 2 ^ 31 by omega))] at c_25
          have hj6 : j = n6 := by omega
          subst hj6
          refine AW.aload_n X (pc := 71) 1 rfl rfl d_C_due_71 ?_
          refine AW.get X (pc := 72) (k := 0) (ci := 4) (j := 4) (v := .ref 245) (by omega) rfl rfl in_C (by decide) wf_C_32 rfl rfl d_C_due_72 ?_
          refine AW.callV X (pc := 75) (b := 245) (ci := 0) (nA := 0) [] [] (c_L_size (kOf G ad N) (dueM μ on j) hN) (gv_V wm_C_136 wi_L_size wl_L_size wn_L kw_L_size) rfl (by decide +kernel) rfl (by omega) rfl rfl ⟨Nat.le_of_ble_eq_true rfl, Nat.le_of_ble_eq_true rfl⟩ ⟨Nat.zero_le _, Nat.zero_le _⟩ (Nat.le_of_ble_eq_true rfl) d_C_due_75 rfl (fun v μ2 hq => ?_)
          obtain ⟨rfl, hm⟩ := hq
          rw [hm]
          clear hm
          show AW G (rmD 5) 4 (0, 0, ad, N, fb) 78 [(2, .int (nI j)), (0, .ref 0), (1, .int on)] [.int ((dueM μ on j) 245 3)] (dueM μ on j)
          exact hret 78 _ _ _ d_C_due_78 (by rw [if_neg (by rw [hD]; decide)]; exact ⟨rfl, rfl⟩)
        · rw [i_le (show (60 : Int32).toInt = 60 by decide) (nI_toInt (show j < 2 ^ 31 by omega))] at c_25
          have hi : j < 60 := by omega
          refine AW.aload_n X (pc := 28) 1 rfl rfl d_C_due_28 ?_
          refine AW.get X (pc := 29) (k := 0) (ci := 4) (j := 3) (v := .ref 4) (by omega) rfl rfl in_C (by decide) wf_C_24 rfl rfl d_C_due_29 ?_
          refine AW.iload_n X (pc := 32) 0 rfl rfl d_C_due_32 ?_
          refine AW.aaldN X (pc := 33) (k := 4) (t := 3) (n := 60) (j := j) (v := .ref (5 + 4 * j)) (by omega) rfl rfl (by omega) (by decide) (by rw [hIj.un hi]; exact m_rv_nI (by omega)) d_C_due_33 ?_
          refine AW.astore_n X (pc := 34) (lv2 := [(3, .ref (5 + 4 * j)), (2, .int (nI j)), (0, .ref 0), (1, .int on)]) rfl d_C_due_34 (by decide) rfl ?_
          refine AW.aload_n X (pc := 35) 0 rfl rfl d_C_due_35 ?_
          refine AW.ifnull X (pc := 36) d_C_due_36 ?_
          refine AW.aload_n X (pc := 39) 0 rfl rfl d_C_due_39 ?_
          refine AW.iload_n X (pc := 40) 3 rfl rfl d_C_due_40 ?_
          refine AW.callV X (pc := 41) (b := 5 + 4 * j) (ci := 3) (nA := 1) [.int on] [] (c_U_isDue (kOf G ad N) j nr on (dueM μ on j) hN hi hIj hKN) (gv_V wm_C_127 wi_U_isDue wl_U_isDue wn_U kw_U_isDue) rfl (by decide +kernel) rfl (by omega) (sh_u hi) rfl ⟨Nat.le_of_ble_eq_true rfl, Nat.le_of_ble_eq_true rfl⟩ ⟨Nat.zero_le _, Nat.zero_le _⟩ (Nat.le_of_ble_eq_true rfl) d_C_due_41 rfl (fun v μ2 hq => ?_)
          obtain ⟨rfl, hm⟩ := hq
          rw [hm]
          clear hm
          show AW G (rmD 5) 4 (0, 0, ad, N, fb) 44 [(3, .ref (5 + 4 * j)), (2, .int (nI j)), (0, .ref 0), (1, .int on)] [.int (bi (f_isDue (dueM μ on j) j on))] (dueM μ on j)
          refine AW.if_eq X (pc := 44) 65 d_C_due_44 (by decide) (fun c_44 => ?_) (fun c_44 => ?_)
          · have c_44 := bi_eq.mp c_44
            refine AW.iinc X (pc := 65) (v := nI (j + 1)) (lv2 := [(2, .int (nI (j + 1))), (3, .ref (5 + 4 * j)), (0, .ref 0), (1, .int on)]) 1 rfl (nI_1 _) d_C_due_65 (by decide) rfl ?_
            refine AW.goto X (pc := 68) 19 d_C_due_68 (by decide) ?_
            refine AW.locs (lv2 := [(2, .int (nI (j + 1))), (0, .ref 0), (1, .int on)]) [0, 2, 3] rfl ?_
            have e : dueM μ on (j + 1) = (dueM μ on j) := by rw [dueM, if_neg (by rw [c_44]; decide)]
            rw [← e]
            exact ih (j + 1) _ (by omega) (by omega) rfl
          · have c_44 := bi_ne.mp c_44
            refine AW.aload_n X (pc := 47) 2 rfl rfl d_C_due_47 ?_
            refine AW.get X (pc := 48) (k := 0) (ci := 4) (j := 4) (v := .ref 245) (by omega) rfl rfl in_C (by decide) wf_C_32 rfl rfl d_C_due_48 ?_
            refine AW.iload_n X (pc := 51) 1 rfl rfl d_C_due_51 ?_
            refine AW.aload_n X (pc := 52) 0 rfl rfl d_C_due_52 ?_
            refine AW.iload_n X (pc := 53) 3 rfl rfl d_C_due_53 ?_
            refine AW.callV X (pc := 54) (b := 5 + 4 * j) (ci := 3) (nA := 1) [.int on] [.int (nI j), .ref 245] (c_U_dueDay (kOf G ad N) j nr on (dueM μ on j) hN hi hIj hKN) (gv_V wm_C_122 wi_U_dueDay wl_U_dueDay wn_U kw_U_dueDay) rfl (by decide +kernel) rfl (by omega) (sh_u hi) rfl ⟨Nat.le_of_ble_eq_true rfl, Nat.le_of_ble_eq_true rfl⟩ ⟨Nat.zero_le _, Nat.zero_le _⟩ (Nat.le_of_ble_eq_true rfl) d_C_due_54 rfl (fun v μ2 hq => ?_)
            obtain ⟨rfl, hm⟩ := hq
            rw [hm]
            clear hm
            show AW G (rmD 5) 4 (0, 0, ad, N, fb) 57 [(3, .ref (5 + 4 * j)), (2, .int (nI j)), (0, .ref 0), (1, .int on)] [.int (f_dueDay (dueM μ on j) j on), .int (nI j), .ref 245] (dueM μ on j)
            refine AW.aload_n X (pc := 57) 0 rfl rfl d_C_due_57 ?_
            refine AW.iload_n X (pc := 58) 3 rfl rfl d_C_due_58 ?_
            refine AW.callV X (pc := 59) (b := 5 + 4 * j) (ci := 3) (nA := 1) [.int on] [.int (f_dueDay (dueM μ on j) j on), .int (nI j), .ref 245] (c_U_dueAction (kOf G ad N) j nr on (dueM μ on j) hN hi hIj hKN) (gv_V wm_C_130 wi_U_dueAction wl_U_dueAction wn_U kw_U_dueAction) rfl (by decide +kernel) rfl (by omega) (sh_u hi) rfl ⟨Nat.le_of_ble_eq_true rfl, Nat.le_of_ble_eq_true rfl⟩ ⟨Nat.zero_le _, Nat.zero_le _⟩ (Nat.le_of_ble_eq_true rfl) d_C_due_59 rfl (fun v μ2 hq => ?_)
            obtain ⟨rfl, hm⟩ := hq
            rw [hm]
            clear hm
            show AW G (rmD 5) 4 (0, 0, ad, N, fb) 62 [(3, .ref (5 + 4 * j)), (2, .int (nI j)), (0, .ref 0), (1, .int on)] [.int (f_dueAction (dueM μ on j) j on), .int (f_dueDay (dueM μ on j) j on), .int (nI j), .ref 245] (dueM μ on j)
            refine AW.callV X (pc := 62) (b := 245) (ci := 0) (nA := 3) [.int (nI j), .int (f_dueDay (dueM μ on j) j on), .int (f_dueAction (dueM μ on j) j on)] [] (c_L_insert (kOf G ad N) (nI j) (f_dueDay (dueM μ on j) j on) (f_dueAction (dueM μ on j) j on) (dueM μ on j) hN hl.1 (by omega)) (gv_V wm_C_133 wi_L_insert wl_L_insert wn_L kw_L_insert) rfl (by decide +kernel) rfl (by omega) rfl rfl ⟨Nat.le_of_ble_eq_true rfl, Nat.le_of_ble_eq_true rfl⟩ ⟨Nat.zero_le _, Nat.zero_le _⟩ (Nat.le_of_ble_eq_true rfl) d_C_due_62 rfl (fun v μ2 hq => ?_)
            obtain ⟨rfl, hm⟩ := hq
            rw [hm]
            clear hm
            show AW G (rmD 5) 4 (0, 0, ad, N, fb) 65 [(3, .ref (5 + 4 * j)), (2, .int (nI j)), (0, .ref 0), (1, .int on)] [] (insM (dueM μ on j) (nI j) (f_dueDay (dueM μ on j) j on) (f_dueAction (dueM μ on j) j on))
            refine AW.iinc X (pc := 65) (v := nI (j + 1)) (lv2 := [(2, .int (nI (j + 1))), (3, .ref (5 + 4 * j)), (0, .ref 0), (1, .int on)]) 1 rfl (nI_1 _) d_C_due_65 (by decide) rfl ?_
            refine AW.goto X (pc := 68) 19 d_C_due_68 (by decide) ?_
            refine AW.locs (lv2 := [(2, .int (nI (j + 1))), (0, .ref 0), (1, .int on)]) [0, 2, 3] rfl ?_
            have e : dueM μ on (j + 1) = (insM (dueM μ on j) (nI j) (f_dueDay (dueM μ on j) j on) (f_dueAction (dueM μ on j) j on)) := by rw [dueM, if_pos c_44]
            rw [← e]
            exact ih (j + 1) _ (by omega) (by omega) rfl
    refine AW.iload_n X (pc := 0) 1 rfl rfl d_C_due_0 ?_
    refine AW.callS X (pc := 1) (nA := 1) [.int on] [] (c_C_isDay (kOf G ad N) on μ hN) (gv_S wm_C_75 ws_C_isDay wn_C kw_C_isDay) rfl (by decide +kernel) rfl ⟨Nat.le_of_ble_eq_true rfl, Nat.le_of_ble_eq_true rfl⟩ ⟨Nat.zero_le _, Nat.zero_le _⟩ (Nat.le_of_ble_eq_true rfl) d_C_due_1 rfl (fun v μ2 hq => ?_)
    obtain ⟨rfl, hm⟩ := hq
    rw [hm]
    clear hm
    show AW G (rmD 5) 4 (0, 0, ad, N, fb) 4 [(0, .ref 0), (1, .int on)] [.int (bi (okD on))] μ
    refine AW.if_ne X (pc := 4) 10 d_C_due_4 (by decide) (fun c_4 => ?_) (fun c_4 => absurd c_4 (by rw [hD]; decide))
    refine AW.aload_n X (pc := 10) 0 rfl rfl d_C_due_10 ?_
    refine AW.get X (pc := 11) (k := 0) (ci := 4) (j := 4) (v := .ref 245) (by omega) rfl rfl in_C (by decide) wf_C_32 rfl rfl d_C_due_11 ?_
    refine AW.callV X (pc := 14) (b := 245) (ci := 0) (nA := 0) [] [] (c_L_clear (kOf G ad N) μ hN) (gv_V wm_C_126 wi_L_clear wl_L_clear wn_L kw_L_clear) rfl (by decide +kernel) rfl (by omega) rfl rfl ⟨Nat.le_of_ble_eq_true rfl, Nat.le_of_ble_eq_true rfl⟩ ⟨Nat.zero_le _, Nat.zero_le _⟩ (Nat.le_of_ble_eq_true rfl) d_C_due_14 rfl (fun v μ2 hq => ?_)
    obtain ⟨rfl, hm⟩ := hq
    rw [hm]
    clear hm
    show AW G (rmD 5) 4 (0, 0, ad, N, fb) 17 [(0, .ref 0), (1, .int on)] [] (m_up μ 245 3 0)
    refine AW.iconst X (pc := 17) (v := 0) (by decide) d_C_due_17 ?_
    refine AW.istore_n X (pc := 18) (lv2 := [(2, .int 0), (0, .ref 0), (1, .int on)]) rfl d_C_due_18 (by decide) rfl ?_
    exact key 61 0 _ (by omega) (Nat.zero_le _) nI_0.symm
set_option maxHeartbeats 4000000 in
set_option maxRecDepth 100000 in
theorem c_T_collect (K : KTy) (nr : Nat) (c : Int32) (μ : Mu) (hN : 272 ≤ KN K) (hI : CI μ nr) : CT K y_T_collect (k_T_collect :: GT) 0 [.ref 1, .int c] μ (fun v μ2 => v = none ∧ μ2 = collectM μ c) := by
  refine CT.void (cc := b_T_collect) (maxL := 2) (by decide) rfl rfl (Nat.le_of_ble_eq_true rfl) ?_
  intro G ad N hK X hret
  subst hK
  have hN : 272 ≤ N := hN
  have htl := hI.tl.2
  show AW G (rmD 0) 2 (0, 0, ad, N, fb) 0 [(0, .ref 1), (1, .int c)] [] μ
  refine AW.aload_n X (pc := 0) 0 rfl rfl d_T_collect_0 ?_
  refine AW.get X (pc := 1) (k := 1) (ci := 2) (j := 1) (v := .int (μ 1 1)) (by omega) rfl rfl in_T (by decide) wf_T_15 rfl rfl d_T_collect_1 ?_
  refine AW.val (w := .int (nI (tlN μ))) (congrArg Value.int (hI.tl.1)) ?_
  refine AW.if_lt X (pc := 4) 43 d_T_collect_4 (by decide) (fun c_4 => absurd c_4 (by rw [i_lt (nI_toInt (show tlN μ < 2 ^ 31 by omega)) (show (0 : Int32).toInt = 0 by decide)]; omega)) (fun c_4 => ?_)
  refine AW.aload_n X (pc := 7) 0 rfl rfl d_T_collect_7 ?_
  refine AW.get X (pc := 8) (k := 1) (ci := 2) (j := 1) (v := .int (μ 1 1)) (by omega) rfl rfl in_T (by decide) wf_T_15 rfl rfl d_T_collect_8 ?_
  refine AW.val (w := .int (nI (tlN μ))) (congrArg Value.int (hI.tl.1)) ?_
  refine AW.aload_n X (pc := 11) 0 rfl rfl d_T_collect_11 ?_
  refine AW.get X (pc := 12) (k := 1) (ci := 2) (j := 0) (v := .ref 2) (by omega) rfl rfl in_T (by decide) wf_T_9 rfl rfl d_T_collect_12 ?_
  refine AW.alen X (pc := 15) (k := 2) (t := 0) (n := 40) (kd := 0) (v := 40) (by omega) rfl rfl (by decide) d_T_collect_15 ?_
  refine AW.icmp_ge X (pc := 16) 43 d_T_collect_16 (by decide) (fun c_16 => ?_) (fun c_16 => ?_)
  · rw [i_le (show (40 : Int32).toInt = 40 by decide) (nI_toInt (show tlN μ < 2 ^ 31 by omega))] at c_16
    have c_16 : ¬ tlN μ < 40 := by omega
    exact hret 43 _ _ d_T_collect_43 ⟨rfl, by rw [collectM]; first | (rw [if_pos c_16]; done) | rw [if_neg c_16]⟩
  · rw [i_le (show (40 : Int32).toInt = 40 by decide) (nI_toInt (show tlN μ < 2 ^ 31 by omega))] at c_16
    have c_16 : tlN μ < 40 := by omega
    refine AW.aload_n X (pc := 19) 0 rfl rfl d_T_collect_19 ?_
    refine AW.get X (pc := 20) (k := 1) (ci := 2) (j := 0) (v := .ref 2) (by omega) rfl rfl in_T (by decide) wf_T_9 rfl rfl d_T_collect_20 ?_
    refine AW.aload_n X (pc := 23) 0 rfl rfl d_T_collect_23 ?_
    refine AW.get X (pc := 24) (k := 1) (ci := 2) (j := 1) (v := .int (μ 1 1)) (by omega) rfl rfl in_T (by decide) wf_T_15 rfl rfl d_T_collect_24 ?_
    refine AW.val (w := .int (nI (tlN μ))) (congrArg Value.int (hI.tl.1)) ?_
    refine AW.iload_n X (pc := 27) 1 rfl rfl d_T_collect_27 ?_
    refine AW.sipush X (pc := 28) (v := 255) (by decide) d_T_collect_28 ?_
    refine AW.iand X (pc := 31) d_T_collect_31 ?_
    refine AW.iastN X (pc := 32) (k := 2) (t := 0) (n := 40) (j := tlN μ) (x := c &&& 255) (by omega) rfl rfl (by omega) (by decide) d_T_collect_32 ?_
    refine AW.aload_n X (pc := 33) 0 rfl rfl d_T_collect_33 ?_
    refine AW.dup X (pc := 34) rfl d_T_collect_34 ?_
    refine AW.get X (pc := 35) (k := 1) (ci := 2) (j := 1) (v := .int ((m_up μ 2 (tlN μ) (c &&& 255)) 1 1)) (by omega) rfl rfl in_T (by decide) wf_T_15 rfl rfl d_T_collect_35 ?_
    refine AW.val (w := .int (nI (tlN μ))) (congrArg Value.int ((m_up_ne (by omega)).trans hI.tl.1)) ?_
    refine AW.iconst X (pc := 38) (v := 1) (by decide) d_T_collect_38 ?_
    refine AW.iadd X (pc := 39) d_T_collect_39 ?_
    refine AW.put X (pc := 40) (k := 1) (ci := 2) (j := 1) (x := (nI (tlN μ)) + 1) (ty := .int) ft_T (by omega) rfl rfl in_T ft_T_ok n_T (by decide) wf_T_15 rfl rfl rfl rfl rfl d_T_collect_40 ?_
    exact hret 43 _ _ d_T_collect_43 ⟨rfl, by rw [collectM]; first | (rw [if_pos c_16]; done) | rw [if_neg c_16]⟩
set_option maxHeartbeats 4000000 in
set_option maxRecDepth 100000 in
theorem c_C_sign (K : KTy) (nr : Nat) (c : Int32) (μ : Mu) (hN : 272 ≤ KN K) (hI : CI μ nr) : CT K y_C_sign (k_C_sign :: GT) 1 [.ref 0, .int c] μ (fun v μ2 => v = none ∧ μ2 = collectM μ c) := by
  refine CT.void (cc := b_C_sign) (maxL := 2) (by decide) rfl rfl (Nat.le_of_ble_eq_true rfl) ?_
  intro G ad N hK X hret
  subst hK
  have hN : 272 ≤ N := hN
  show AW G (rmD 1) 2 (0, 0, ad, N, fb) 0 [(0, .ref 0), (1, .int c)] [] μ
  refine AW.aload_n X (pc := 0) 0 rfl rfl d_C_sign_0 ?_
  refine AW.get X (pc := 1) (k := 0) (ci := 4) (j := 0) (v := .ref 1) (by omega) rfl rfl in_C (by decide) wf_C_10 rfl rfl d_C_sign_1 ?_
  refine AW.iload_n X (pc := 4) 1 rfl rfl d_C_sign_4 ?_
  refine AW.callV X (pc := 5) (b := 1) (ci := 2) (nA := 1) [.int c] [] (c_T_collect (kOf G ad N) nr c μ hN hI) (gv_V wm_C_40 wi_T_collect wl_T_collect wn_T kw_T_collect) rfl (by decide +kernel) rfl (by omega) rfl rfl ⟨Nat.le_of_ble_eq_true rfl, Nat.le_of_ble_eq_true rfl⟩ ⟨Nat.zero_le _, Nat.zero_le _⟩ (Nat.le_of_ble_eq_true rfl) d_C_sign_5 rfl (fun v μ2 hq => ?_)
  obtain ⟨rfl, hm⟩ := hq
  rw [hm]
  clear hm
  show AW G (rmD 1) 2 (0, 0, ad, N, fb) 8 [(0, .ref 0), (1, .int c)] [] (collectM μ c)
  exact hret 8 _ _ d_C_sign_8 ⟨rfl, rfl⟩
