set_option maxHeartbeats 4000000 in
set_option maxRecDepth 100000 in
theorem c_L_clear (K : KTy)  (μ : Mu) (hN : 272 ≤ KN K)  : CT K y_L_clear (k_L_clear :: GT) 0 [.ref 245] μ (fun v μ2 => v = none ∧ μ2 = m_up μ 245 3 0) := by
  refine CT.void (cc := b_L_clear) (maxL := 1) (by decide) rfl rfl (Nat.le_of_ble_eq_true rfl) ?_
  intro G ad N hK X hret
  subst hK
  have hN : 272 ≤ N := hN
  show AW G (rmD 0) 1 (0, 0, ad, N, fb) 0 [(0, .ref 245)] [] μ
  refine AW.aload_n X (pc := 0) 0 rfl rfl d_L_clear_0 ?_
  refine AW.iconst X (pc := 1) (v := 0) (by decide) d_L_clear_1 ?_
  refine AW.put X (pc := 2) (k := 245) (ci := 0) (j := 3) (x := 0) (ty := .int) ft_L (by omega) rfl rfl in_L ft_L_ok n_L (by decide) wf_L_21 rfl rfl rfl rfl rfl d_L_clear_2 ?_
  exact hret 5 _ _ d_L_clear_5 ⟨rfl, rfl⟩
set_option maxHeartbeats 4000000 in
set_option maxRecDepth 100000 in
theorem c_L_size (K : KTy)  (μ : Mu) (hN : 272 ≤ KN K)  : CT K y_L_size (k_L_size :: GT) 0 [.ref 245] μ (fun v μ2 => v = some (.int (μ 245 3)) ∧ μ2 = μ) := by
  refine CT.int (cc := b_L_size) (maxL := 1) (by decide) rfl rfl (Nat.le_of_ble_eq_true rfl) ?_
  intro G ad N hK X hret
  subst hK
  have hN : 272 ≤ N := hN
  show AW G (rmD 0) 1 (0, 0, ad, N, fb) 0 [(0, .ref 245)] [] μ
  refine AW.aload_n X (pc := 0) 0 rfl rfl d_L_size_0 ?_
  refine AW.get X (pc := 1) (k := 245) (ci := 0) (j := 3) (v := .int (μ 245 3)) (by omega) rfl rfl in_L (by decide) wf_L_21 rfl rfl d_L_size_1 ?_
  exact hret 4 _ _ _ d_L_size_4 ⟨by first | rfl | simp [bi], rfl⟩
set_option maxHeartbeats 4000000 in
set_option maxRecDepth 100000 in
theorem c_L_has (K : KTy) (i : Int32) (μ : Mu) (hN : 272 ≤ KN K)  : CT K y_L_has (k_L_has :: GT) 0 [.ref 245, .int i] μ (fun v μ2 => v = some (.int (bi (decide (¬ i < 0 ∧ ¬ μ 245 3 ≤ i)))) ∧ μ2 = μ) := by
  refine CT.bool (cc := b_L_has) (maxL := 2) (by decide) rfl rfl (Nat.le_of_ble_eq_true rfl) ?_
  intro G ad N hK X hret
  subst hK
  have hN : 272 ≤ N := hN
  show AW G (rmD 0) 2 (0, 0, ad, N, fb) 0 [(0, .ref 245), (1, .int i)] [] μ
  refine AW.iload_n X (pc := 0) 1 rfl rfl d_L_has_0 ?_
  refine AW.if_lt X (pc := 1) 16 d_L_has_1 (by decide) (fun c_1 => ?_) (fun c_1 => ?_)
  · refine AW.iconst X (pc := 16) (v := 0) (by decide) d_L_has_16 ?_
    exact hret 17 _ _ _ d_L_has_17 (by first | rfl | exact bi_nar _) ⟨by first | rfl | simp [bi, c_1], rfl⟩
  · refine AW.iload_n X (pc := 4) 1 rfl rfl d_L_has_4 ?_
    refine AW.aload_n X (pc := 5) 0 rfl rfl d_L_has_5 ?_
    refine AW.get X (pc := 6) (k := 245) (ci := 0) (j := 3) (v := .int (μ 245 3)) (by omega) rfl rfl in_L (by decide) wf_L_21 rfl rfl d_L_has_6 ?_
    refine AW.icmp_ge X (pc := 9) 16 d_L_has_9 (by decide) (fun c_9 => ?_) (fun c_9 => ?_)
    · refine AW.iconst X (pc := 16) (v := 0) (by decide) d_L_has_16 ?_
      exact hret 17 _ _ _ d_L_has_17 (by first | rfl | exact bi_nar _) ⟨by first | rfl | simp [bi, c_1, c_9], rfl⟩
    · refine AW.iconst X (pc := 12) (v := 1) (by decide) d_L_has_12 ?_
      refine AW.goto X (pc := 13) 17 d_L_has_13 (by decide) ?_
      exact hret 17 _ _ _ d_L_has_17 (by first | rfl | exact bi_nar _) ⟨by first | rfl | simp [bi, c_1, c_9], rfl⟩
set_option maxHeartbeats 4000000 in
set_option maxRecDepth 100000 in
theorem c_L_told (K : KTy) (j : Nat) (what : Int32) (μ : Mu) (hN : 272 ≤ KN K) (hj : j < 60) : CT K y_L_told (k_L_told :: GT) 0 [.ref 245, .int (nI j), .int what] μ (fun v μ2 => v = some (.int (if what = 0 then μ 246 j else if what = 1 then μ 247 j else μ 248 j)) ∧ μ2 = μ) := by
  refine CT.int (cc := b_L_told) (maxL := 3) (by decide) rfl rfl (Nat.le_of_ble_eq_true rfl) ?_
  intro G ad N hK X hret
  subst hK
  have hN : 272 ≤ N := hN
  show AW G (rmD 0) 3 (0, 0, ad, N, fb) 0 [(0, .ref 245), (1, .int (nI j)), (2, .int what)] [] μ
  refine AW.iload_n X (pc := 0) 1 rfl rfl d_L_told_0 ?_
  refine AW.if_lt X (pc := 1) 10 d_L_told_1 (by decide) (fun c_1 => absurd c_1 (by rw [i_lt (nI_toInt (show j < 2 ^ 31 by omega)) (show (0 : Int32).toInt = 0 by decide)]; omega)) (fun c_1 => ?_)
  refine AW.iload_n X (pc := 4) 1 rfl rfl d_L_told_4 ?_
  refine AW.bipush X (pc := 5) (v := 60) (by decide) d_L_told_5 ?_
  refine AW.icmp_lt X (pc := 7) 12 d_L_told_7 (by decide) (fun c_7 => ?_) (fun c_7 => absurd c_7 (by rw [i_lt (nI_toInt (show j < 2 ^ 31 by omega)) (show (60 : Int32).toInt = 60 by decide)]; omega))
  refine AW.iload_n X (pc := 12) 2 rfl rfl d_L_told_12 ?_
  refine AW.if_ne X (pc := 13) 23 d_L_told_13 (by decide) (fun c_13 => ?_) (fun c_13 => ?_)
  · refine AW.iload_n X (pc := 23) 2 rfl rfl d_L_told_23 ?_
    refine AW.iconst X (pc := 24) (v := 1) (by decide) d_L_told_24 ?_
    refine AW.icmp_ne X (pc := 25) 37 d_L_told_25 (by decide) (fun c_25 => ?_) (fun c_25 => ?_)
    · refine AW.aload_n X (pc := 37) 0 rfl rfl d_L_told_37 ?_
      refine AW.get X (pc := 38) (k := 245) (ci := 0) (j := 2) (v := .ref 248) (by omega) rfl rfl in_L (by decide) wf_L_18 rfl rfl d_L_told_38 ?_
      refine AW.iload_n X (pc := 41) 1 rfl rfl d_L_told_41 ?_
      refine AW.ialdN X (pc := 42) (k := 248) (t := 0) (n := 60) (j := j) (by omega) rfl rfl (by omega) (by decide) d_L_told_42 ?_
      exact hret 43 _ _ _ d_L_told_43 ⟨by first | rfl | simp [bi, c_1, c_7, c_13, c_25], rfl⟩
    · refine AW.aload_n X (pc := 28) 0 rfl rfl d_L_told_28 ?_
      refine AW.get X (pc := 29) (k := 245) (ci := 0) (j := 1) (v := .ref 247) (by omega) rfl rfl in_L (by decide) wf_L_15 rfl rfl d_L_told_29 ?_
      refine AW.iload_n X (pc := 32) 1 rfl rfl d_L_told_32 ?_
      refine AW.ialdN X (pc := 33) (k := 247) (t := 0) (n := 60) (j := j) (by omega) rfl rfl (by omega) (by decide) d_L_told_33 ?_
      refine AW.goto X (pc := 34) 43 d_L_told_34 (by decide) ?_
      exact hret 43 _ _ _ d_L_told_43 ⟨by first | rfl | simp [bi, c_1, c_7, c_13, c_25], rfl⟩
  · refine AW.aload_n X (pc := 16) 0 rfl rfl d_L_told_16 ?_
    refine AW.get X (pc := 17) (k := 245) (ci := 0) (j := 0) (v := .ref 246) (by omega) rfl rfl in_L (by decide) wf_L_9 rfl rfl d_L_told_17 ?_
    refine AW.iload_n X (pc := 20) 1 rfl rfl d_L_told_20 ?_
    refine AW.ialdN X (pc := 21) (k := 246) (t := 0) (n := 60) (j := j) (by omega) rfl rfl (by omega) (by decide) d_L_told_21 ?_
    exact hret 22 _ _ _ d_L_told_22 ⟨by first | rfl | simp [bi, c_1, c_7, c_13], rfl⟩
set_option maxHeartbeats 4000000 in
set_option maxRecDepth 100000 in
theorem c_L_put (K : KTy) (j : Nat) (u dd a : Int32) (μ : Mu) (hN : 272 ≤ KN K) (hj : j < 60) : CT K y_L_put (k_L_put :: GT) 0 [.ref 245, .int (nI j), .int u, .int dd, .int a] μ (fun v μ2 => v = none ∧ μ2 = m_up (m_up (m_up μ 246 j u) 247 j dd) 248 j a) := by
  refine CT.void (cc := b_L_put) (maxL := 5) (by decide) rfl rfl (Nat.le_of_ble_eq_true rfl) ?_
  intro G ad N hK X hret
  subst hK
  have hN : 272 ≤ N := hN
  show AW G (rmD 0) 5 (0, 0, ad, N, fb) 0 [(0, .ref 245), (1, .int (nI j)), (2, .int u), (3, .int dd), (4, .int a)] [] μ
  refine AW.iload_n X (pc := 0) 1 rfl rfl d_L_put_0 ?_
  refine AW.if_lt X (pc := 1) 32 d_L_put_1 (by decide) (fun c_1 => absurd c_1 (by rw [i_lt (nI_toInt (show j < 2 ^ 31 by omega)) (show (0 : Int32).toInt = 0 by decide)]; omega)) (fun c_1 => ?_)
  refine AW.iload_n X (pc := 4) 1 rfl rfl d_L_put_4 ?_
  refine AW.bipush X (pc := 5) (v := 60) (by decide) d_L_put_5 ?_
  refine AW.icmp_ge X (pc := 7) 32 d_L_put_7 (by decide) (fun c_7 => absurd c_7 (by rw [i_le (show (60 : Int32).toInt = 60 by decide) (nI_toInt (show j < 2 ^ 31 by omega))]; omega)) (fun c_7 => ?_)
  refine AW.aload_n X (pc := 10) 0 rfl rfl d_L_put_10 ?_
  refine AW.get X (pc := 11) (k := 245) (ci := 0) (j := 0) (v := .ref 246) (by omega) rfl rfl in_L (by decide) wf_L_9 rfl rfl d_L_put_11 ?_
  refine AW.iload_n X (pc := 14) 1 rfl rfl d_L_put_14 ?_
  refine AW.iload_n X (pc := 15) 2 rfl rfl d_L_put_15 ?_
  refine AW.iastN X (pc := 16) (k := 246) (t := 0) (n := 60) (j := j) (x := u) (by omega) rfl rfl (by omega) (by decide) d_L_put_16 ?_
  refine AW.aload_n X (pc := 17) 0 rfl rfl d_L_put_17 ?_
  refine AW.get X (pc := 18) (k := 245) (ci := 0) (j := 1) (v := .ref 247) (by omega) rfl rfl in_L (by decide) wf_L_15 rfl rfl d_L_put_18 ?_
  refine AW.iload_n X (pc := 21) 1 rfl rfl d_L_put_21 ?_
  refine AW.iload_n X (pc := 22) 3 rfl rfl d_L_put_22 ?_
  refine AW.iastN X (pc := 23) (k := 247) (t := 0) (n := 60) (j := j) (x := dd) (by omega) rfl rfl (by omega) (by decide) d_L_put_23 ?_
  refine AW.aload_n X (pc := 24) 0 rfl rfl d_L_put_24 ?_
  refine AW.get X (pc := 25) (k := 245) (ci := 0) (j := 2) (v := .ref 248) (by omega) rfl rfl in_L (by decide) wf_L_18 rfl rfl d_L_put_25 ?_
  refine AW.iload_n X (pc := 28) 1 rfl rfl d_L_put_28 ?_
  refine AW.iload X (pc := 29) 4 rfl d_L_put_29 ?_
  refine AW.iastN X (pc := 31) (k := 248) (t := 0) (n := 60) (j := j) (x := a) (by omega) rfl rfl (by omega) (by decide) d_L_put_31 ?_
  exact hret 32 _ _ d_L_put_32 ⟨rfl, rfl⟩
set_option maxHeartbeats 4000000 in
set_option maxRecDepth 100000 in
theorem c_R_eventKind (K : KTy) (r : Nat) (μ : Mu) (hN : 272 ≤ KN K) (hr : 272 + 3 * r + 2 < KN K) : CT K y_R_eventKind (k_R_eventKind :: GT) 0 [.ref (272 + 3 * r)] μ (fun v μ2 => v = some (.int (μ (272 + 3 * r) 0)) ∧ μ2 = μ) := by
  refine CT.int (cc := b_R_eventKind) (maxL := 1) (by decide) rfl rfl (Nat.le_of_ble_eq_true rfl) ?_
  intro G ad N hK X hret
  subst hK
  have hN : 272 ≤ N := hN
  have hr : 272 + 3 * r + 2 < N := hr
  show AW G (rmD 0) 1 (0, 0, ad, N, fb) 0 [(0, .ref (272 + 3 * r))] [] μ
  refine AW.aload_n X (pc := 0) 0 rfl rfl d_R_eventKind_0 ?_
  refine AW.get X (pc := 1) (k := 272 + 3 * r) (ci := 1) (j := 0) (v := .int (μ (272 + 3 * r) 0)) (by omega) (sh_r _) rfl in_R (by decide) wf_R_18 rfl rfl d_R_eventKind_1 ?_
  exact hret 4 _ _ _ d_R_eventKind_4 ⟨by first | rfl | simp [bi], rfl⟩
set_option maxHeartbeats 4000000 in
set_option maxRecDepth 100000 in
theorem c_R_action (K : KTy) (r : Nat) (μ : Mu) (hN : 272 ≤ KN K) (hr : 272 + 3 * r + 2 < KN K) : CT K y_R_action (k_R_action :: GT) 0 [.ref (272 + 3 * r)] μ (fun v μ2 => v = some (.int (μ (272 + 3 * r) 2)) ∧ μ2 = μ) := by
  refine CT.int (cc := b_R_action) (maxL := 1) (by decide) rfl rfl (Nat.le_of_ble_eq_true rfl) ?_
  intro G ad N hK X hret
  subst hK
  have hN : 272 ≤ N := hN
  have hr : 272 + 3 * r + 2 < N := hr
  show AW G (rmD 0) 1 (0, 0, ad, N, fb) 0 [(0, .ref (272 + 3 * r))] [] μ
  refine AW.aload_n X (pc := 0) 0 rfl rfl d_R_action_0 ?_
  refine AW.get X (pc := 1) (k := 272 + 3 * r) (ci := 1) (j := 2) (v := .int (μ (272 + 3 * r) 2)) (by omega) (sh_r _) rfl in_R (by decide) wf_R_25 rfl rfl d_R_action_1 ?_
  exact hret 4 _ _ _ d_R_action_4 ⟨by first | rfl | simp [bi], rfl⟩
set_option maxHeartbeats 4000000 in
set_option maxRecDepth 100000 in
theorem c_R_isBroken (K : KTy) (r : Nat) (b : Bool) (μ : Mu) (hN : 272 ≤ KN K) (hr : 272 + 3 * r + 2 < KN K) (hb : μ (272 + 3 * r) 6 = bi b) : CT K y_R_isBroken (k_R_isBroken :: GT) 0 [.ref (272 + 3 * r)] μ (fun v μ2 => v = some (.int (bi b)) ∧ μ2 = μ) := by
  refine CT.bool (cc := b_R_isBroken) (maxL := 1) (by decide) rfl rfl (Nat.le_of_ble_eq_true rfl) ?_
  intro G ad N hK X hret
  subst hK
  have hN : 272 ≤ N := hN
  have hr : 272 + 3 * r + 2 < N := hr
  show AW G (rmD 0) 1 (0, 0, ad, N, fb) 0 [(0, .ref (272 + 3 * r))] [] μ
  refine AW.aload_n X (pc := 0) 0 rfl rfl d_R_isBroken_0 ?_
  refine AW.get X (pc := 1) (k := 272 + 3 * r) (ci := 1) (j := 6) (v := .int (μ (272 + 3 * r) 6)) (by omega) (sh_r _) rfl in_R (by decide) wf_R_28 rfl rfl d_R_isBroken_1 ?_
  exact hret 4 _ _ _ d_R_isBroken_4 (by rw [hb]; exact bi_nar _) ⟨by rw [hb], rfl⟩
set_option maxHeartbeats 4000000 in
set_option maxRecDepth 100000 in
theorem c_R_setBroken (K : KTy) (r : Nat) (b : Bool) (μ : Mu) (hN : 272 ≤ KN K) (hr : 272 + 3 * r + 2 < KN K) : CT K y_R_setBroken (k_R_setBroken :: GT) 0 [.ref (272 + 3 * r), .int (bi b)] μ (fun v μ2 => v = none ∧ μ2 = m_up μ (272 + 3 * r) 6 (bi b)) := by
  refine CT.void (cc := b_R_setBroken) (maxL := 2) (by decide) rfl rfl (Nat.le_of_ble_eq_true rfl) ?_
  intro G ad N hK X hret
  subst hK
  have hN : 272 ≤ N := hN
  have hr : 272 + 3 * r + 2 < N := hr
  show AW G (rmD 0) 2 (0, 0, ad, N, fb) 0 [(0, .ref (272 + 3 * r)), (1, .int (bi b))] [] μ
  refine AW.aload_n X (pc := 0) 0 rfl rfl d_R_setBroken_0 ?_
  refine AW.iload_n X (pc := 1) 1 rfl rfl d_R_setBroken_1 ?_
  refine AW.put X (pc := 2) (k := 272 + 3 * r) (ci := 1) (j := 6) (x := bi b) (ty := .boolean) ft_R (by omega) (sh_r _) rfl in_R ft_R_ok n_R (by decide) wf_R_28 rfl rfl rfl (bi_nar b) (by cases b <;> rfl) d_R_setBroken_2 ?_
  exact hret 5 _ _ d_R_setBroken_5 ⟨rfl, rfl⟩
set_option maxHeartbeats 4000000 in
set_option maxRecDepth 100000 in
theorem c_U_ruleCount (K : KTy) (i : Nat) (μ : Mu) (hN : 272 ≤ KN K) (hi : i < 60) : CT K y_U_ruleCount (k_U_ruleCount :: GT) 0 [.ref (5 + 4 * i)] μ (fun v μ2 => v = some (.int (μ (5 + 4 * i) 2)) ∧ μ2 = μ) := by
  refine CT.int (cc := b_U_ruleCount) (maxL := 1) (by decide) rfl rfl (Nat.le_of_ble_eq_true rfl) ?_
  intro G ad N hK X hret
  subst hK
  have hN : 272 ≤ N := hN
  show AW G (rmD 0) 1 (0, 0, ad, N, fb) 0 [(0, .ref (5 + 4 * i))] [] μ
  refine AW.aload_n X (pc := 0) 0 rfl rfl d_U_ruleCount_0 ?_
  refine AW.get X (pc := 1) (k := 5 + 4 * i) (ci := 3) (j := 2) (v := .int (μ (5 + 4 * i) 2)) (by omega) (sh_u hi) rfl in_U (by decide) wf_U_40 rfl rfl d_U_ruleCount_1 ?_
  exact hret 4 _ _ _ d_U_ruleCount_4 ⟨by first | rfl | simp [bi], rfl⟩
set_option maxHeartbeats 4000000 in
set_option maxRecDepth 100000 in
theorem c_U_approvalCount (K : KTy) (i : Nat) (μ : Mu) (hN : 272 ≤ KN K) (hi : i < 60) : CT K y_U_approvalCount (k_U_approvalCount :: GT) 0 [.ref (5 + 4 * i)] μ (fun v μ2 => v = some (.int (μ (5 + 4 * i) 5)) ∧ μ2 = μ) := by
  refine CT.int (cc := b_U_approvalCount) (maxL := 1) (by decide) rfl rfl (Nat.le_of_ble_eq_true rfl) ?_
  intro G ad N hK X hret
  subst hK
  have hN : 272 ≤ N := hN
  show AW G (rmD 0) 1 (0, 0, ad, N, fb) 0 [(0, .ref (5 + 4 * i))] [] μ
  refine AW.aload_n X (pc := 0) 0 rfl rfl d_U_approvalCount_0 ?_
  refine AW.get X (pc := 1) (k := 5 + 4 * i) (ci := 3) (j := 5) (v := .int (μ (5 + 4 * i) 5)) (by omega) (sh_u hi) rfl in_U (by decide) wf_U_71 rfl rfl d_U_approvalCount_1 ?_
  exact hret 4 _ _ _ d_U_approvalCount_4 ⟨by first | rfl | simp [bi], rfl⟩
set_option maxHeartbeats 4000000 in
set_option maxRecDepth 100000 in
theorem c_U_disposalDay (K : KTy) (i : Nat) (μ : Mu) (hN : 272 ≤ KN K) (hi : i < 60) : CT K y_U_disposalDay (k_U_disposalDay :: GT) 0 [.ref (5 + 4 * i)] μ (fun v μ2 => v = some (.int (μ (5 + 4 * i) 7)) ∧ μ2 = μ) := by
  refine CT.int (cc := b_U_disposalDay) (maxL := 1) (by decide) rfl rfl (Nat.le_of_ble_eq_true rfl) ?_
  intro G ad N hK X hret
  subst hK
  have hN : 272 ≤ N := hN
  show AW G (rmD 0) 1 (0, 0, ad, N, fb) 0 [(0, .ref (5 + 4 * i))] [] μ
  refine AW.aload_n X (pc := 0) 0 rfl rfl d_U_disposalDay_0 ?_
  refine AW.get X (pc := 1) (k := 5 + 4 * i) (ci := 3) (j := 7) (v := .int (μ (5 + 4 * i) 7)) (by omega) (sh_u hi) rfl in_U (by decide) wf_U_31 rfl rfl d_U_disposalDay_1 ?_
  exact hret 4 _ _ _ d_U_disposalDay_4 ⟨by first | rfl | simp [bi], rfl⟩
set_option maxHeartbeats 4000000 in
set_option maxRecDepth 100000 in
theorem c_U_certificateNumber (K : KTy) (i : Nat) (μ : Mu) (hN : 272 ≤ KN K) (hi : i < 60) : CT K y_U_certificateNumber (k_U_certificateNumber :: GT) 0 [.ref (5 + 4 * i)] μ (fun v μ2 => v = some (.int (μ (5 + 4 * i) 8)) ∧ μ2 = μ) := by
  refine CT.int (cc := b_U_certificateNumber) (maxL := 1) (by decide) rfl rfl (Nat.le_of_ble_eq_true rfl) ?_
  intro G ad N hK X hret
  subst hK
  have hN : 272 ≤ N := hN
  show AW G (rmD 0) 1 (0, 0, ad, N, fb) 0 [(0, .ref (5 + 4 * i))] [] μ
  refine AW.aload_n X (pc := 0) 0 rfl rfl d_U_certificateNumber_0 ?_
  refine AW.get X (pc := 1) (k := 5 + 4 * i) (ci := 3) (j := 8) (v := .int (μ (5 + 4 * i) 8)) (by omega) (sh_u hi) rfl in_U (by decide) wf_U_34 rfl rfl d_U_certificateNumber_1 ?_
  exact hret 4 _ _ _ d_U_certificateNumber_4 ⟨by first | rfl | simp [bi], rfl⟩
set_option maxHeartbeats 4000000 in
set_option maxRecDepth 100000 in
theorem c_U_isDisposed (K : KTy) (i : Nat) (μ : Mu) (hN : 272 ≤ KN K) (hi : i < 60) : CT K y_U_isDisposed (k_U_isDisposed :: GT) 0 [.ref (5 + 4 * i)] μ (fun v μ2 => v = some (.int (bi (decide (¬ μ (5 + 4 * i) 7 = -1)))) ∧ μ2 = μ) := by
  refine CT.bool (cc := b_U_isDisposed) (maxL := 1) (by decide) rfl rfl (Nat.le_of_ble_eq_true rfl) ?_
  intro G ad N hK X hret
  subst hK
  have hN : 272 ≤ N := hN
  show AW G (rmD 0) 1 (0, 0, ad, N, fb) 0 [(0, .ref (5 + 4 * i))] [] μ
  refine AW.aload_n X (pc := 0) 0 rfl rfl d_U_isDisposed_0 ?_
  refine AW.get X (pc := 1) (k := 5 + 4 * i) (ci := 3) (j := 7) (v := .int (μ (5 + 4 * i) 7)) (by omega) (sh_u hi) rfl in_U (by decide) wf_U_31 rfl rfl d_U_isDisposed_1 ?_
  refine AW.iconst X (pc := 4) (v := -1) (by decide) d_U_isDisposed_4 ?_
  refine AW.icmp_eq X (pc := 5) 12 d_U_isDisposed_5 (by decide) (fun c_5 => ?_) (fun c_5 => ?_)
  · refine AW.iconst X (pc := 12) (v := 0) (by decide) d_U_isDisposed_12 ?_
    exact hret 13 _ _ _ d_U_isDisposed_13 (by first | rfl | exact bi_nar _) ⟨by first | rfl | simp [bi, c_5], rfl⟩
  · refine AW.iconst X (pc := 8) (v := 1) (by decide) d_U_isDisposed_8 ?_
    refine AW.goto X (pc := 9) 13 d_U_isDisposed_9 (by decide) ?_
    exact hret 13 _ _ _ d_U_isDisposed_13 (by first | rfl | exact bi_nar _) ⟨by first | rfl | simp [bi, c_5], rfl⟩
set_option maxHeartbeats 4000000 in
set_option maxRecDepth 100000 in
theorem c_U_hasCertificate (K : KTy) (i : Nat) (μ : Mu) (hN : 272 ≤ KN K) (hi : i < 60) : CT K y_U_hasCertificate (k_U_hasCertificate :: GT) 0 [.ref (5 + 4 * i)] μ (fun v μ2 => v = some (.int (bi (decide (¬ μ (5 + 4 * i) 8 = -1)))) ∧ μ2 = μ) := by
  refine CT.bool (cc := b_U_hasCertificate) (maxL := 1) (by decide) rfl rfl (Nat.le_of_ble_eq_true rfl) ?_
  intro G ad N hK X hret
  subst hK
  have hN : 272 ≤ N := hN
  show AW G (rmD 0) 1 (0, 0, ad, N, fb) 0 [(0, .ref (5 + 4 * i))] [] μ
  refine AW.aload_n X (pc := 0) 0 rfl rfl d_U_hasCertificate_0 ?_
  refine AW.get X (pc := 1) (k := 5 + 4 * i) (ci := 3) (j := 8) (v := .int (μ (5 + 4 * i) 8)) (by omega) (sh_u hi) rfl in_U (by decide) wf_U_34 rfl rfl d_U_hasCertificate_1 ?_
  refine AW.iconst X (pc := 4) (v := -1) (by decide) d_U_hasCertificate_4 ?_
  refine AW.icmp_eq X (pc := 5) 12 d_U_hasCertificate_5 (by decide) (fun c_5 => ?_) (fun c_5 => ?_)
  · refine AW.iconst X (pc := 12) (v := 0) (by decide) d_U_hasCertificate_12 ?_
    exact hret 13 _ _ _ d_U_hasCertificate_13 (by first | rfl | exact bi_nar _) ⟨by first | rfl | simp [bi, c_5], rfl⟩
  · refine AW.iconst X (pc := 8) (v := 1) (by decide) d_U_hasCertificate_8 ?_
    refine AW.goto X (pc := 9) 13 d_U_hasCertificate_9 (by decide) ?_
    exact hret 13 _ _ _ d_U_hasCertificate_13 (by first | rfl | exact bi_nar _) ⟨by first | rfl | simp [bi, c_5], rfl⟩
set_option maxHeartbeats 4000000 in
set_option maxRecDepth 100000 in
theorem c_U_isApproved (K : KTy) (i : Nat) (μ : Mu) (hN : 272 ≤ KN K) (hi : i < 60) : CT K y_U_isApproved (k_U_isApproved :: GT) 0 [.ref (5 + 4 * i)] μ (fun v μ2 => v = some (.int (bi (decide (2 ≤ μ (5 + 4 * i) 5)))) ∧ μ2 = μ) := by
  refine CT.bool (cc := b_U_isApproved) (maxL := 1) (by decide) rfl rfl (Nat.le_of_ble_eq_true rfl) ?_
  intro G ad N hK X hret
  subst hK
  have hN : 272 ≤ N := hN
  show AW G (rmD 0) 1 (0, 0, ad, N, fb) 0 [(0, .ref (5 + 4 * i))] [] μ
  refine AW.aload_n X (pc := 0) 0 rfl rfl d_U_isApproved_0 ?_
  refine AW.get X (pc := 1) (k := 5 + 4 * i) (ci := 3) (j := 5) (v := .int (μ (5 + 4 * i) 5)) (by omega) (sh_u hi) rfl in_U (by decide) wf_U_71 rfl rfl d_U_isApproved_1 ?_
  refine AW.iconst X (pc := 4) (v := 2) (by decide) d_U_isApproved_4 ?_
  refine AW.icmp_lt X (pc := 5) 12 d_U_isApproved_5 (by decide) (fun c_5 => ?_) (fun c_5 => ?_)
  · refine AW.iconst X (pc := 12) (v := 0) (by decide) d_U_isApproved_12 ?_
    exact hret 13 _ _ _ d_U_isApproved_13 (by first | rfl | exact bi_nar _) ⟨by first | rfl | simp [bi, c_5], rfl⟩
  · refine AW.iconst X (pc := 8) (v := 1) (by decide) d_U_isApproved_8 ?_
    refine AW.goto X (pc := 9) 13 d_U_isApproved_9 (by decide) ?_
    exact hret 13 _ _ _ d_U_isApproved_13 (by first | rfl | exact bi_nar _) ⟨by first | rfl | simp [bi, c_5], rfl⟩
set_option maxHeartbeats 4000000 in
set_option maxRecDepth 100000 in
theorem c_U_isApprovedBy (K : KTy) (i : Nat) (p : Int32) (μ : Mu) (hN : 272 ≤ KN K) (hi : i < 60) : CT K y_U_isApprovedBy (k_U_isApprovedBy :: GT) 0 [.ref (5 + 4 * i), .int p] μ (fun v μ2 => v = some (.int (bi (decide (¬ μ (5 + 4 * i) 5 ≤ 0 ∧ μ (5 + 4 * i) 6 = p)))) ∧ μ2 = μ) := by
  refine CT.bool (cc := b_U_isApprovedBy) (maxL := 2) (by decide) rfl rfl (Nat.le_of_ble_eq_true rfl) ?_
  intro G ad N hK X hret
  subst hK
  have hN : 272 ≤ N := hN
  show AW G (rmD 0) 2 (0, 0, ad, N, fb) 0 [(0, .ref (5 + 4 * i)), (1, .int p)] [] μ
  refine AW.aload_n X (pc := 0) 0 rfl rfl d_U_isApprovedBy_0 ?_
  refine AW.get X (pc := 1) (k := 5 + 4 * i) (ci := 3) (j := 5) (v := .int (μ (5 + 4 * i) 5)) (by omega) (sh_u hi) rfl in_U (by decide) wf_U_71 rfl rfl d_U_isApprovedBy_1 ?_
  refine AW.if_le X (pc := 4) 19 d_U_isApprovedBy_4 (by decide) (fun c_4 => ?_) (fun c_4 => ?_)
  · refine AW.iconst X (pc := 19) (v := 0) (by decide) d_U_isApprovedBy_19 ?_
    exact hret 20 _ _ _ d_U_isApprovedBy_20 (by first | rfl | exact bi_nar _) ⟨by first | rfl | simp [bi, c_4], rfl⟩
  · refine AW.aload_n X (pc := 7) 0 rfl rfl d_U_isApprovedBy_7 ?_
    refine AW.get X (pc := 8) (k := 5 + 4 * i) (ci := 3) (j := 6) (v := .int (μ (5 + 4 * i) 6)) (by omega) (sh_u hi) rfl in_U (by decide) wf_U_28 rfl rfl d_U_isApprovedBy_8 ?_
    refine AW.iload_n X (pc := 11) 1 rfl rfl d_U_isApprovedBy_11 ?_
    refine AW.icmp_ne X (pc := 12) 19 d_U_isApprovedBy_12 (by decide) (fun c_12 => ?_) (fun c_12 => ?_)
    · refine AW.iconst X (pc := 19) (v := 0) (by decide) d_U_isApprovedBy_19 ?_
      exact hret 20 _ _ _ d_U_isApprovedBy_20 (by first | rfl | exact bi_nar _) ⟨by first | rfl | simp [bi, c_4, c_12], rfl⟩
    · refine AW.iconst X (pc := 15) (v := 1) (by decide) d_U_isApprovedBy_15 ?_
      refine AW.goto X (pc := 16) 20 d_U_isApprovedBy_16 (by decide) ?_
      exact hret 20 _ _ _ d_U_isApprovedBy_20 (by first | rfl | exact bi_nar _) ⟨by first | rfl | simp [bi, c_4, c_12], rfl⟩
set_option maxHeartbeats 4000000 in
set_option maxRecDepth 100000 in
theorem c_U_setDisposed (K : KTy) (i : Nat) (x : Int32) (μ : Mu) (hN : 272 ≤ KN K) (hi : i < 60) : CT K y_U_setDisposed (k_U_setDisposed :: GT) 0 [.ref (5 + 4 * i), .int x] μ (fun v μ2 => v = none ∧ μ2 = m_up μ (5 + 4 * i) 7 x) := by
  refine CT.void (cc := b_U_setDisposed) (maxL := 2) (by decide) rfl rfl (Nat.le_of_ble_eq_true rfl) ?_
  intro G ad N hK X hret
  subst hK
  have hN : 272 ≤ N := hN
  show AW G (rmD 0) 2 (0, 0, ad, N, fb) 0 [(0, .ref (5 + 4 * i)), (1, .int x)] [] μ
  refine AW.aload_n X (pc := 0) 0 rfl rfl d_U_setDisposed_0 ?_
  refine AW.iload_n X (pc := 1) 1 rfl rfl d_U_setDisposed_1 ?_
  refine AW.put X (pc := 2) (k := 5 + 4 * i) (ci := 3) (j := 7) (x := x) (ty := .int) ft_U (by omega) (sh_u hi) rfl in_U ft_U_ok n_U (by decide) wf_U_31 rfl rfl rfl rfl rfl d_U_setDisposed_2 ?_
  exact hret 5 _ _ d_U_setDisposed_5 ⟨rfl, rfl⟩
set_option maxHeartbeats 4000000 in
set_option maxRecDepth 100000 in
theorem c_U_setCertificate (K : KTy) (i : Nat) (x : Int32) (μ : Mu) (hN : 272 ≤ KN K) (hi : i < 60) : CT K y_U_setCertificate (k_U_setCertificate :: GT) 0 [.ref (5 + 4 * i), .int x] μ (fun v μ2 => v = none ∧ μ2 = m_up μ (5 + 4 * i) 8 x) := by
  refine CT.void (cc := b_U_setCertificate) (maxL := 2) (by decide) rfl rfl (Nat.le_of_ble_eq_true rfl) ?_
  intro G ad N hK X hret
  subst hK
  have hN : 272 ≤ N := hN
  show AW G (rmD 0) 2 (0, 0, ad, N, fb) 0 [(0, .ref (5 + 4 * i)), (1, .int x)] [] μ
  refine AW.aload_n X (pc := 0) 0 rfl rfl d_U_setCertificate_0 ?_
  refine AW.iload_n X (pc := 1) 1 rfl rfl d_U_setCertificate_1 ?_
  refine AW.put X (pc := 2) (k := 5 + 4 * i) (ci := 3) (j := 8) (x := x) (ty := .int) ft_U (by omega) (sh_u hi) rfl in_U ft_U_ok n_U (by decide) wf_U_34 rfl rfl rfl rfl rfl d_U_setCertificate_2 ?_
  exact hret 5 _ _ d_U_setCertificate_5 ⟨rfl, rfl⟩
set_option maxHeartbeats 4000000 in
set_option maxRecDepth 100000 in
theorem c_U_takeApprovalsAway (K : KTy) (i : Nat) (μ : Mu) (hN : 272 ≤ KN K) (hi : i < 60) : CT K y_U_takeApprovalsAway (k_U_takeApprovalsAway :: GT) 0 [.ref (5 + 4 * i)] μ (fun v μ2 => v = none ∧ μ2 = m_up μ (5 + 4 * i) 5 0) := by
  refine CT.void (cc := b_U_takeApprovalsAway) (maxL := 1) (by decide) rfl rfl (Nat.le_of_ble_eq_true rfl) ?_
  intro G ad N hK X hret
  subst hK
  have hN : 272 ≤ N := hN
  show AW G (rmD 0) 1 (0, 0, ad, N, fb) 0 [(0, .ref (5 + 4 * i))] [] μ
  refine AW.aload_n X (pc := 0) 0 rfl rfl d_U_takeApprovalsAway_0 ?_
  refine AW.iconst X (pc := 1) (v := 0) (by decide) d_U_takeApprovalsAway_1 ?_
  refine AW.put X (pc := 2) (k := 5 + 4 * i) (ci := 3) (j := 5) (x := 0) (ty := .int) ft_U (by omega) (sh_u hi) rfl in_U ft_U_ok n_U (by decide) wf_U_71 rfl rfl rfl rfl rfl d_U_takeApprovalsAway_2 ?_
  exact hret 5 _ _ d_U_takeApprovalsAway_5 ⟨rfl, rfl⟩
set_option maxHeartbeats 4000000 in
set_option maxRecDepth 100000 in
theorem c_U_setException (K : KTy) (i : Nat) (x : Int32) (μ : Mu) (hN : 272 ≤ KN K) (hi : i < 60) : CT K y_U_setException (k_U_setException :: GT) 1 [.ref (5 + 4 * i), .int x] μ (fun v μ2 => v = none ∧ μ2 = m_up (m_up μ (5 + 4 * i) 4 x) (5 + 4 * i) 5 0) := by
  refine CT.void (cc := b_U_setException) (maxL := 2) (by decide) rfl rfl (Nat.le_of_ble_eq_true rfl) ?_
  intro G ad N hK X hret
  subst hK
  have hN : 272 ≤ N := hN
  show AW G (rmD 1) 2 (0, 0, ad, N, fb) 0 [(0, .ref (5 + 4 * i)), (1, .int x)] [] μ
  refine AW.aload_n X (pc := 0) 0 rfl rfl d_U_setException_0 ?_
  refine AW.iload_n X (pc := 1) 1 rfl rfl d_U_setException_1 ?_
  refine AW.put X (pc := 2) (k := 5 + 4 * i) (ci := 3) (j := 4) (x := x) (ty := .int) ft_U (by omega) (sh_u hi) rfl in_U ft_U_ok n_U (by decide) wf_U_24 rfl rfl rfl rfl rfl d_U_setException_2 ?_
  refine AW.aload_n X (pc := 5) 0 rfl rfl d_U_setException_5 ?_
  refine AW.callV X (pc := 6) (b := 5 + 4 * i) (ci := 3) (nA := 0) [] [] (c_U_takeApprovalsAway (kOf G ad N) i (m_up μ (5 + 4 * i) 4 x) hN hi) (gv_V wm_U_37 wi_U_takeApprovalsAway wl_U_takeApprovalsAway wn_U kw_U_takeApprovalsAway) rfl (by decide +kernel) rfl (by omega) (sh_u hi) rfl ⟨Nat.le_of_ble_eq_true rfl, Nat.le_of_ble_eq_true rfl⟩ ⟨Nat.zero_le _, Nat.zero_le _⟩ (Nat.le_of_ble_eq_true rfl) d_U_setException_6 rfl (fun v μ2 hq => ?_)
  obtain ⟨rfl, hm⟩ := hq
  rw [hm]
  clear hm
  show AW G (rmD 1) 2 (0, 0, ad, N, fb) 9 [(0, .ref (5 + 4 * i)), (1, .int x)] [] (m_up (m_up μ (5 + 4 * i) 4 x) (5 + 4 * i) 5 0)
  exact hret 9 _ _ d_U_setException_9 ⟨rfl, rfl⟩
set_option maxHeartbeats 4000000 in
set_option maxRecDepth 100000 in
theorem c_U_setEvent (K : KTy) (i q : Nat) (x : Int32) (μ : Mu) (hN : 272 ≤ KN K) (hi : i < 60) (hq : q < 4) : CT K y_U_setEvent (k_U_setEvent :: GT) 1 [.ref (5 + 4 * i), .int (nI q), .int x] μ (fun v μ2 => v = none ∧ μ2 = m_up (m_up μ (5 + 4 * i + 1) q x) (5 + 4 * i) 5 0) := by
  refine CT.void (cc := b_U_setEvent) (maxL := 3) (by decide) rfl rfl (Nat.le_of_ble_eq_true rfl) ?_
  intro G ad N hK X hret
  subst hK
  have hN : 272 ≤ N := hN
  show AW G (rmD 1) 3 (0, 0, ad, N, fb) 0 [(0, .ref (5 + 4 * i)), (1, .int (nI q)), (2, .int x)] [] μ
  refine AW.iload_n X (pc := 0) 1 rfl rfl d_U_setEvent_0 ?_
  refine AW.if_lt X (pc := 1) 24 d_U_setEvent_1 (by decide) (fun c_1 => absurd c_1 (by rw [i_lt (nI_toInt (show q < 2 ^ 31 by omega)) (show (0 : Int32).toInt = 0 by decide)]; omega)) (fun c_1 => ?_)
  refine AW.iload_n X (pc := 4) 1 rfl rfl d_U_setEvent_4 ?_
  refine AW.aload_n X (pc := 5) 0 rfl rfl d_U_setEvent_5 ?_
  refine AW.get X (pc := 6) (k := 5 + 4 * i) (ci := 3) (j := 0) (v := .ref (5 + 4 * i + 1)) (by omega) (sh_u hi) rfl in_U (by decide) wf_U_9 rfl rfl d_U_setEvent_6 ?_
  refine AW.alen X (pc := 9) (k := 5 + 4 * i + 1) (t := 0) (n := 4) (kd := 0) (v := 4) (by omega) (sh_ue hi) rfl (by decide) d_U_setEvent_9 ?_
  refine AW.icmp_ge X (pc := 10) 24 d_U_setEvent_10 (by decide) (fun c_10 => absurd c_10 (by rw [i_le (show (4 : Int32).toInt = 4 by decide) (nI_toInt (show q < 2 ^ 31 by omega))]; omega)) (fun c_10 => ?_)
  refine AW.aload_n X (pc := 13) 0 rfl rfl d_U_setEvent_13 ?_
  refine AW.get X (pc := 14) (k := 5 + 4 * i) (ci := 3) (j := 0) (v := .ref (5 + 4 * i + 1)) (by omega) (sh_u hi) rfl in_U (by decide) wf_U_9 rfl rfl d_U_setEvent_14 ?_
  refine AW.iload_n X (pc := 17) 1 rfl rfl d_U_setEvent_17 ?_
  refine AW.iload_n X (pc := 18) 2 rfl rfl d_U_setEvent_18 ?_
  refine AW.iastN X (pc := 19) (k := 5 + 4 * i + 1) (t := 0) (n := 4) (j := q) (x := x) (by omega) (sh_ue hi) rfl (by omega) (by decide) d_U_setEvent_19 ?_
  refine AW.aload_n X (pc := 20) 0 rfl rfl d_U_setEvent_20 ?_
  refine AW.callV X (pc := 21) (b := 5 + 4 * i) (ci := 3) (nA := 0) [] [] (c_U_takeApprovalsAway (kOf G ad N) i (m_up μ (5 + 4 * i + 1) q x) hN hi) (gv_V wm_U_37 wi_U_takeApprovalsAway wl_U_takeApprovalsAway wn_U kw_U_takeApprovalsAway) rfl (by decide +kernel) rfl (by omega) (sh_u hi) rfl ⟨Nat.le_of_ble_eq_true rfl, Nat.le_of_ble_eq_true rfl⟩ ⟨Nat.zero_le _, Nat.zero_le _⟩ (Nat.le_of_ble_eq_true rfl) d_U_setEvent_21 rfl (fun v μ2 hq => ?_)
  obtain ⟨rfl, hm⟩ := hq
  rw [hm]
  clear hm
  show AW G (rmD 1) 3 (0, 0, ad, N, fb) 24 [(0, .ref (5 + 4 * i)), (1, .int (nI q)), (2, .int x)] [] (m_up (m_up μ (5 + 4 * i + 1) q x) (5 + 4 * i) 5 0)
  exact hret 24 _ _ d_U_setEvent_24 ⟨rfl, rfl⟩
set_option maxHeartbeats 4000000 in
set_option maxRecDepth 100000 in
theorem c_U_setHold (K : KTy) (i q : Nat) (x : Int32) (μ : Mu) (hN : 272 ≤ KN K) (hi : i < 60) (hq : q < 4) : CT K y_U_setHold (k_U_setHold :: GT) 1 [.ref (5 + 4 * i), .int (nI q), .int x] μ (fun v μ2 => v = none ∧ μ2 = m_up (m_up μ (5 + 4 * i + 3) q x) (5 + 4 * i) 5 0) := by
  refine CT.void (cc := b_U_setHold) (maxL := 3) (by decide) rfl rfl (Nat.le_of_ble_eq_true rfl) ?_
  intro G ad N hK X hret
  subst hK
  have hN : 272 ≤ N := hN
  show AW G (rmD 1) 3 (0, 0, ad, N, fb) 0 [(0, .ref (5 + 4 * i)), (1, .int (nI q)), (2, .int x)] [] μ
  refine AW.iload_n X (pc := 0) 1 rfl rfl d_U_setHold_0 ?_
  refine AW.if_lt X (pc := 1) 24 d_U_setHold_1 (by decide) (fun c_1 => absurd c_1 (by rw [i_lt (nI_toInt (show q < 2 ^ 31 by omega)) (show (0 : Int32).toInt = 0 by decide)]; omega)) (fun c_1 => ?_)
  refine AW.iload_n X (pc := 4) 1 rfl rfl d_U_setHold_4 ?_
  refine AW.aload_n X (pc := 5) 0 rfl rfl d_U_setHold_5 ?_
  refine AW.get X (pc := 6) (k := 5 + 4 * i) (ci := 3) (j := 3) (v := .ref (5 + 4 * i + 3)) (by omega) (sh_u hi) rfl in_U (by decide) wf_U_21 rfl rfl d_U_setHold_6 ?_
  refine AW.alen X (pc := 9) (k := 5 + 4 * i + 3) (t := 0) (n := 4) (kd := 0) (v := 4) (by omega) (sh_uh hi) rfl (by decide) d_U_setHold_9 ?_
  refine AW.icmp_ge X (pc := 10) 24 d_U_setHold_10 (by decide) (fun c_10 => absurd c_10 (by rw [i_le (show (4 : Int32).toInt = 4 by decide) (nI_toInt (show q < 2 ^ 31 by omega))]; omega)) (fun c_10 => ?_)
  refine AW.aload_n X (pc := 13) 0 rfl rfl d_U_setHold_13 ?_
  refine AW.get X (pc := 14) (k := 5 + 4 * i) (ci := 3) (j := 3) (v := .ref (5 + 4 * i + 3)) (by omega) (sh_u hi) rfl in_U (by decide) wf_U_21 rfl rfl d_U_setHold_14 ?_
  refine AW.iload_n X (pc := 17) 1 rfl rfl d_U_setHold_17 ?_
  refine AW.iload_n X (pc := 18) 2 rfl rfl d_U_setHold_18 ?_
  refine AW.iastN X (pc := 19) (k := 5 + 4 * i + 3) (t := 0) (n := 4) (j := q) (x := x) (by omega) (sh_uh hi) rfl (by omega) (by decide) d_U_setHold_19 ?_
  refine AW.aload_n X (pc := 20) 0 rfl rfl d_U_setHold_20 ?_
  refine AW.callV X (pc := 21) (b := 5 + 4 * i) (ci := 3) (nA := 0) [] [] (c_U_takeApprovalsAway (kOf G ad N) i (m_up μ (5 + 4 * i + 3) q x) hN hi) (gv_V wm_U_37 wi_U_takeApprovalsAway wl_U_takeApprovalsAway wn_U kw_U_takeApprovalsAway) rfl (by decide +kernel) rfl (by omega) (sh_u hi) rfl ⟨Nat.le_of_ble_eq_true rfl, Nat.le_of_ble_eq_true rfl⟩ ⟨Nat.zero_le _, Nat.zero_le _⟩ (Nat.le_of_ble_eq_true rfl) d_U_setHold_21 rfl (fun v μ2 hq => ?_)
  obtain ⟨rfl, hm⟩ := hq
  rw [hm]
  clear hm
  show AW G (rmD 1) 3 (0, 0, ad, N, fb) 24 [(0, .ref (5 + 4 * i)), (1, .int (nI q)), (2, .int x)] [] (m_up (m_up μ (5 + 4 * i + 3) q x) (5 + 4 * i) 5 0)
  exact hret 24 _ _ d_U_setHold_24 ⟨rfl, rfl⟩
set_option maxHeartbeats 4000000 in
set_option maxRecDepth 100000 in
theorem c_U_eventDay (K : KTy) (i q : Nat) (μ : Mu) (hN : 272 ≤ KN K) (hi : i < 60) (hq : q < 4) : CT K y_U_eventDay (k_U_eventDay :: GT) 0 [.ref (5 + 4 * i), .int (nI q)] μ (fun v μ2 => v = some (.int (μ (5 + 4 * i + 1) q)) ∧ μ2 = μ) := by
  refine CT.int (cc := b_U_eventDay) (maxL := 2) (by decide) rfl rfl (Nat.le_of_ble_eq_true rfl) ?_
  intro G ad N hK X hret
  subst hK
  have hN : 272 ≤ N := hN
  show AW G (rmD 0) 2 (0, 0, ad, N, fb) 0 [(0, .ref (5 + 4 * i)), (1, .int (nI q))] [] μ
  refine AW.iload_n X (pc := 0) 1 rfl rfl d_U_eventDay_0 ?_
  refine AW.if_lt X (pc := 1) 22 d_U_eventDay_1 (by decide) (fun c_1 => absurd c_1 (by rw [i_lt (nI_toInt (show q < 2 ^ 31 by omega)) (show (0 : Int32).toInt = 0 by decide)]; omega)) (fun c_1 => ?_)
  refine AW.iload_n X (pc := 4) 1 rfl rfl d_U_eventDay_4 ?_
  refine AW.aload_n X (pc := 5) 0 rfl rfl d_U_eventDay_5 ?_
  refine AW.get X (pc := 6) (k := 5 + 4 * i) (ci := 3) (j := 0) (v := .ref (5 + 4 * i + 1)) (by omega) (sh_u hi) rfl in_U (by decide) wf_U_9 rfl rfl d_U_eventDay_6 ?_
  refine AW.alen X (pc := 9) (k := 5 + 4 * i + 1) (t := 0) (n := 4) (kd := 0) (v := 4) (by omega) (sh_ue hi) rfl (by decide) d_U_eventDay_9 ?_
  refine AW.icmp_ge X (pc := 10) 22 d_U_eventDay_10 (by decide) (fun c_10 => absurd c_10 (by rw [i_le (show (4 : Int32).toInt = 4 by decide) (nI_toInt (show q < 2 ^ 31 by omega))]; omega)) (fun c_10 => ?_)
  refine AW.aload_n X (pc := 13) 0 rfl rfl d_U_eventDay_13 ?_
  refine AW.get X (pc := 14) (k := 5 + 4 * i) (ci := 3) (j := 0) (v := .ref (5 + 4 * i + 1)) (by omega) (sh_u hi) rfl in_U (by decide) wf_U_9 rfl rfl d_U_eventDay_14 ?_
  refine AW.iload_n X (pc := 17) 1 rfl rfl d_U_eventDay_17 ?_
  refine AW.ialdN X (pc := 18) (k := 5 + 4 * i + 1) (t := 0) (n := 4) (j := q) (by omega) (sh_ue hi) rfl (by omega) (by decide) d_U_eventDay_18 ?_
  refine AW.goto X (pc := 19) 23 d_U_eventDay_19 (by decide) ?_
  exact hret 23 _ _ _ d_U_eventDay_23 ⟨by first | rfl | simp [bi, c_1, c_10], rfl⟩
set_option maxHeartbeats 4000000 in
set_option maxRecDepth 100000 in
theorem c_U_addApproval (K : KTy) (i : Nat) (p : Int32) (μ : Mu) (hN : 272 ≤ KN K) (hi : i < 60) : CT K y_U_addApproval (k_U_addApproval :: GT) 0 [.ref (5 + 4 * i), .int p] μ (fun v μ2 => v = none ∧ μ2 = if μ (5 + 4 * i) 5 = 0 then m_up (m_up μ (5 + 4 * i) 6 p) (5 + 4 * i) 5 (m_up μ (5 + 4 * i) 6 p (5 + 4 * i) 5 + 1) else m_up μ (5 + 4 * i) 5 (μ (5 + 4 * i) 5 + 1)) := by
  refine CT.void (cc := b_U_addApproval) (maxL := 2) (by decide) rfl rfl (Nat.le_of_ble_eq_true rfl) ?_
  intro G ad N hK X hret
  subst hK
  have hN : 272 ≤ N := hN
  show AW G (rmD 0) 2 (0, 0, ad, N, fb) 0 [(0, .ref (5 + 4 * i)), (1, .int p)] [] μ
  refine AW.aload_n X (pc := 0) 0 rfl rfl d_U_addApproval_0 ?_
  refine AW.get X (pc := 1) (k := 5 + 4 * i) (ci := 3) (j := 5) (v := .int (μ (5 + 4 * i) 5)) (by omega) (sh_u hi) rfl in_U (by decide) wf_U_71 rfl rfl d_U_addApproval_1 ?_
  refine AW.if_ne X (pc := 4) 12 d_U_addApproval_4 (by decide) (fun c_4 => ?_) (fun c_4 => ?_)
  · refine AW.aload_n X (pc := 12) 0 rfl rfl d_U_addApproval_12 ?_
    refine AW.dup X (pc := 13) rfl d_U_addApproval_13 ?_
    refine AW.get X (pc := 14) (k := 5 + 4 * i) (ci := 3) (j := 5) (v := .int (μ (5 + 4 * i) 5)) (by omega) (sh_u hi) rfl in_U (by decide) wf_U_71 rfl rfl d_U_addApproval_14 ?_
    refine AW.iconst X (pc := 17) (v := 1) (by decide) d_U_addApproval_17 ?_
    refine AW.iadd X (pc := 18) d_U_addApproval_18 ?_
    refine AW.put X (pc := 19) (k := 5 + 4 * i) (ci := 3) (j := 5) (x := (μ (5 + 4 * i) 5) + 1) (ty := .int) ft_U (by omega) (sh_u hi) rfl in_U ft_U_ok n_U (by decide) wf_U_71 rfl rfl rfl rfl rfl d_U_addApproval_19 ?_
    exact hret 22 _ _ d_U_addApproval_22 ⟨rfl, by simp [c_4]⟩
  · refine AW.aload_n X (pc := 7) 0 rfl rfl d_U_addApproval_7 ?_
    refine AW.iload_n X (pc := 8) 1 rfl rfl d_U_addApproval_8 ?_
    refine AW.put X (pc := 9) (k := 5 + 4 * i) (ci := 3) (j := 6) (x := p) (ty := .int) ft_U (by omega) (sh_u hi) rfl in_U ft_U_ok n_U (by decide) wf_U_28 rfl rfl rfl rfl rfl d_U_addApproval_9 ?_
    refine AW.aload_n X (pc := 12) 0 rfl rfl d_U_addApproval_12 ?_
    refine AW.dup X (pc := 13) rfl d_U_addApproval_13 ?_
    refine AW.get X (pc := 14) (k := 5 + 4 * i) (ci := 3) (j := 5) (v := .int ((m_up μ (5 + 4 * i) 6 p) (5 + 4 * i) 5)) (by omega) (sh_u hi) rfl in_U (by decide) wf_U_71 rfl rfl d_U_addApproval_14 ?_
    refine AW.iconst X (pc := 17) (v := 1) (by decide) d_U_addApproval_17 ?_
    refine AW.iadd X (pc := 18) d_U_addApproval_18 ?_
    refine AW.put X (pc := 19) (k := 5 + 4 * i) (ci := 3) (j := 5) (x := ((m_up μ (5 + 4 * i) 6 p) (5 + 4 * i) 5) + 1) (ty := .int) ft_U (by omega) (sh_u hi) rfl in_U ft_U_ok n_U (by decide) wf_U_71 rfl rfl rfl rfl rfl d_U_addApproval_19 ?_
    exact hret 22 _ _ d_U_addApproval_22 ⟨rfl, by simp [c_4]⟩
