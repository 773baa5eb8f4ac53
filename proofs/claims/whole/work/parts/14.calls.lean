set_option maxHeartbeats 4000000 in
set_option maxRecDepth 100000 in
theorem c_C_findUnit (K : KTy) (i nr : Nat) (μ : Mu) (hN : 272 ≤ KN K) (hi : i < 60) (hI : CI μ nr) (hKN : KN K = 272 + 3 * nr) : CT K y_C_findUnit (k_C_findUnit :: GT) 0 [.ref 0, .int (nI i)] μ (fun v μ2 => v = some (.ref (5 + 4 * i)) ∧ μ2 = μ) := by
  refine CT.ref (cc := b_C_findUnit) (maxL := 2) (by decide) rfl rfl (Nat.le_of_ble_eq_true rfl) ?_
  intro G ad N hK X hret
  subst hK
  have hN : 272 ≤ N := hN
  have hKN : N = 272 + 3 * nr := hKN
  have hnr := hI.nr
  show AW G (rmD 0) 2 (0, 0, ad, N, fb) 0 [(0, .ref 0), (1, .int (nI i))] [] μ
  refine AW.iload_n X (pc := 0) 1 rfl rfl d_C_findUnit_0 ?_
  refine AW.if_lt X (pc := 1) 22 d_C_findUnit_1 (by decide) (fun c_1 => absurd c_1 (by rw [i_lt (nI_toInt (show i < 2 ^ 31 by omega)) (show (0 : Int32).toInt = 0 by decide)]; omega)) (fun c_1 => ?_)
  refine AW.iload_n X (pc := 4) 1 rfl rfl d_C_findUnit_4 ?_
  refine AW.aload_n X (pc := 5) 0 rfl rfl d_C_findUnit_5 ?_
  refine AW.get X (pc := 6) (k := 0) (ci := 4) (j := 3) (v := .ref 4) (by omega) rfl rfl in_C (by decide) wf_C_24 rfl rfl d_C_findUnit_6 ?_
  refine AW.alen X (pc := 9) (k := 4) (t := 3) (n := 60) (kd := 2) (v := 60) (by omega) rfl rfl (by decide) d_C_findUnit_9 ?_
  refine AW.icmp_ge X (pc := 10) 22 d_C_findUnit_10 (by decide) (fun c_10 => absurd c_10 (by rw [i_le (show (60 : Int32).toInt = 60 by decide) (nI_toInt (show i < 2 ^ 31 by omega))]; omega)) (fun c_10 => ?_)
  refine AW.aload_n X (pc := 13) 0 rfl rfl d_C_findUnit_13 ?_
  refine AW.get X (pc := 14) (k := 0) (ci := 4) (j := 3) (v := .ref 4) (by omega) rfl rfl in_C (by decide) wf_C_24 rfl rfl d_C_findUnit_14 ?_
  refine AW.iload_n X (pc := 17) 1 rfl rfl d_C_findUnit_17 ?_
  refine AW.aaldN X (pc := 18) (k := 4) (t := 3) (n := 60) (j := i) (v := .ref (5 + 4 * i)) (by omega) rfl rfl (by omega) (by decide) (by rw [hI.un hi]; exact m_rv_nI (by omega)) d_C_findUnit_18 ?_
  refine AW.goto X (pc := 19) 23 d_C_findUnit_19 (by decide) ?_
  exact hret 23 _ _ _ d_C_findUnit_23 (by first | exact Or.inl rfl | exact Or.inr ⟨_, rfl⟩) ⟨by first | rfl | simp [bi, c_1, c_10], rfl⟩
set_option maxHeartbeats 4000000 in
set_option maxRecDepth 100000 in
theorem c_C_findUnit_no (K : KTy) (u : Int32) (μ : Mu) (hN : 272 ≤ KN K) (hU : okU u = false) : CT K y_C_findUnit (k_C_findUnit :: GT) 0 [.ref 0, .int u] μ (fun v μ2 => v = some .null ∧ μ2 = μ) := by
  refine CT.ref (cc := b_C_findUnit) (maxL := 2) (by decide) rfl rfl (Nat.le_of_ble_eq_true rfl) ?_
  intro G ad N hK X hret
  subst hK
  have hN : 272 ≤ N := hN
  show AW G (rmD 0) 2 (0, 0, ad, N, fb) 0 [(0, .ref 0), (1, .int u)] [] μ
  refine AW.iload_n X (pc := 0) 1 rfl rfl d_C_findUnit_0 ?_
  refine AW.if_lt X (pc := 1) 22 d_C_findUnit_1 (by decide) (fun c_1 => ?_) (fun c_1 => ?_)
  · refine AW.aconst_null X (pc := 22) d_C_findUnit_22 ?_
    exact hret 23 _ _ _ d_C_findUnit_23 (Or.inl rfl) ⟨rfl, rfl⟩
  · refine AW.iload_n X (pc := 4) 1 rfl rfl d_C_findUnit_4 ?_
    refine AW.aload_n X (pc := 5) 0 rfl rfl d_C_findUnit_5 ?_
    refine AW.get X (pc := 6) (k := 0) (ci := 4) (j := 3) (v := .ref 4) (by omega) rfl rfl in_C (by decide) wf_C_24 rfl rfl d_C_findUnit_6 ?_
    refine AW.alen X (pc := 9) (k := 4) (t := 3) (n := 60) (kd := 2) (v := 60) (by omega) rfl rfl (by decide) d_C_findUnit_9 ?_
    refine AW.icmp_ge X (pc := 10) 22 d_C_findUnit_10 (by decide) (fun c_10 => ?_) (fun c_10 => ?_)
    · refine AW.aconst_null X (pc := 22) d_C_findUnit_22 ?_
      exact hret 23 _ _ _ d_C_findUnit_23 (Or.inl rfl) ⟨rfl, rfl⟩
    · exact absurd hU (by simp [okU, c_1, c_10])
set_option maxHeartbeats 4000000 in
set_option maxRecDepth 100000 in
theorem c_C_findRule (K : KTy) (r nr : Nat) (μ : Mu) (hN : 272 ≤ KN K) (hr : r < nr) (hI : CI μ nr) (hKN : KN K = 272 + 3 * nr) : CT K y_C_findRule (k_C_findRule :: GT) 0 [.ref 0, .int (nI r)] μ (fun v μ2 => v = some (.ref (272 + 3 * r)) ∧ μ2 = μ) := by
  refine CT.ref (cc := b_C_findRule) (maxL := 2) (by decide) rfl rfl (Nat.le_of_ble_eq_true rfl) ?_
  intro G ad N hK X hret
  subst hK
  have hN : 272 ≤ N := hN
  have hKN : N = 272 + 3 * nr := hKN
  have hnr := hI.nr
  show AW G (rmD 0) 2 (0, 0, ad, N, fb) 0 [(0, .ref 0), (1, .int (nI r))] [] μ
  refine AW.iload_n X (pc := 0) 1 rfl rfl d_C_findRule_0 ?_
  refine AW.if_lt X (pc := 1) 30 d_C_findRule_1 (by decide) (fun c_1 => absurd c_1 (by rw [i_lt (nI_toInt (show r < 2 ^ 31 by omega)) (show (0 : Int32).toInt = 0 by decide)]; omega)) (fun c_1 => ?_)
  refine AW.iload_n X (pc := 4) 1 rfl rfl d_C_findRule_4 ?_
  refine AW.aload_n X (pc := 5) 0 rfl rfl d_C_findRule_5 ?_
  refine AW.get X (pc := 6) (k := 0) (ci := 4) (j := 2) (v := .int (μ 0 2)) (by omega) rfl rfl in_C (by decide) wf_C_55 rfl rfl d_C_findRule_6 ?_
  refine AW.val (w := .int (nI nr)) (congrArg Value.int (hI.rc)) ?_
  refine AW.icmp_ge X (pc := 9) 30 d_C_findRule_9 (by decide) (fun c_9 => absurd c_9 (by rw [i_le (nI_toInt (show nr < 2 ^ 31 by omega)) (nI_toInt (show r < 2 ^ 31 by omega))]; omega)) (fun c_9 => ?_)
  refine AW.iload_n X (pc := 12) 1 rfl rfl d_C_findRule_12 ?_
  refine AW.aload_n X (pc := 13) 0 rfl rfl d_C_findRule_13 ?_
  refine AW.get X (pc := 14) (k := 0) (ci := 4) (j := 1) (v := .ref 3) (by omega) rfl rfl in_C (by decide) wf_C_18 rfl rfl d_C_findRule_14 ?_
  refine AW.alen X (pc := 17) (k := 3) (t := 2) (n := 20) (kd := 2) (v := 20) (by omega) rfl rfl (by decide) d_C_findRule_17 ?_
  refine AW.icmp_ge X (pc := 18) 30 d_C_findRule_18 (by decide) (fun c_18 => absurd c_18 (by rw [i_le (show (20 : Int32).toInt = 20 by decide) (nI_toInt (show r < 2 ^ 31 by omega))]; omega)) (fun c_18 => ?_)
  refine AW.aload_n X (pc := 21) 0 rfl rfl d_C_findRule_21 ?_
  refine AW.get X (pc := 22) (k := 0) (ci := 4) (j := 1) (v := .ref 3) (by omega) rfl rfl in_C (by decide) wf_C_18 rfl rfl d_C_findRule_22 ?_
  refine AW.iload_n X (pc := 25) 1 rfl rfl d_C_findRule_25 ?_
  refine AW.aaldN X (pc := 26) (k := 3) (t := 2) (n := 20) (j := r) (v := .ref (272 + 3 * r)) (by omega) rfl rfl (by omega) (by decide) (by rw [hI.ru hr]; exact m_rv_nI (by omega)) d_C_findRule_26 ?_
  refine AW.goto X (pc := 27) 31 d_C_findRule_27 (by decide) ?_
  exact hret 31 _ _ _ d_C_findRule_31 (by first | exact Or.inl rfl | exact Or.inr ⟨_, rfl⟩) ⟨by first | rfl | simp [bi, c_1, c_9, c_18], rfl⟩
set_option maxHeartbeats 4000000 in
set_option maxRecDepth 100000 in
theorem c_C_findRule_no (K : KTy) (nr : Nat) (u : Int32) (μ : Mu) (hN : 272 ≤ KN K) (hU : okR nr u = false) (hI : CI μ nr) (hKN : KN K = 272 + 3 * nr) : CT K y_C_findRule (k_C_findRule :: GT) 0 [.ref 0, .int u] μ (fun v μ2 => v = some .null ∧ μ2 = μ) := by
  refine CT.ref (cc := b_C_findRule) (maxL := 2) (by decide) rfl rfl (Nat.le_of_ble_eq_true rfl) ?_
  intro G ad N hK X hret
  subst hK
  have hN : 272 ≤ N := hN
  have hKN : N = 272 + 3 * nr := hKN
  have hnr := hI.nr
  show AW G (rmD 0) 2 (0, 0, ad, N, fb) 0 [(0, .ref 0), (1, .int u)] [] μ
  refine AW.iload_n X (pc := 0) 1 rfl rfl d_C_findRule_0 ?_
  refine AW.if_lt X (pc := 1) 30 d_C_findRule_1 (by decide) (fun c_1 => ?_) (fun c_1 => ?_)
  · refine AW.aconst_null X (pc := 30) d_C_findRule_30 ?_
    exact hret 31 _ _ _ d_C_findRule_31 (Or.inl rfl) ⟨rfl, rfl⟩
  · refine AW.iload_n X (pc := 4) 1 rfl rfl d_C_findRule_4 ?_
    refine AW.aload_n X (pc := 5) 0 rfl rfl d_C_findRule_5 ?_
    refine AW.get X (pc := 6) (k := 0) (ci := 4) (j := 2) (v := .int (μ 0 2)) (by omega) rfl rfl in_C (by decide) wf_C_55 rfl rfl d_C_findRule_6 ?_
    refine AW.val (w := .int (nI nr)) (congrArg Value.int (hI.rc)) ?_
    refine AW.icmp_ge X (pc := 9) 30 d_C_findRule_9 (by decide) (fun c_9 => ?_) (fun c_9 => ?_)
    · refine AW.aconst_null X (pc := 30) d_C_findRule_30 ?_
      exact hret 31 _ _ _ d_C_findRule_31 (Or.inl rfl) ⟨rfl, rfl⟩
    · exact absurd hU (by simp [okR, c_1, c_9])
set_option maxHeartbeats 4000000 in
set_option maxRecDepth 100000 in
theorem c_C_isDay (K : KTy) (d : Int32) (μ : Mu) (hN : 272 ≤ KN K)  : CT K y_C_isDay (k_C_isDay :: GT) 0 [.int d] μ (fun v μ2 => v = some (.int (bi (okD d))) ∧ μ2 = μ) := by
  refine CT.bool (cc := b_C_isDay) (maxL := 1) (by decide) rfl rfl (Nat.le_of_ble_eq_true rfl) ?_
  intro G ad N hK X hret
  subst hK
  have hN : 272 ≤ N := hN
  show AW G (rmD 0) 1 (0, 0, ad, N, fb) 0 [(0, .int d)] [] μ
  refine AW.iload_n X (pc := 0) 0 rfl rfl d_C_isDay_0 ?_
  refine AW.if_lt X (pc := 1) 14 d_C_isDay_1 (by decide) (fun c_1 => ?_) (fun c_1 => ?_)
  · refine AW.iconst X (pc := 14) (v := 0) (by decide) d_C_isDay_14 ?_
    exact hret 15 _ _ _ d_C_isDay_15 (by first | rfl | exact bi_nar _) ⟨by first | rfl | simp [bi, okD, c_1], rfl⟩
  · refine AW.iload_n X (pc := 4) 0 rfl rfl d_C_isDay_4 ?_
    refine AW.ldc X (pc := 5) (v := 1000000) (by decide +kernel) d_C_isDay_5 ?_
    refine AW.icmp_gt X (pc := 7) 14 d_C_isDay_7 (by decide) (fun c_7 => ?_) (fun c_7 => ?_)
    · refine AW.iconst X (pc := 14) (v := 0) (by decide) d_C_isDay_14 ?_
      exact hret 15 _ _ _ d_C_isDay_15 (by first | rfl | exact bi_nar _) ⟨by first | rfl | simp [bi, okD, c_1, c_7], rfl⟩
    · refine AW.iconst X (pc := 10) (v := 1) (by decide) d_C_isDay_10 ?_
      refine AW.goto X (pc := 11) 15 d_C_isDay_11 (by decide) ?_
      exact hret 15 _ _ _ d_C_isDay_15 (by first | rfl | exact bi_nar _) ⟨by first | rfl | simp [bi, okD, c_1, c_7], rfl⟩
set_option maxHeartbeats 4000000 in
set_option maxRecDepth 100000 in
theorem c_C_event (K : KTy) (nr : Nat) (u k d : Int32) (μ : Mu) (hN : 272 ≤ KN K) (hI : CI μ nr) (hKN : KN K = 272 + 3 * nr) : CT K y_C_event (k_C_event :: GT) 2 [.ref 0, .int u, .int k, .int d] μ (fun v μ2 => v = some (.int (F_event μ u k d).1) ∧ μ2 = (F_event μ u k d).2) := by
  refine CT.int (cc := b_C_event) (maxL := 5) (by decide) rfl rfl (Nat.le_of_ble_eq_true rfl) ?_
  intro G ad N hK X hret
  subst hK
  have hN : 272 ≤ N := hN
  have hKN : N = 272 + 3 * nr := hKN
  have hnr := hI.nr
  show AW G (rmD 2) 5 (0, 0, ad, N, fb) 0 [(0, .ref 0), (1, .int u), (2, .int k), (3, .int d)] [] μ
  cases hU : okU u with
  | false =>
    refine AW.aload_n X (pc := 0) 0 rfl rfl d_C_event_0 ?_
    refine AW.iload_n X (pc := 1) 1 rfl rfl d_C_event_1 ?_
    refine AW.callV X (pc := 2) (b := 0) (ci := 4) (nA := 1) [.int u] [] (c_C_findUnit_no (kOf G ad N) u μ hN hU) (gv_V wm_C_93 wi_C_findUnit wl_C_findUnit wn_C kw_C_findUnit) rfl (by decide +kernel) rfl (by omega) rfl rfl ⟨Nat.le_of_ble_eq_true rfl, Nat.le_of_ble_eq_true rfl⟩ ⟨Nat.zero_le _, Nat.zero_le _⟩ (Nat.le_of_ble_eq_true rfl) d_C_event_2 rfl (fun v μ2 hq => ?_)
    obtain ⟨rfl, hm⟩ := hq
    rw [hm]
    clear hm
    show AW G (rmD 2) 5 (0, 0, ad, N, fb) 5 [(0, .ref 0), (1, .int u), (2, .int k), (3, .int d)] [.null] μ
    refine AW.astoreN X (pc := 5) (lv2 := [(4, .null), (0, .ref 0), (1, .int u), (2, .int k), (3, .int d)]) d_C_event_5 (by decide) rfl ?_
    refine AW.aloadN X (pc := 7) 0 rfl d_C_event_7 ?_
    refine AW.ifnonnullN X (pc := 9) d_C_event_9 ?_
    refine AW.iconst X (pc := 12) (v := -1) (by decide) d_C_event_12 ?_
    exact hret 13 _ _ _ d_C_event_13 (by rw [show F_event μ u k d = (-1, μ) by simp [F_event, hU]]; exact ⟨rfl, rfl⟩)
  | true =>
    obtain ⟨i, hi, rfl⟩ := okU_of hU
    have hci : (nI i).toNatClampNeg = i := nI_clamp (by omega)
    show AW G (rmD 2) 5 (0, 0, ad, N, fb) 0 [(0, .ref 0), (1, .int (nI i)), (2, .int k), (3, .int d)] [] μ
    refine AW.aload_n X (pc := 0) 0 rfl rfl d_C_event_0 ?_
    refine AW.iload_n X (pc := 1) 1 rfl rfl d_C_event_1 ?_
    refine AW.callV X (pc := 2) (b := 0) (ci := 4) (nA := 1) [.int (nI i)] [] (c_C_findUnit (kOf G ad N) i nr μ hN hi hI hKN) (gv_V wm_C_93 wi_C_findUnit wl_C_findUnit wn_C kw_C_findUnit) rfl (by decide +kernel) rfl (by omega) rfl rfl ⟨Nat.le_of_ble_eq_true rfl, Nat.le_of_ble_eq_true rfl⟩ ⟨Nat.zero_le _, Nat.zero_le _⟩ (Nat.le_of_ble_eq_true rfl) d_C_event_2 rfl (fun v μ2 hq => ?_)
    obtain ⟨rfl, hm⟩ := hq
    rw [hm]
    clear hm
    show AW G (rmD 2) 5 (0, 0, ad, N, fb) 5 [(0, .ref 0), (1, .int (nI i)), (2, .int k), (3, .int d)] [.ref (5 + 4 * i)] μ
    refine AW.astore X (pc := 5) (lv2 := [(4, .ref (5 + 4 * i)), (0, .ref 0), (1, .int (nI i)), (2, .int k), (3, .int d)]) d_C_event_5 (by decide) rfl ?_
    refine AW.aload X (pc := 7) 0 rfl d_C_event_7 ?_
    refine AW.ifnonnull X (pc := 9) 14 d_C_event_9 (by decide) ?_
    refine AW.iload_n X (pc := 14) 3 rfl rfl d_C_event_14 ?_
    refine AW.if_lt X (pc := 15) 30 d_C_event_15 (by decide) (fun c_15 => ?_) (fun c_15 => ?_)
    · refine AW.bipush X (pc := 30) (v := -2) (by decide) d_C_event_30 ?_
      exact hret 32 _ _ _ d_C_event_32 (by rw [show F_event μ (nI i) k d = (-2, μ) by simp [F_event, hU, hci, c_15]]; exact ⟨rfl, rfl⟩)
    · refine AW.iload_n X (pc := 18) 3 rfl rfl d_C_event_18 ?_
      refine AW.iconst X (pc := 19) (v := 4) (by decide) d_C_event_19 ?_
      refine AW.icmp_ge X (pc := 20) 30 d_C_event_20 (by decide) (fun c_20 => ?_) (fun c_20 => ?_)
      · refine AW.bipush X (pc := 30) (v := -2) (by decide) d_C_event_30 ?_
        exact hret 32 _ _ _ d_C_event_32 (by rw [show F_event μ (nI i) k d = (-2, μ) by simp [F_event, hU, hci, c_15, c_20]]; exact ⟨rfl, rfl⟩)
      · obtain ⟨q, hq, rfl⟩ := ofIx (n := 4) (M := 4) (by decide) (by decide) c_15 c_20
        have hcq : (nI q).toNatClampNeg = q := nI_clamp (by omega)
        refine AW.iload_n X (pc := 23) 4 rfl rfl d_C_event_23 ?_
        refine AW.callS X (pc := 24) (nA := 1) [.int d] [] (c_C_isDay (kOf G ad N) d μ hN) (gv_S wm_C_75 ws_C_isDay wn_C kw_C_isDay) rfl (by decide +kernel) rfl ⟨Nat.le_of_ble_eq_true rfl, Nat.le_of_ble_eq_true rfl⟩ ⟨Nat.zero_le _, Nat.zero_le _⟩ (Nat.le_of_ble_eq_true rfl) d_C_event_24 rfl (fun v μ2 hq => ?_)
        obtain ⟨rfl, hm⟩ := hq
        rw [hm]
        clear hm
        show AW G (rmD 2) 5 (0, 0, ad, N, fb) 27 [(4, .ref (5 + 4 * i)), (0, .ref 0), (1, .int (nI i)), (2, .int (nI q)), (3, .int d)] [.int (bi (okD d))] μ
        refine AW.if_ne X (pc := 27) 33 d_C_event_27 (by decide) (fun c_27 => ?_) (fun c_27 => ?_)
        · have c_27 := bi_ne.mp c_27
          refine AW.aload X (pc := 33) 0 rfl d_C_event_33 ?_
          refine AW.callV X (pc := 35) (b := 5 + 4 * i) (ci := 3) (nA := 0) [] [] (c_U_isDisposed (kOf G ad N) i μ hN hi) (gv_V wm_C_97 wi_U_isDisposed wl_U_isDisposed wn_U kw_U_isDisposed) rfl (by decide +kernel) rfl (by omega) (sh_u hi) rfl ⟨Nat.le_of_ble_eq_true rfl, Nat.le_of_ble_eq_true rfl⟩ ⟨Nat.zero_le _, Nat.zero_le _⟩ (Nat.le_of_ble_eq_true rfl) d_C_event_35 rfl (fun v μ2 hq => ?_)
          obtain ⟨rfl, hm⟩ := hq
          rw [hm]
          clear hm
          show AW G (rmD 2) 5 (0, 0, ad, N, fb) 38 [(4, .ref (5 + 4 * i)), (0, .ref 0), (1, .int (nI i)), (2, .int (nI q)), (3, .int d)] [.int (bi (decide (¬ μ (5 + 4 * i) 7 = -1)))] μ
          refine AW.if_eq X (pc := 38) 44 d_C_event_38 (by decide) (fun c_38 => ?_) (fun c_38 => ?_)
          · have c_38 := Decidable.not_not.mp (of_decide_eq_false (bi_eq.mp c_38))
            refine AW.aload X (pc := 44) 0 rfl d_C_event_44 ?_
            refine AW.iload_n X (pc := 46) 3 rfl rfl d_C_event_46 ?_
            refine AW.iload_n X (pc := 47) 4 rfl rfl d_C_event_47 ?_
            refine AW.callV X (pc := 48) (b := 5 + 4 * i) (ci := 3) (nA := 2) [.int (nI q), .int d] [] (c_U_setEvent (kOf G ad N) i q d μ hN hi hq) (gv_V wm_C_100 wi_U_setEvent wl_U_setEvent wn_U kw_U_setEvent) rfl (by decide +kernel) rfl (by omega) (sh_u hi) rfl ⟨Nat.le_of_ble_eq_true rfl, Nat.le_of_ble_eq_true rfl⟩ ⟨Nat.zero_le _, Nat.zero_le _⟩ (Nat.le_of_ble_eq_true rfl) d_C_event_48 rfl (fun v μ2 hq => ?_)
            obtain ⟨rfl, hm⟩ := hq
            rw [hm]
            clear hm
            show AW G (rmD 2) 5 (0, 0, ad, N, fb) 51 [(4, .ref (5 + 4 * i)), (0, .ref 0), (1, .int (nI i)), (2, .int (nI q)), (3, .int d)] [] (m_up (m_up μ (5 + 4 * i + 1) q d) (5 + 4 * i) 5 0)
            refine AW.iconst X (pc := 51) (v := 1) (by decide) d_C_event_51 ?_
            exact hret 52 _ _ _ d_C_event_52 (by rw [show F_event μ (nI i) (nI q) d = (1, (m_up (m_up μ (5 + 4 * i + 1) q d) (5 + 4 * i) 5 0)) by simp [F_event, hU, hci, c_15, c_20, hcq, c_27, c_38]]; exact ⟨rfl, rfl⟩)
          · have c_38 := of_decide_eq_true (bi_ne.mp c_38)
            refine AW.bipush X (pc := 41) (v := -3) (by decide) d_C_event_41 ?_
            exact hret 43 _ _ _ d_C_event_43 (by rw [show F_event μ (nI i) (nI q) d = (-3, μ) by simp [F_event, hU, hci, c_15, c_20, hcq, c_27, c_38]]; exact ⟨rfl, rfl⟩)
        · have c_27 := bi_eq.mp c_27
          refine AW.bipush X (pc := 30) (v := -2) (by decide) d_C_event_30 ?_
          exact hret 32 _ _ _ d_C_event_32 (by rw [show F_event μ (nI i) (nI q) d = (-2, μ) by simp [F_event, hU, hci, c_15, c_20, hcq, c_27]]; exact ⟨rfl, rfl⟩)
set_option maxHeartbeats 4000000 in
set_option maxRecDepth 100000 in
theorem c_C_hold (K : KTy) (nr : Nat) (u k d : Int32) (μ : Mu) (hN : 272 ≤ KN K) (hI : CI μ nr) (hKN : KN K = 272 + 3 * nr) : CT K y_C_hold (k_C_hold :: GT) 2 [.ref 0, .int u, .int k, .int d] μ (fun v μ2 => v = some (.int (F_hold μ u k d).1) ∧ μ2 = (F_hold μ u k d).2) := by
  refine CT.int (cc := b_C_hold) (maxL := 5) (by decide) rfl rfl (Nat.le_of_ble_eq_true rfl) ?_
  intro G ad N hK X hret
  subst hK
  have hN : 272 ≤ N := hN
  have hKN : N = 272 + 3 * nr := hKN
  have hnr := hI.nr
  show AW G (rmD 2) 5 (0, 0, ad, N, fb) 0 [(0, .ref 0), (1, .int u), (2, .int k), (3, .int d)] [] μ
  cases hU : okU u with
  | false =>
    refine AW.aload_n X (pc := 0) 0 rfl rfl d_C_hold_0 ?_
    refine AW.iload_n X (pc := 1) 1 rfl rfl d_C_hold_1 ?_
    refine AW.callV X (pc := 2) (b := 0) (ci := 4) (nA := 1) [.int u] [] (c_C_findUnit_no (kOf G ad N) u μ hN hU) (gv_V wm_C_93 wi_C_findUnit wl_C_findUnit wn_C kw_C_findUnit) rfl (by decide +kernel) rfl (by omega) rfl rfl ⟨Nat.le_of_ble_eq_true rfl, Nat.le_of_ble_eq_true rfl⟩ ⟨Nat.zero_le _, Nat.zero_le _⟩ (Nat.le_of_ble_eq_true rfl) d_C_hold_2 rfl (fun v μ2 hq => ?_)
    obtain ⟨rfl, hm⟩ := hq
    rw [hm]
    clear hm
    show AW G (rmD 2) 5 (0, 0, ad, N, fb) 5 [(0, .ref 0), (1, .int u), (2, .int k), (3, .int d)] [.null] μ
    refine AW.astoreN X (pc := 5) (lv2 := [(4, .null), (0, .ref 0), (1, .int u), (2, .int k), (3, .int d)]) d_C_hold_5 (by decide) rfl ?_
    refine AW.aloadN X (pc := 7) 0 rfl d_C_hold_7 ?_
    refine AW.ifnonnullN X (pc := 9) d_C_hold_9 ?_
    refine AW.iconst X (pc := 12) (v := -1) (by decide) d_C_hold_12 ?_
    exact hret 13 _ _ _ d_C_hold_13 (by rw [show F_hold μ u k d = (-1, μ) by simp [F_hold, hU]]; exact ⟨rfl, rfl⟩)
  | true =>
    obtain ⟨i, hi, rfl⟩ := okU_of hU
    have hci : (nI i).toNatClampNeg = i := nI_clamp (by omega)
    show AW G (rmD 2) 5 (0, 0, ad, N, fb) 0 [(0, .ref 0), (1, .int (nI i)), (2, .int k), (3, .int d)] [] μ
    refine AW.aload_n X (pc := 0) 0 rfl rfl d_C_hold_0 ?_
    refine AW.iload_n X (pc := 1) 1 rfl rfl d_C_hold_1 ?_
    refine AW.callV X (pc := 2) (b := 0) (ci := 4) (nA := 1) [.int (nI i)] [] (c_C_findUnit (kOf G ad N) i nr μ hN hi hI hKN) (gv_V wm_C_93 wi_C_findUnit wl_C_findUnit wn_C kw_C_findUnit) rfl (by decide +kernel) rfl (by omega) rfl rfl ⟨Nat.le_of_ble_eq_true rfl, Nat.le_of_ble_eq_true rfl⟩ ⟨Nat.zero_le _, Nat.zero_le _⟩ (Nat.le_of_ble_eq_true rfl) d_C_hold_2 rfl (fun v μ2 hq => ?_)
    obtain ⟨rfl, hm⟩ := hq
    rw [hm]
    clear hm
    show AW G (rmD 2) 5 (0, 0, ad, N, fb) 5 [(0, .ref 0), (1, .int (nI i)), (2, .int k), (3, .int d)] [.ref (5 + 4 * i)] μ
    refine AW.astore X (pc := 5) (lv2 := [(4, .ref (5 + 4 * i)), (0, .ref 0), (1, .int (nI i)), (2, .int k), (3, .int d)]) d_C_hold_5 (by decide) rfl ?_
    refine AW.aload X (pc := 7) 0 rfl d_C_hold_7 ?_
    refine AW.ifnonnull X (pc := 9) 14 d_C_hold_9 (by decide) ?_
    refine AW.iload_n X (pc := 14) 3 rfl rfl d_C_hold_14 ?_
    refine AW.if_lt X (pc := 15) 35 d_C_hold_15 (by decide) (fun c_15 => ?_) (fun c_15 => ?_)
    · refine AW.bipush X (pc := 35) (v := -2) (by decide) d_C_hold_35 ?_
      exact hret 37 _ _ _ d_C_hold_37 (by rw [show F_hold μ (nI i) k d = (-2, μ) by simp [F_hold, hU, hci, c_15]]; exact ⟨rfl, rfl⟩)
    · refine AW.iload_n X (pc := 18) 3 rfl rfl d_C_hold_18 ?_
      refine AW.iconst X (pc := 19) (v := 4) (by decide) d_C_hold_19 ?_
      refine AW.icmp_ge X (pc := 20) 35 d_C_hold_20 (by decide) (fun c_20 => ?_) (fun c_20 => ?_)
      · refine AW.bipush X (pc := 35) (v := -2) (by decide) d_C_hold_35 ?_
        exact hret 37 _ _ _ d_C_hold_37 (by rw [show F_hold μ (nI i) k d = (-2, μ) by simp [F_hold, hU, hci, c_15, c_20]]; exact ⟨rfl, rfl⟩)
      · obtain ⟨q, hq, rfl⟩ := ofIx (n := 4) (M := 4) (by decide) (by decide) c_15 c_20
        have hcq : (nI q).toNatClampNeg = q := nI_clamp (by omega)
        refine AW.iload_n X (pc := 23) 4 rfl rfl d_C_hold_23 ?_
        refine AW.iconst X (pc := 24) (v := -1) (by decide) d_C_hold_24 ?_
        refine AW.icmp_eq X (pc := 25) 38 d_C_hold_25 (by decide) (fun c_25 => ?_) (fun c_25 => ?_)
        · refine AW.aload X (pc := 38) 0 rfl d_C_hold_38 ?_
          refine AW.iload_n X (pc := 40) 3 rfl rfl d_C_hold_40 ?_
          refine AW.iload_n X (pc := 41) 4 rfl rfl d_C_hold_41 ?_
          refine AW.callV X (pc := 42) (b := 5 + 4 * i) (ci := 3) (nA := 2) [.int (nI q), .int d] [] (c_U_setHold (kOf G ad N) i q d μ hN hi hq) (gv_V wm_C_113 wi_U_setHold wl_U_setHold wn_U kw_U_setHold) rfl (by decide +kernel) rfl (by omega) (sh_u hi) rfl ⟨Nat.le_of_ble_eq_true rfl, Nat.le_of_ble_eq_true rfl⟩ ⟨Nat.zero_le _, Nat.zero_le _⟩ (Nat.le_of_ble_eq_true rfl) d_C_hold_42 rfl (fun v μ2 hq => ?_)
          obtain ⟨rfl, hm⟩ := hq
          rw [hm]
          clear hm
          show AW G (rmD 2) 5 (0, 0, ad, N, fb) 45 [(4, .ref (5 + 4 * i)), (0, .ref 0), (1, .int (nI i)), (2, .int (nI q)), (3, .int d)] [] (m_up (m_up μ (5 + 4 * i + 3) q d) (5 + 4 * i) 5 0)
          refine AW.iconst X (pc := 45) (v := 1) (by decide) d_C_hold_45 ?_
          exact hret 46 _ _ _ d_C_hold_46 (by rw [show F_hold μ (nI i) (nI q) d = (1, (m_up (m_up μ (5 + 4 * i + 3) q d) (5 + 4 * i) 5 0)) by simp [F_hold, hU, hci, c_15, c_20, hcq, c_25]]; exact ⟨rfl, rfl⟩)
        · refine AW.iload_n X (pc := 28) 4 rfl rfl d_C_hold_28 ?_
          refine AW.callS X (pc := 29) (nA := 1) [.int d] [] (c_C_isDay (kOf G ad N) d μ hN) (gv_S wm_C_75 ws_C_isDay wn_C kw_C_isDay) rfl (by decide +kernel) rfl ⟨Nat.le_of_ble_eq_true rfl, Nat.le_of_ble_eq_true rfl⟩ ⟨Nat.zero_le _, Nat.zero_le _⟩ (Nat.le_of_ble_eq_true rfl) d_C_hold_29 rfl (fun v μ2 hq => ?_)
          obtain ⟨rfl, hm⟩ := hq
          rw [hm]
          clear hm
          show AW G (rmD 2) 5 (0, 0, ad, N, fb) 32 [(4, .ref (5 + 4 * i)), (0, .ref 0), (1, .int (nI i)), (2, .int (nI q)), (3, .int d)] [.int (bi (okD d))] μ
          refine AW.if_ne X (pc := 32) 38 d_C_hold_32 (by decide) (fun c_32 => ?_) (fun c_32 => ?_)
          · have c_32 := bi_ne.mp c_32
            refine AW.aload X (pc := 38) 0 rfl d_C_hold_38 ?_
            refine AW.iload_n X (pc := 40) 3 rfl rfl d_C_hold_40 ?_
            refine AW.iload_n X (pc := 41) 4 rfl rfl d_C_hold_41 ?_
            refine AW.callV X (pc := 42) (b := 5 + 4 * i) (ci := 3) (nA := 2) [.int (nI q), .int d] [] (c_U_setHold (kOf G ad N) i q d μ hN hi hq) (gv_V wm_C_113 wi_U_setHold wl_U_setHold wn_U kw_U_setHold) rfl (by decide +kernel) rfl (by omega) (sh_u hi) rfl ⟨Nat.le_of_ble_eq_true rfl, Nat.le_of_ble_eq_true rfl⟩ ⟨Nat.zero_le _, Nat.zero_le _⟩ (Nat.le_of_ble_eq_true rfl) d_C_hold_42 rfl (fun v μ2 hq => ?_)
            obtain ⟨rfl, hm⟩ := hq
            rw [hm]
            clear hm
            show AW G (rmD 2) 5 (0, 0, ad, N, fb) 45 [(4, .ref (5 + 4 * i)), (0, .ref 0), (1, .int (nI i)), (2, .int (nI q)), (3, .int d)] [] (m_up (m_up μ (5 + 4 * i + 3) q d) (5 + 4 * i) 5 0)
            refine AW.iconst X (pc := 45) (v := 1) (by decide) d_C_hold_45 ?_
            exact hret 46 _ _ _ d_C_hold_46 (by rw [show F_hold μ (nI i) (nI q) d = (1, (m_up (m_up μ (5 + 4 * i + 3) q d) (5 + 4 * i) 5 0)) by simp [F_hold, hU, hci, c_15, c_20, hcq, c_25, c_32]]; exact ⟨rfl, rfl⟩)
          · have c_32 := bi_eq.mp c_32
            refine AW.bipush X (pc := 35) (v := -2) (by decide) d_C_hold_35 ?_
            exact hret 37 _ _ _ d_C_hold_37 (by rw [show F_hold μ (nI i) (nI q) d = (-2, μ) by simp [F_hold, hU, hci, c_15, c_20, hcq, c_25, c_32]]; exact ⟨rfl, rfl⟩)
set_option maxHeartbeats 4000000 in
set_option maxRecDepth 100000 in
theorem c_C_except (K : KTy) (nr : Nat) (u d : Int32) (μ : Mu) (hN : 272 ≤ KN K) (hI : CI μ nr) (hKN : KN K = 272 + 3 * nr) : CT K y_C_except (k_C_except :: GT) 2 [.ref 0, .int u, .int d] μ (fun v μ2 => v = some (.int (F_except μ u d).1) ∧ μ2 = (F_except μ u d).2) := by
  refine CT.int (cc := b_C_except) (maxL := 4) (by decide) rfl rfl (Nat.le_of_ble_eq_true rfl) ?_
  intro G ad N hK X hret
  subst hK
  have hN : 272 ≤ N := hN
  have hKN : N = 272 + 3 * nr := hKN
  have hnr := hI.nr
  show AW G (rmD 2) 4 (0, 0, ad, N, fb) 0 [(0, .ref 0), (1, .int u), (2, .int d)] [] μ
  cases hU : okU u with
  | false =>
    refine AW.aload_n X (pc := 0) 0 rfl rfl d_C_except_0 ?_
    refine AW.iload_n X (pc := 1) 1 rfl rfl d_C_except_1 ?_
    refine AW.callV X (pc := 2) (b := 0) (ci := 4) (nA := 1) [.int u] [] (c_C_findUnit_no (kOf G ad N) u μ hN hU) (gv_V wm_C_93 wi_C_findUnit wl_C_findUnit wn_C kw_C_findUnit) rfl (by decide +kernel) rfl (by omega) rfl rfl ⟨Nat.le_of_ble_eq_true rfl, Nat.le_of_ble_eq_true rfl⟩ ⟨Nat.zero_le _, Nat.zero_le _⟩ (Nat.le_of_ble_eq_true rfl) d_C_except_2 rfl (fun v μ2 hq => ?_)
    obtain ⟨rfl, hm⟩ := hq
    rw [hm]
    clear hm
    show AW G (rmD 2) 4 (0, 0, ad, N, fb) 5 [(0, .ref 0), (1, .int u), (2, .int d)] [.null] μ
    refine AW.astore_nN X (pc := 5) (lv2 := [(3, .null), (0, .ref 0), (1, .int u), (2, .int d)]) rfl d_C_except_5 (by decide) rfl ?_
    refine AW.aload_nN X (pc := 6) 0 rfl rfl d_C_except_6 ?_
    refine AW.ifnonnullN X (pc := 7) d_C_except_7 ?_
    refine AW.iconst X (pc := 10) (v := -1) (by decide) d_C_except_10 ?_
    exact hret 11 _ _ _ d_C_except_11 (by rw [show F_except μ u d = (-1, μ) by first | (simp [F_except, hU]; done) | simp +contextual [F_except, hU]]; exact ⟨rfl, rfl⟩)
  | true =>
    obtain ⟨i, hi, rfl⟩ := okU_of hU
    have hci : (nI i).toNatClampNeg = i := nI_clamp (by omega)
    show AW G (rmD 2) 4 (0, 0, ad, N, fb) 0 [(0, .ref 0), (1, .int (nI i)), (2, .int d)] [] μ
    refine AW.aload_n X (pc := 0) 0 rfl rfl d_C_except_0 ?_
    refine AW.iload_n X (pc := 1) 1 rfl rfl d_C_except_1 ?_
    refine AW.callV X (pc := 2) (b := 0) (ci := 4) (nA := 1) [.int (nI i)] [] (c_C_findUnit (kOf G ad N) i nr μ hN hi hI hKN) (gv_V wm_C_93 wi_C_findUnit wl_C_findUnit wn_C kw_C_findUnit) rfl (by decide +kernel) rfl (by omega) rfl rfl ⟨Nat.le_of_ble_eq_true rfl, Nat.le_of_ble_eq_true rfl⟩ ⟨Nat.zero_le _, Nat.zero_le _⟩ (Nat.le_of_ble_eq_true rfl) d_C_except_2 rfl (fun v μ2 hq => ?_)
    obtain ⟨rfl, hm⟩ := hq
    rw [hm]
    clear hm
    show AW G (rmD 2) 4 (0, 0, ad, N, fb) 5 [(0, .ref 0), (1, .int (nI i)), (2, .int d)] [.ref (5 + 4 * i)] μ
    refine AW.astore_n X (pc := 5) (lv2 := [(3, .ref (5 + 4 * i)), (0, .ref 0), (1, .int (nI i)), (2, .int d)]) rfl d_C_except_5 (by decide) rfl ?_
    refine AW.aload_n X (pc := 6) 0 rfl rfl d_C_except_6 ?_
    refine AW.ifnonnull X (pc := 7) 12 d_C_except_7 (by decide) ?_
    refine AW.iload_n X (pc := 12) 3 rfl rfl d_C_except_12 ?_
    refine AW.callS X (pc := 13) (nA := 1) [.int d] [] (c_C_isDay (kOf G ad N) d μ hN) (gv_S wm_C_75 ws_C_isDay wn_C kw_C_isDay) rfl (by decide +kernel) rfl ⟨Nat.le_of_ble_eq_true rfl, Nat.le_of_ble_eq_true rfl⟩ ⟨Nat.zero_le _, Nat.zero_le _⟩ (Nat.le_of_ble_eq_true rfl) d_C_except_13 rfl (fun v μ2 hq => ?_)
    obtain ⟨rfl, hm⟩ := hq
    rw [hm]
    clear hm
    show AW G (rmD 2) 4 (0, 0, ad, N, fb) 16 [(3, .ref (5 + 4 * i)), (0, .ref 0), (1, .int (nI i)), (2, .int d)] [.int (bi (okD d))] μ
    refine AW.if_ne X (pc := 16) 22 d_C_except_16 (by decide) (fun c_16 => ?_) (fun c_16 => ?_)
    · have c_16 := bi_ne.mp c_16
      refine AW.aload_n X (pc := 22) 0 rfl rfl d_C_except_22 ?_
      refine AW.iload_n X (pc := 23) 3 rfl rfl d_C_except_23 ?_
      refine AW.callV X (pc := 24) (b := 5 + 4 * i) (ci := 3) (nA := 1) [.int d] [] (c_U_setException (kOf G ad N) i d μ hN hi) (gv_V wm_C_116 wi_U_setException wl_U_setException wn_U kw_U_setException) rfl (by decide +kernel) rfl (by omega) (sh_u hi) rfl ⟨Nat.le_of_ble_eq_true rfl, Nat.le_of_ble_eq_true rfl⟩ ⟨Nat.zero_le _, Nat.zero_le _⟩ (Nat.le_of_ble_eq_true rfl) d_C_except_24 rfl (fun v μ2 hq => ?_)
      obtain ⟨rfl, hm⟩ := hq
      rw [hm]
      clear hm
      show AW G (rmD 2) 4 (0, 0, ad, N, fb) 27 [(3, .ref (5 + 4 * i)), (0, .ref 0), (1, .int (nI i)), (2, .int d)] [] (m_up (m_up μ (5 + 4 * i) 4 d) (5 + 4 * i) 5 0)
      refine AW.iconst X (pc := 27) (v := 1) (by decide) d_C_except_27 ?_
      exact hret 28 _ _ _ d_C_except_28 (by rw [show F_except μ (nI i) d = (1, (m_up (m_up μ (5 + 4 * i) 4 d) (5 + 4 * i) 5 0)) by first | (simp [F_except, hU, hci, c_16]; done) | simp +contextual [F_except, hU, hci, c_16]]; exact ⟨rfl, rfl⟩)
    · have c_16 := bi_eq.mp c_16
      refine AW.bipush X (pc := 19) (v := -2) (by decide) d_C_except_19 ?_
      exact hret 21 _ _ _ d_C_except_21 (by rw [show F_except μ (nI i) d = (-2, μ) by first | (simp [F_except, hU, hci, c_16]; done) | simp +contextual [F_except, hU, hci, c_16]]; exact ⟨rfl, rfl⟩)
set_option maxHeartbeats 4000000 in
set_option maxRecDepth 100000 in
theorem c_C_day (K : KTy) (nr : Nat) (u on : Int32) (μ : Mu) (hN : 272 ≤ KN K) (hI : CI μ nr) (hKN : KN K = 272 + 3 * nr) : CT K y_C_day (k_C_day :: GT) 4 [.ref 0, .int u, .int on] μ (fun v μ2 => v = some (.int (F_day μ u on)) ∧ μ2 = μ) := by
  refine CT.int (cc := b_C_day) (maxL := 4) (by decide) rfl rfl (Nat.le_of_ble_eq_true rfl) ?_
  intro G ad N hK X hret
  subst hK
  have hN : 272 ≤ N := hN
  have hKN : N = 272 + 3 * nr := hKN
  have hnr := hI.nr
  show AW G (rmD 4) 4 (0, 0, ad, N, fb) 0 [(0, .ref 0), (1, .int u), (2, .int on)] [] μ
  cases hU : okU u with
  | false =>
    refine AW.aload_n X (pc := 0) 0 rfl rfl d_C_day_0 ?_
    refine AW.iload_n X (pc := 1) 1 rfl rfl d_C_day_1 ?_
    refine AW.callV X (pc := 2) (b := 0) (ci := 4) (nA := 1) [.int u] [] (c_C_findUnit_no (kOf G ad N) u μ hN hU) (gv_V wm_C_93 wi_C_findUnit wl_C_findUnit wn_C kw_C_findUnit) rfl (by decide +kernel) rfl (by omega) rfl rfl ⟨Nat.le_of_ble_eq_true rfl, Nat.le_of_ble_eq_true rfl⟩ ⟨Nat.zero_le _, Nat.zero_le _⟩ (Nat.le_of_ble_eq_true rfl) d_C_day_2 rfl (fun v μ2 hq => ?_)
    obtain ⟨rfl, hm⟩ := hq
    rw [hm]
    clear hm
    show AW G (rmD 4) 4 (0, 0, ad, N, fb) 5 [(0, .ref 0), (1, .int u), (2, .int on)] [.null] μ
    refine AW.astore_nN X (pc := 5) (lv2 := [(3, .null), (0, .ref 0), (1, .int u), (2, .int on)]) rfl d_C_day_5 (by decide) rfl ?_
    refine AW.aload_nN X (pc := 6) 0 rfl rfl d_C_day_6 ?_
    refine AW.ifnullN X (pc := 7) 17 d_C_day_7 (by decide) ?_
    refine AW.bipush X (pc := 17) (v := -2) (by decide) d_C_day_17 ?_
    exact hret 19 _ _ _ d_C_day_19 ⟨by rw [show F_day μ u on = -2 by simp [F_day, hU]], rfl⟩
  | true =>
    obtain ⟨i, hi, rfl⟩ := okU_of hU
    have hci : (nI i).toNatClampNeg = i := nI_clamp (by omega)
    show AW G (rmD 4) 4 (0, 0, ad, N, fb) 0 [(0, .ref 0), (1, .int (nI i)), (2, .int on)] [] μ
    refine AW.aload_n X (pc := 0) 0 rfl rfl d_C_day_0 ?_
    refine AW.iload_n X (pc := 1) 1 rfl rfl d_C_day_1 ?_
    refine AW.callV X (pc := 2) (b := 0) (ci := 4) (nA := 1) [.int (nI i)] [] (c_C_findUnit (kOf G ad N) i nr μ hN hi hI hKN) (gv_V wm_C_93 wi_C_findUnit wl_C_findUnit wn_C kw_C_findUnit) rfl (by decide +kernel) rfl (by omega) rfl rfl ⟨Nat.le_of_ble_eq_true rfl, Nat.le_of_ble_eq_true rfl⟩ ⟨Nat.zero_le _, Nat.zero_le _⟩ (Nat.le_of_ble_eq_true rfl) d_C_day_2 rfl (fun v μ2 hq => ?_)
    obtain ⟨rfl, hm⟩ := hq
    rw [hm]
    clear hm
    show AW G (rmD 4) 4 (0, 0, ad, N, fb) 5 [(0, .ref 0), (1, .int (nI i)), (2, .int on)] [.ref (5 + 4 * i)] μ
    refine AW.astore_n X (pc := 5) (lv2 := [(3, .ref (5 + 4 * i)), (0, .ref 0), (1, .int (nI i)), (2, .int on)]) rfl d_C_day_5 (by decide) rfl ?_
    refine AW.aload_n X (pc := 6) 0 rfl rfl d_C_day_6 ?_
    refine AW.ifnull X (pc := 7) d_C_day_7 ?_
    refine AW.iload_n X (pc := 10) 3 rfl rfl d_C_day_10 ?_
    refine AW.callS X (pc := 11) (nA := 1) [.int on] [] (c_C_isDay (kOf G ad N) on μ hN) (gv_S wm_C_75 ws_C_isDay wn_C kw_C_isDay) rfl (by decide +kernel) rfl ⟨Nat.le_of_ble_eq_true rfl, Nat.le_of_ble_eq_true rfl⟩ ⟨Nat.zero_le _, Nat.zero_le _⟩ (Nat.le_of_ble_eq_true rfl) d_C_day_11 rfl (fun v μ2 hq => ?_)
    obtain ⟨rfl, hm⟩ := hq
    rw [hm]
    clear hm
    show AW G (rmD 4) 4 (0, 0, ad, N, fb) 14 [(3, .ref (5 + 4 * i)), (0, .ref 0), (1, .int (nI i)), (2, .int on)] [.int (bi (okD on))] μ
    refine AW.if_ne X (pc := 14) 20 d_C_day_14 (by decide) (fun c_14 => ?_) (fun c_14 => ?_)
    · have c_14 := bi_ne.mp c_14
      refine AW.aload_n X (pc := 20) 0 rfl rfl d_C_day_20 ?_
      refine AW.callV X (pc := 21) (b := 5 + 4 * i) (ci := 3) (nA := 0) [] [] (c_U_hasBrokenRule (kOf G ad N) i nr μ hN hi hI hKN) (gv_V wm_C_119 wi_U_hasBrokenRule wl_U_hasBrokenRule wn_U kw_U_hasBrokenRule) rfl (by decide +kernel) rfl (by omega) (sh_u hi) rfl ⟨Nat.le_of_ble_eq_true rfl, Nat.le_of_ble_eq_true rfl⟩ ⟨Nat.zero_le _, Nat.zero_le _⟩ (Nat.le_of_ble_eq_true rfl) d_C_day_21 rfl (fun v μ2 hq => ?_)
      obtain ⟨rfl, hm⟩ := hq
      rw [hm]
      clear hm
      show AW G (rmD 4) 4 (0, 0, ad, N, fb) 24 [(3, .ref (5 + 4 * i)), (0, .ref 0), (1, .int (nI i)), (2, .int on)] [.int (bi (f_fails μ i))] μ
      refine AW.if_eq X (pc := 24) 32 d_C_day_24 (by decide) (fun c_24 => ?_) (fun c_24 => ?_)
      · have c_24 := bi_eq.mp c_24
        refine AW.aload_n X (pc := 32) 0 rfl rfl d_C_day_32 ?_
        refine AW.iload_n X (pc := 33) 3 rfl rfl d_C_day_33 ?_
        refine AW.callV X (pc := 34) (b := 5 + 4 * i) (ci := 3) (nA := 1) [.int on] [] (c_U_dueDay (kOf G ad N) i nr on μ hN hi hI hKN) (gv_V wm_C_122 wi_U_dueDay wl_U_dueDay wn_U kw_U_dueDay) rfl (by decide +kernel) rfl (by omega) (sh_u hi) rfl ⟨Nat.le_of_ble_eq_true rfl, Nat.le_of_ble_eq_true rfl⟩ ⟨Nat.zero_le _, Nat.zero_le _⟩ (Nat.le_of_ble_eq_true rfl) d_C_day_34 rfl (fun v μ2 hq => ?_)
        obtain ⟨rfl, hm⟩ := hq
        rw [hm]
        clear hm
        show AW G (rmD 4) 4 (0, 0, ad, N, fb) 37 [(3, .ref (5 + 4 * i)), (0, .ref 0), (1, .int (nI i)), (2, .int on)] [.int (f_dueDay μ i on)] μ
        exact hret 37 _ _ _ d_C_day_37 ⟨by rw [show F_day μ (nI i) on = f_dueDay μ i on by simp [F_day, hU, hci, c_14, c_24]], rfl⟩
      · have c_24 := bi_ne.mp c_24
        refine AW.bipush X (pc := 27) (v := -3) (by decide) d_C_day_27 ?_
        refine AW.goto X (pc := 29) 37 d_C_day_29 (by decide) ?_
        exact hret 37 _ _ _ d_C_day_37 ⟨by rw [show F_day μ (nI i) on = -3 by simp [F_day, hU, hci, c_14, c_24]], rfl⟩
    · have c_14 := bi_eq.mp c_14
      refine AW.bipush X (pc := 17) (v := -2) (by decide) d_C_day_17 ?_
      exact hret 19 _ _ _ d_C_day_19 ⟨by rw [show F_day μ (nI i) on = -2 by simp [F_day, hU, hci, c_14]], rfl⟩
set_option maxHeartbeats 4000000 in
set_option maxRecDepth 100000 in
theorem c_C_approve (K : KTy) (nr : Nat) (u p : Int32) (μ : Mu) (hN : 272 ≤ KN K) (hI : CI μ nr) (hKN : KN K = 272 + 3 * nr) : CT K y_C_approve (k_C_approve :: GT) 1 [.ref 0, .int u, .int p] μ (fun v μ2 => v = some (.int (F_approve μ u p).1) ∧ μ2 = (F_approve μ u p).2) := by
  refine CT.int (cc := b_C_approve) (maxL := 4) (by decide) rfl rfl (Nat.le_of_ble_eq_true rfl) ?_
  intro G ad N hK X hret
  subst hK
  have hN : 272 ≤ N := hN
  have hKN : N = 272 + 3 * nr := hKN
  have hnr := hI.nr
  show AW G (rmD 1) 4 (0, 0, ad, N, fb) 0 [(0, .ref 0), (1, .int u), (2, .int p)] [] μ
  cases hU : okU u with
  | false =>
    refine AW.aload_n X (pc := 0) 0 rfl rfl d_C_approve_0 ?_
    refine AW.iload_n X (pc := 1) 1 rfl rfl d_C_approve_1 ?_
    refine AW.callV X (pc := 2) (b := 0) (ci := 4) (nA := 1) [.int u] [] (c_C_findUnit_no (kOf G ad N) u μ hN hU) (gv_V wm_C_93 wi_C_findUnit wl_C_findUnit wn_C kw_C_findUnit) rfl (by decide +kernel) rfl (by omega) rfl rfl ⟨Nat.le_of_ble_eq_true rfl, Nat.le_of_ble_eq_true rfl⟩ ⟨Nat.zero_le _, Nat.zero_le _⟩ (Nat.le_of_ble_eq_true rfl) d_C_approve_2 rfl (fun v μ2 hq => ?_)
    obtain ⟨rfl, hm⟩ := hq
    rw [hm]
    clear hm
    show AW G (rmD 1) 4 (0, 0, ad, N, fb) 5 [(0, .ref 0), (1, .int u), (2, .int p)] [.null] μ
    refine AW.astore_nN X (pc := 5) (lv2 := [(3, .null), (0, .ref 0), (1, .int u), (2, .int p)]) rfl d_C_approve_5 (by decide) rfl ?_
    refine AW.aload_nN X (pc := 6) 0 rfl rfl d_C_approve_6 ?_
    refine AW.ifnonnullN X (pc := 7) d_C_approve_7 ?_
    refine AW.iconst X (pc := 10) (v := -1) (by decide) d_C_approve_10 ?_
    exact hret 11 _ _ _ d_C_approve_11 (by rw [show F_approve μ u p = (-1, μ) by first | (simp [F_approve, hU]; done) | simp +contextual [F_approve, hU]]; exact ⟨rfl, rfl⟩)
  | true =>
    obtain ⟨i, hi, rfl⟩ := okU_of hU
    have hci : (nI i).toNatClampNeg = i := nI_clamp (by omega)
    show AW G (rmD 1) 4 (0, 0, ad, N, fb) 0 [(0, .ref 0), (1, .int (nI i)), (2, .int p)] [] μ
    refine AW.aload_n X (pc := 0) 0 rfl rfl d_C_approve_0 ?_
    refine AW.iload_n X (pc := 1) 1 rfl rfl d_C_approve_1 ?_
    refine AW.callV X (pc := 2) (b := 0) (ci := 4) (nA := 1) [.int (nI i)] [] (c_C_findUnit (kOf G ad N) i nr μ hN hi hI hKN) (gv_V wm_C_93 wi_C_findUnit wl_C_findUnit wn_C kw_C_findUnit) rfl (by decide +kernel) rfl (by omega) rfl rfl ⟨Nat.le_of_ble_eq_true rfl, Nat.le_of_ble_eq_true rfl⟩ ⟨Nat.zero_le _, Nat.zero_le _⟩ (Nat.le_of_ble_eq_true rfl) d_C_approve_2 rfl (fun v μ2 hq => ?_)
    obtain ⟨rfl, hm⟩ := hq
    rw [hm]
    clear hm
    show AW G (rmD 1) 4 (0, 0, ad, N, fb) 5 [(0, .ref 0), (1, .int (nI i)), (2, .int p)] [.ref (5 + 4 * i)] μ
    refine AW.astore_n X (pc := 5) (lv2 := [(3, .ref (5 + 4 * i)), (0, .ref 0), (1, .int (nI i)), (2, .int p)]) rfl d_C_approve_5 (by decide) rfl ?_
    refine AW.aload_n X (pc := 6) 0 rfl rfl d_C_approve_6 ?_
    refine AW.ifnonnull X (pc := 7) 12 d_C_approve_7 (by decide) ?_
    refine AW.iload_n X (pc := 12) 3 rfl rfl d_C_approve_12 ?_
    refine AW.if_lt X (pc := 13) 22 d_C_approve_13 (by decide) (fun c_13 => ?_) (fun c_13 => ?_)
    · refine AW.bipush X (pc := 22) (v := -2) (by decide) d_C_approve_22 ?_
      exact hret 24 _ _ _ d_C_approve_24 (by rw [show F_approve μ (nI i) p = (-2, μ) by first | (simp [F_approve, hU, hci, c_13]; done) | simp +contextual [F_approve, hU, hci, c_13]]; exact ⟨rfl, rfl⟩)
    · refine AW.iload_n X (pc := 16) 3 rfl rfl d_C_approve_16 ?_
      refine AW.bipush X (pc := 17) (v := 100) (by decide) d_C_approve_17 ?_
      refine AW.icmp_lt X (pc := 19) 25 d_C_approve_19 (by decide) (fun c_19 => ?_) (fun c_19 => ?_)
      · refine AW.aload_n X (pc := 25) 0 rfl rfl d_C_approve_25 ?_
        refine AW.callV X (pc := 26) (b := 5 + 4 * i) (ci := 3) (nA := 0) [] [] (c_U_isDisposed (kOf G ad N) i μ hN hi) (gv_V wm_C_97 wi_U_isDisposed wl_U_isDisposed wn_U kw_U_isDisposed) rfl (by decide +kernel) rfl (by omega) (sh_u hi) rfl ⟨Nat.le_of_ble_eq_true rfl, Nat.le_of_ble_eq_true rfl⟩ ⟨Nat.zero_le _, Nat.zero_le _⟩ (Nat.le_of_ble_eq_true rfl) d_C_approve_26 rfl (fun v μ2 hq => ?_)
        obtain ⟨rfl, hm⟩ := hq
        rw [hm]
        clear hm
        show AW G (rmD 1) 4 (0, 0, ad, N, fb) 29 [(3, .ref (5 + 4 * i)), (0, .ref 0), (1, .int (nI i)), (2, .int p)] [.int (bi (decide (¬ μ (5 + 4 * i) 7 = -1)))] μ
        refine AW.if_ne X (pc := 29) 47 d_C_approve_29 (by decide) (fun c_29 => ?_) (fun c_29 => ?_)
        · have c_29 := of_decide_eq_true (bi_ne.mp c_29)
          refine AW.bipush X (pc := 47) (v := -3) (by decide) d_C_approve_47 ?_
          exact hret 49 _ _ _ d_C_approve_49 (by rw [show F_approve μ (nI i) p = (-3, μ) by first | (simp [F_approve, hU, hci, c_13, c_19, c_29]; done) | simp +contextual [F_approve, hU, hci, c_13, c_19, c_29]]; exact ⟨rfl, rfl⟩)
        · have c_29 := Decidable.not_not.mp (of_decide_eq_false (bi_eq.mp c_29))
          refine AW.aload_n X (pc := 32) 0 rfl rfl d_C_approve_32 ?_
          refine AW.callV X (pc := 33) (b := 5 + 4 * i) (ci := 3) (nA := 0) [] [] (c_U_isApproved (kOf G ad N) i μ hN hi) (gv_V wm_C_153 wi_U_isApproved wl_U_isApproved wn_U kw_U_isApproved) rfl (by decide +kernel) rfl (by omega) (sh_u hi) rfl ⟨Nat.le_of_ble_eq_true rfl, Nat.le_of_ble_eq_true rfl⟩ ⟨Nat.zero_le _, Nat.zero_le _⟩ (Nat.le_of_ble_eq_true rfl) d_C_approve_33 rfl (fun v μ2 hq => ?_)
          obtain ⟨rfl, hm⟩ := hq
          rw [hm]
          clear hm
          show AW G (rmD 1) 4 (0, 0, ad, N, fb) 36 [(3, .ref (5 + 4 * i)), (0, .ref 0), (1, .int (nI i)), (2, .int p)] [.int (bi (decide (2 ≤ μ (5 + 4 * i) 5)))] μ
          refine AW.if_ne X (pc := 36) 47 d_C_approve_36 (by decide) (fun c_36 => ?_) (fun c_36 => ?_)
          · have c_36 := of_decide_eq_true (bi_ne.mp c_36)
            refine AW.bipush X (pc := 47) (v := -3) (by decide) d_C_approve_47 ?_
            exact hret 49 _ _ _ d_C_approve_49 (by rw [show F_approve μ (nI i) p = (-3, μ) by first | (simp [F_approve, hU, hci, c_13, c_19, c_29, c_36]; done) | simp +contextual [F_approve, hU, hci, c_13, c_19, c_29, c_36]]; exact ⟨rfl, rfl⟩)
          · have c_36 := of_decide_eq_false (bi_eq.mp c_36)
            refine AW.aload_n X (pc := 39) 0 rfl rfl d_C_approve_39 ?_
            refine AW.iload_n X (pc := 40) 3 rfl rfl d_C_approve_40 ?_
            refine AW.callV X (pc := 41) (b := 5 + 4 * i) (ci := 3) (nA := 1) [.int p] [] (c_U_isApprovedBy (kOf G ad N) i p μ hN hi) (gv_V wm_C_156 wi_U_isApprovedBy wl_U_isApprovedBy wn_U kw_U_isApprovedBy) rfl (by decide +kernel) rfl (by omega) (sh_u hi) rfl ⟨Nat.le_of_ble_eq_true rfl, Nat.le_of_ble_eq_true rfl⟩ ⟨Nat.zero_le _, Nat.zero_le _⟩ (Nat.le_of_ble_eq_true rfl) d_C_approve_41 rfl (fun v μ2 hq => ?_)
            obtain ⟨rfl, hm⟩ := hq
            rw [hm]
            clear hm
            show AW G (rmD 1) 4 (0, 0, ad, N, fb) 44 [(3, .ref (5 + 4 * i)), (0, .ref 0), (1, .int (nI i)), (2, .int p)] [.int (bi (decide (¬ μ (5 + 4 * i) 5 ≤ 0 ∧ μ (5 + 4 * i) 6 = p)))] μ
            refine AW.if_eq X (pc := 44) 50 d_C_approve_44 (by decide) (fun c_44 => ?_) (fun c_44 => ?_)
            · have c_44 := of_decide_eq_false (bi_eq.mp c_44)
              simp at c_44
              refine AW.aload_n X (pc := 50) 0 rfl rfl d_C_approve_50 ?_
              refine AW.iload_n X (pc := 51) 3 rfl rfl d_C_approve_51 ?_
              refine AW.callV X (pc := 52) (b := 5 + 4 * i) (ci := 3) (nA := 1) [.int p] [] (c_U_addApproval (kOf G ad N) i p μ hN hi) (gv_V wm_C_159 wi_U_addApproval wl_U_addApproval wn_U kw_U_addApproval) rfl (by decide +kernel) rfl (by omega) (sh_u hi) rfl ⟨Nat.le_of_ble_eq_true rfl, Nat.le_of_ble_eq_true rfl⟩ ⟨Nat.zero_le _, Nat.zero_le _⟩ (Nat.le_of_ble_eq_true rfl) d_C_approve_52 rfl (fun v μ2 hq => ?_)
              obtain ⟨rfl, hm⟩ := hq
              rw [hm]
              clear hm
              show AW G (rmD 1) 4 (0, 0, ad, N, fb) 55 [(3, .ref (5 + 4 * i)), (0, .ref 0), (1, .int (nI i)), (2, .int p)] [] (addAp μ i p)
              refine AW.aload_n X (pc := 55) 0 rfl rfl d_C_approve_55 ?_
              refine AW.callV X (pc := 56) (b := 5 + 4 * i) (ci := 3) (nA := 0) [] [] (c_U_approvalCount (kOf G ad N) i (addAp μ i p) hN hi) (gv_V wm_C_162 wi_U_approvalCount wl_U_approvalCount wn_U kw_U_approvalCount) rfl (by decide +kernel) rfl (by omega) (sh_u hi) rfl ⟨Nat.le_of_ble_eq_true rfl, Nat.le_of_ble_eq_true rfl⟩ ⟨Nat.zero_le _, Nat.zero_le _⟩ (Nat.le_of_ble_eq_true rfl) d_C_approve_56 rfl (fun v μ2 hq => ?_)
              obtain ⟨rfl, hm⟩ := hq
              rw [hm]
              clear hm
              show AW G (rmD 1) 4 (0, 0, ad, N, fb) 59 [(3, .ref (5 + 4 * i)), (0, .ref 0), (1, .int (nI i)), (2, .int p)] [.int ((addAp μ i p) (5 + 4 * i) 5)] (addAp μ i p)
              exact hret 59 _ _ _ d_C_approve_59 (by rw [show F_approve μ (nI i) p = ((addAp μ i p) (5 + 4 * i) 5, (addAp μ i p)) by first | (simp [F_approve, hU, hci, c_13, c_19, c_29, c_36, c_44]; done) | simp +contextual [F_approve, hU, hci, c_13, c_19, c_29, c_36, c_44]]; exact ⟨rfl, rfl⟩)
            · have c_44 := of_decide_eq_true (bi_ne.mp c_44)
              refine AW.bipush X (pc := 47) (v := -3) (by decide) d_C_approve_47 ?_
              exact hret 49 _ _ _ d_C_approve_49 (by rw [show F_approve μ (nI i) p = (-3, μ) by first | (simp [F_approve, hU, hci, c_13, c_19, c_29, c_36, c_44]; done) | simp +contextual [F_approve, hU, hci, c_13, c_19, c_29, c_36, c_44]]; exact ⟨rfl, rfl⟩)
      · refine AW.bipush X (pc := 22) (v := -2) (by decide) d_C_approve_22 ?_
        exact hret 24 _ _ _ d_C_approve_24 (by rw [show F_approve μ (nI i) p = (-2, μ) by first | (simp [F_approve, hU, hci, c_13, c_19]; done) | simp +contextual [F_approve, hU, hci, c_13, c_19]]; exact ⟨rfl, rfl⟩)
set_option maxHeartbeats 4000000 in
set_option maxRecDepth 100000 in
theorem c_C_certificate (K : KTy) (nr : Nat) (u n : Int32) (μ : Mu) (hN : 272 ≤ KN K) (hI : CI μ nr) (hKN : KN K = 272 + 3 * nr) : CT K y_C_certificate (k_C_certificate :: GT) 1 [.ref 0, .int u, .int n] μ (fun v μ2 => v = some (.int (F_certificate μ u n).1) ∧ μ2 = (F_certificate μ u n).2) := by
  refine CT.int (cc := b_C_certificate) (maxL := 4) (by decide) rfl rfl (Nat.le_of_ble_eq_true rfl) ?_
  intro G ad N hK X hret
  subst hK
  have hN : 272 ≤ N := hN
  have hKN : N = 272 + 3 * nr := hKN
  have hnr := hI.nr
  show AW G (rmD 1) 4 (0, 0, ad, N, fb) 0 [(0, .ref 0), (1, .int u), (2, .int n)] [] μ
  cases hU : okU u with
  | false =>
    refine AW.aload_n X (pc := 0) 0 rfl rfl d_C_certificate_0 ?_
    refine AW.iload_n X (pc := 1) 1 rfl rfl d_C_certificate_1 ?_
    refine AW.callV X (pc := 2) (b := 0) (ci := 4) (nA := 1) [.int u] [] (c_C_findUnit_no (kOf G ad N) u μ hN hU) (gv_V wm_C_93 wi_C_findUnit wl_C_findUnit wn_C kw_C_findUnit) rfl (by decide +kernel) rfl (by omega) rfl rfl ⟨Nat.le_of_ble_eq_true rfl, Nat.le_of_ble_eq_true rfl⟩ ⟨Nat.zero_le _, Nat.zero_le _⟩ (Nat.le_of_ble_eq_true rfl) d_C_certificate_2 rfl (fun v μ2 hq => ?_)
    obtain ⟨rfl, hm⟩ := hq
    rw [hm]
    clear hm
    show AW G (rmD 1) 4 (0, 0, ad, N, fb) 5 [(0, .ref 0), (1, .int u), (2, .int n)] [.null] μ
    refine AW.astore_nN X (pc := 5) (lv2 := [(3, .null), (0, .ref 0), (1, .int u), (2, .int n)]) rfl d_C_certificate_5 (by decide) rfl ?_
    refine AW.aload_nN X (pc := 6) 0 rfl rfl d_C_certificate_6 ?_
    refine AW.ifnonnullN X (pc := 7) d_C_certificate_7 ?_
    refine AW.iconst X (pc := 10) (v := -1) (by decide) d_C_certificate_10 ?_
    exact hret 11 _ _ _ d_C_certificate_11 (by rw [show F_certificate μ u n = (-1, μ) by first | (simp [F_certificate, hU]; done) | simp +contextual [F_certificate, hU]]; exact ⟨rfl, rfl⟩)
  | true =>
    obtain ⟨i, hi, rfl⟩ := okU_of hU
    have hci : (nI i).toNatClampNeg = i := nI_clamp (by omega)
    show AW G (rmD 1) 4 (0, 0, ad, N, fb) 0 [(0, .ref 0), (1, .int (nI i)), (2, .int n)] [] μ
    refine AW.aload_n X (pc := 0) 0 rfl rfl d_C_certificate_0 ?_
    refine AW.iload_n X (pc := 1) 1 rfl rfl d_C_certificate_1 ?_
    refine AW.callV X (pc := 2) (b := 0) (ci := 4) (nA := 1) [.int (nI i)] [] (c_C_findUnit (kOf G ad N) i nr μ hN hi hI hKN) (gv_V wm_C_93 wi_C_findUnit wl_C_findUnit wn_C kw_C_findUnit) rfl (by decide +kernel) rfl (by omega) rfl rfl ⟨Nat.le_of_ble_eq_true rfl, Nat.le_of_ble_eq_true rfl⟩ ⟨Nat.zero_le _, Nat.zero_le _⟩ (Nat.le_of_ble_eq_true rfl) d_C_certificate_2 rfl (fun v μ2 hq => ?_)
    obtain ⟨rfl, hm⟩ := hq
    rw [hm]
    clear hm
    show AW G (rmD 1) 4 (0, 0, ad, N, fb) 5 [(0, .ref 0), (1, .int (nI i)), (2, .int n)] [.ref (5 + 4 * i)] μ
    refine AW.astore_n X (pc := 5) (lv2 := [(3, .ref (5 + 4 * i)), (0, .ref 0), (1, .int (nI i)), (2, .int n)]) rfl d_C_certificate_5 (by decide) rfl ?_
    refine AW.aload_n X (pc := 6) 0 rfl rfl d_C_certificate_6 ?_
    refine AW.ifnonnull X (pc := 7) 12 d_C_certificate_7 (by decide) ?_
    refine AW.iload_n X (pc := 12) 3 rfl rfl d_C_certificate_12 ?_
    refine AW.iconst X (pc := 13) (v := 1) (by decide) d_C_certificate_13 ?_
    refine AW.icmp_lt X (pc := 14) 23 d_C_certificate_14 (by decide) (fun c_14 => ?_) (fun c_14 => ?_)
    · refine AW.bipush X (pc := 23) (v := -2) (by decide) d_C_certificate_23 ?_
      exact hret 25 _ _ _ d_C_certificate_25 (by rw [show F_certificate μ (nI i) n = (-2, μ) by first | (simp [F_certificate, hU, hci, c_14]; done) | simp +contextual [F_certificate, hU, hci, c_14]]; exact ⟨rfl, rfl⟩)
    · refine AW.iload_n X (pc := 17) 3 rfl rfl d_C_certificate_17 ?_
      refine AW.ldc X (pc := 18) (v := 1000000) (by decide +kernel) d_C_certificate_18 ?_
      refine AW.icmp_le X (pc := 20) 26 d_C_certificate_20 (by decide) (fun c_20 => ?_) (fun c_20 => ?_)
      · refine AW.aload_n X (pc := 26) 0 rfl rfl d_C_certificate_26 ?_
        refine AW.callV X (pc := 27) (b := 5 + 4 * i) (ci := 3) (nA := 0) [] [] (c_U_isDisposed (kOf G ad N) i μ hN hi) (gv_V wm_C_97 wi_U_isDisposed wl_U_isDisposed wn_U kw_U_isDisposed) rfl (by decide +kernel) rfl (by omega) (sh_u hi) rfl ⟨Nat.le_of_ble_eq_true rfl, Nat.le_of_ble_eq_true rfl⟩ ⟨Nat.zero_le _, Nat.zero_le _⟩ (Nat.le_of_ble_eq_true rfl) d_C_certificate_27 rfl (fun v μ2 hq => ?_)
        obtain ⟨rfl, hm⟩ := hq
        rw [hm]
        clear hm
        show AW G (rmD 1) 4 (0, 0, ad, N, fb) 30 [(3, .ref (5 + 4 * i)), (0, .ref 0), (1, .int (nI i)), (2, .int n)] [.int (bi (decide (¬ μ (5 + 4 * i) 7 = -1)))] μ
        refine AW.if_eq X (pc := 30) 40 d_C_certificate_30 (by decide) (fun c_30 => ?_) (fun c_30 => ?_)
        · have c_30 := Decidable.not_not.mp (of_decide_eq_false (bi_eq.mp c_30))
          refine AW.bipush X (pc := 40) (v := -3) (by decide) d_C_certificate_40 ?_
          exact hret 42 _ _ _ d_C_certificate_42 (by rw [show F_certificate μ (nI i) n = (-3, μ) by first | (simp [F_certificate, hU, hci, c_14, c_20, c_30]; done) | simp +contextual [F_certificate, hU, hci, c_14, c_20, c_30]]; exact ⟨rfl, rfl⟩)
        · have c_30 := of_decide_eq_true (bi_ne.mp c_30)
          refine AW.aload_n X (pc := 33) 0 rfl rfl d_C_certificate_33 ?_
          refine AW.callV X (pc := 34) (b := 5 + 4 * i) (ci := 3) (nA := 0) [] [] (c_U_hasCertificate (kOf G ad N) i μ hN hi) (gv_V wm_C_176 wi_U_hasCertificate wl_U_hasCertificate wn_U kw_U_hasCertificate) rfl (by decide +kernel) rfl (by omega) (sh_u hi) rfl ⟨Nat.le_of_ble_eq_true rfl, Nat.le_of_ble_eq_true rfl⟩ ⟨Nat.zero_le _, Nat.zero_le _⟩ (Nat.le_of_ble_eq_true rfl) d_C_certificate_34 rfl (fun v μ2 hq => ?_)
          obtain ⟨rfl, hm⟩ := hq
          rw [hm]
          clear hm
          show AW G (rmD 1) 4 (0, 0, ad, N, fb) 37 [(3, .ref (5 + 4 * i)), (0, .ref 0), (1, .int (nI i)), (2, .int n)] [.int (bi (decide (¬ μ (5 + 4 * i) 8 = -1)))] μ
          refine AW.if_eq X (pc := 37) 43 d_C_certificate_37 (by decide) (fun c_37 => ?_) (fun c_37 => ?_)
          · have c_37 := Decidable.not_not.mp (of_decide_eq_false (bi_eq.mp c_37))
            refine AW.aload_n X (pc := 43) 0 rfl rfl d_C_certificate_43 ?_
            refine AW.iload_n X (pc := 44) 3 rfl rfl d_C_certificate_44 ?_
            refine AW.callV X (pc := 45) (b := 5 + 4 * i) (ci := 3) (nA := 1) [.int n] [] (c_U_setCertificate (kOf G ad N) i n μ hN hi) (gv_V wm_C_179 wi_U_setCertificate wl_U_setCertificate wn_U kw_U_setCertificate) rfl (by decide +kernel) rfl (by omega) (sh_u hi) rfl ⟨Nat.le_of_ble_eq_true rfl, Nat.le_of_ble_eq_true rfl⟩ ⟨Nat.zero_le _, Nat.zero_le _⟩ (Nat.le_of_ble_eq_true rfl) d_C_certificate_45 rfl (fun v μ2 hq => ?_)
            obtain ⟨rfl, hm⟩ := hq
            rw [hm]
            clear hm
            show AW G (rmD 1) 4 (0, 0, ad, N, fb) 48 [(3, .ref (5 + 4 * i)), (0, .ref 0), (1, .int (nI i)), (2, .int n)] [] (m_up μ (5 + 4 * i) 8 n)
            refine AW.iconst X (pc := 48) (v := 1) (by decide) d_C_certificate_48 ?_
            exact hret 49 _ _ _ d_C_certificate_49 (by rw [show F_certificate μ (nI i) n = (1, (m_up μ (5 + 4 * i) 8 n)) by first | (simp [F_certificate, hU, hci, c_14, c_20, c_30, c_37]; done) | simp +contextual [F_certificate, hU, hci, c_14, c_20, c_30, c_37]]; exact ⟨rfl, rfl⟩)
          · have c_37 := of_decide_eq_true (bi_ne.mp c_37)
            refine AW.bipush X (pc := 40) (v := -3) (by decide) d_C_certificate_40 ?_
            exact hret 42 _ _ _ d_C_certificate_42 (by rw [show F_certificate μ (nI i) n = (-3, μ) by first | (simp [F_certificate, hU, hci, c_14, c_20, c_30, c_37]; done) | simp +contextual [F_certificate, hU, hci, c_14, c_20, c_30, c_37]]; exact ⟨rfl, rfl⟩)
      · refine AW.bipush X (pc := 23) (v := -2) (by decide) d_C_certificate_23 ?_
        exact hret 25 _ _ _ d_C_certificate_25 (by rw [show F_certificate μ (nI i) n = (-2, μ) by first | (simp [F_certificate, hU, hci, c_14, c_20]; done) | simp +contextual [F_certificate, hU, hci, c_14, c_20]]; exact ⟨rfl, rfl⟩)
set_option maxHeartbeats 4000000 in
set_option maxRecDepth 100000 in
theorem c_C_about (K : KTy) (nr : Nat) (u w : Int32) (μ : Mu) (hN : 272 ≤ KN K) (hI : CI μ nr) (hKN : KN K = 272 + 3 * nr) : CT K y_C_about (k_C_about :: GT) 1 [.ref 0, .int u, .int w] μ (fun v μ2 => v = some (.int (F_about μ u w)) ∧ μ2 = μ) := by
  refine CT.int (cc := b_C_about) (maxL := 4) (by decide) rfl rfl (Nat.le_of_ble_eq_true rfl) ?_
  intro G ad N hK X hret
  subst hK
  have hN : 272 ≤ N := hN
  have hKN : N = 272 + 3 * nr := hKN
  have hnr := hI.nr
  show AW G (rmD 1) 4 (0, 0, ad, N, fb) 0 [(0, .ref 0), (1, .int u), (2, .int w)] [] μ
  cases hU : okU u with
  | false =>
    refine AW.aload_n X (pc := 0) 0 rfl rfl d_C_about_0 ?_
    refine AW.iload_n X (pc := 1) 1 rfl rfl d_C_about_1 ?_
    refine AW.callV X (pc := 2) (b := 0) (ci := 4) (nA := 1) [.int u] [] (c_C_findUnit_no (kOf G ad N) u μ hN hU) (gv_V wm_C_93 wi_C_findUnit wl_C_findUnit wn_C kw_C_findUnit) rfl (by decide +kernel) rfl (by omega) rfl rfl ⟨Nat.le_of_ble_eq_true rfl, Nat.le_of_ble_eq_true rfl⟩ ⟨Nat.zero_le _, Nat.zero_le _⟩ (Nat.le_of_ble_eq_true rfl) d_C_about_2 rfl (fun v μ2 hq => ?_)
    obtain ⟨rfl, hm⟩ := hq
    rw [hm]
    clear hm
    show AW G (rmD 1) 4 (0, 0, ad, N, fb) 5 [(0, .ref 0), (1, .int u), (2, .int w)] [.null] μ
    refine AW.astore_nN X (pc := 5) (lv2 := [(3, .null), (0, .ref 0), (1, .int u), (2, .int w)]) rfl d_C_about_5 (by decide) rfl ?_
    refine AW.aload_nN X (pc := 6) 0 rfl rfl d_C_about_6 ?_
    refine AW.ifnonnullN X (pc := 7) d_C_about_7 ?_
    refine AW.iconst X (pc := 10) (v := -1) (by decide) d_C_about_10 ?_
    exact hret 11 _ _ _ d_C_about_11 ⟨by rw [show F_about μ u w = -1 by simp [F_about, hU]], rfl⟩
  | true =>
    obtain ⟨i, hi, rfl⟩ := okU_of hU
    have hci : (nI i).toNatClampNeg = i := nI_clamp (by omega)
    show AW G (rmD 1) 4 (0, 0, ad, N, fb) 0 [(0, .ref 0), (1, .int (nI i)), (2, .int w)] [] μ
    by_cases n4 : w = 4
    · subst n4
      show AW G (rmD 1) 4 (0, 0, ad, N, fb) 0 [(0, .ref 0), (1, .int (nI i)), (2, .int 4)] [] μ
      refine AW.aload_n X (pc := 0) 0 rfl rfl d_C_about_0 ?_
      refine AW.iload_n X (pc := 1) 1 rfl rfl d_C_about_1 ?_
      refine AW.callV X (pc := 2) (b := 0) (ci := 4) (nA := 1) [.int (nI i)] [] (c_C_findUnit (kOf G ad N) i nr μ hN hi hI hKN) (gv_V wm_C_93 wi_C_findUnit wl_C_findUnit wn_C kw_C_findUnit) rfl (by decide +kernel) rfl (by omega) rfl rfl ⟨Nat.le_of_ble_eq_true rfl, Nat.le_of_ble_eq_true rfl⟩ ⟨Nat.zero_le _, Nat.zero_le _⟩ (Nat.le_of_ble_eq_true rfl) d_C_about_2 rfl (fun v μ2 hq => ?_)
      obtain ⟨rfl, hm⟩ := hq
      rw [hm]
      clear hm
      show AW G (rmD 1) 4 (0, 0, ad, N, fb) 5 [(0, .ref 0), (1, .int (nI i)), (2, .int 4)] [.ref (5 + 4 * i)] μ
      refine AW.astore_n X (pc := 5) (lv2 := [(3, .ref (5 + 4 * i)), (0, .ref 0), (1, .int (nI i)), (2, .int 4)]) rfl d_C_about_5 (by decide) rfl ?_
      refine AW.aload_n X (pc := 6) 0 rfl rfl d_C_about_6 ?_
      refine AW.ifnonnull X (pc := 7) 12 d_C_about_7 (by decide) ?_
      refine AW.iload_n X (pc := 12) 3 rfl rfl d_C_about_12 ?_
      refine AW.tableIn X (pc := 13) 48 d_C_about_13 (by decide) (by decide) (show _ = some 35 by decide) (by decide) ?_
      refine AW.aload_n X (pc := 48) 0 rfl rfl d_C_about_48 ?_
      refine AW.callV X (pc := 49) (b := 5 + 4 * i) (ci := 3) (nA := 0) [] [] (c_U_ruleCount (kOf G ad N) i μ hN hi) (gv_V wm_C_111 wi_U_ruleCount wl_U_ruleCount wn_U kw_U_ruleCount) rfl (by decide +kernel) rfl (by omega) (sh_u hi) rfl ⟨Nat.le_of_ble_eq_true rfl, Nat.le_of_ble_eq_true rfl⟩ ⟨Nat.zero_le _, Nat.zero_le _⟩ (Nat.le_of_ble_eq_true rfl) d_C_about_49 rfl (fun v μ2 hq => ?_)
      obtain ⟨rfl, hm⟩ := hq
      rw [hm]
      clear hm
      show AW G (rmD 1) 4 (0, 0, ad, N, fb) 52 [(3, .ref (5 + 4 * i)), (0, .ref 0), (1, .int (nI i)), (2, .int 4)] [.int (μ (5 + 4 * i) 2)] μ
      exact hret 52 _ _ _ d_C_about_52 ⟨by rw [show F_about μ (nI i) 4 = μ (5 + 4 * i) 2 by simp [F_about, hU, hci]], rfl⟩
    by_cases n5 : w = 5
    · subst n5
      show AW G (rmD 1) 4 (0, 0, ad, N, fb) 0 [(0, .ref 0), (1, .int (nI i)), (2, .int 5)] [] μ
      refine AW.aload_n X (pc := 0) 0 rfl rfl d_C_about_0 ?_
      refine AW.iload_n X (pc := 1) 1 rfl rfl d_C_about_1 ?_
      refine AW.callV X (pc := 2) (b := 0) (ci := 4) (nA := 1) [.int (nI i)] [] (c_C_findUnit (kOf G ad N) i nr μ hN hi hI hKN) (gv_V wm_C_93 wi_C_findUnit wl_C_findUnit wn_C kw_C_findUnit) rfl (by decide +kernel) rfl (by omega) rfl rfl ⟨Nat.le_of_ble_eq_true rfl, Nat.le_of_ble_eq_true rfl⟩ ⟨Nat.zero_le _, Nat.zero_le _⟩ (Nat.le_of_ble_eq_true rfl) d_C_about_2 rfl (fun v μ2 hq => ?_)
      obtain ⟨rfl, hm⟩ := hq
      rw [hm]
      clear hm
      show AW G (rmD 1) 4 (0, 0, ad, N, fb) 5 [(0, .ref 0), (1, .int (nI i)), (2, .int 5)] [.ref (5 + 4 * i)] μ
      refine AW.astore_n X (pc := 5) (lv2 := [(3, .ref (5 + 4 * i)), (0, .ref 0), (1, .int (nI i)), (2, .int 5)]) rfl d_C_about_5 (by decide) rfl ?_
      refine AW.aload_n X (pc := 6) 0 rfl rfl d_C_about_6 ?_
      refine AW.ifnonnull X (pc := 7) 12 d_C_about_7 (by decide) ?_
      refine AW.iload_n X (pc := 12) 3 rfl rfl d_C_about_12 ?_
      refine AW.tableIn X (pc := 13) 53 d_C_about_13 (by decide) (by decide) (show _ = some 40 by decide) (by decide) ?_
      refine AW.aload_n X (pc := 53) 0 rfl rfl d_C_about_53 ?_
      refine AW.callV X (pc := 54) (b := 5 + 4 * i) (ci := 3) (nA := 0) [] [] (c_U_approvalCount (kOf G ad N) i μ hN hi) (gv_V wm_C_162 wi_U_approvalCount wl_U_approvalCount wn_U kw_U_approvalCount) rfl (by decide +kernel) rfl (by omega) (sh_u hi) rfl ⟨Nat.le_of_ble_eq_true rfl, Nat.le_of_ble_eq_true rfl⟩ ⟨Nat.zero_le _, Nat.zero_le _⟩ (Nat.le_of_ble_eq_true rfl) d_C_about_54 rfl (fun v μ2 hq => ?_)
      obtain ⟨rfl, hm⟩ := hq
      rw [hm]
      clear hm
      show AW G (rmD 1) 4 (0, 0, ad, N, fb) 57 [(3, .ref (5 + 4 * i)), (0, .ref 0), (1, .int (nI i)), (2, .int 5)] [.int (μ (5 + 4 * i) 5)] μ
      exact hret 57 _ _ _ d_C_about_57 ⟨by rw [show F_about μ (nI i) 5 = μ (5 + 4 * i) 5 by simp [F_about, hU, hci]], rfl⟩
    by_cases n6 : w = 6
    · subst n6
      show AW G (rmD 1) 4 (0, 0, ad, N, fb) 0 [(0, .ref 0), (1, .int (nI i)), (2, .int 6)] [] μ
      refine AW.aload_n X (pc := 0) 0 rfl rfl d_C_about_0 ?_
      refine AW.iload_n X (pc := 1) 1 rfl rfl d_C_about_1 ?_
      refine AW.callV X (pc := 2) (b := 0) (ci := 4) (nA := 1) [.int (nI i)] [] (c_C_findUnit (kOf G ad N) i nr μ hN hi hI hKN) (gv_V wm_C_93 wi_C_findUnit wl_C_findUnit wn_C kw_C_findUnit) rfl (by decide +kernel) rfl (by omega) rfl rfl ⟨Nat.le_of_ble_eq_true rfl, Nat.le_of_ble_eq_true rfl⟩ ⟨Nat.zero_le _, Nat.zero_le _⟩ (Nat.le_of_ble_eq_true rfl) d_C_about_2 rfl (fun v μ2 hq => ?_)
      obtain ⟨rfl, hm⟩ := hq
      rw [hm]
      clear hm
      show AW G (rmD 1) 4 (0, 0, ad, N, fb) 5 [(0, .ref 0), (1, .int (nI i)), (2, .int 6)] [.ref (5 + 4 * i)] μ
      refine AW.astore_n X (pc := 5) (lv2 := [(3, .ref (5 + 4 * i)), (0, .ref 0), (1, .int (nI i)), (2, .int 6)]) rfl d_C_about_5 (by decide) rfl ?_
      refine AW.aload_n X (pc := 6) 0 rfl rfl d_C_about_6 ?_
      refine AW.ifnonnull X (pc := 7) 12 d_C_about_7 (by decide) ?_
      refine AW.iload_n X (pc := 12) 3 rfl rfl d_C_about_12 ?_
      refine AW.tableIn X (pc := 13) 58 d_C_about_13 (by decide) (by decide) (show _ = some 45 by decide) (by decide) ?_
      refine AW.aload_n X (pc := 58) 0 rfl rfl d_C_about_58 ?_
      refine AW.callV X (pc := 59) (b := 5 + 4 * i) (ci := 3) (nA := 0) [] [] (c_U_isDisposed (kOf G ad N) i μ hN hi) (gv_V wm_C_97 wi_U_isDisposed wl_U_isDisposed wn_U kw_U_isDisposed) rfl (by decide +kernel) rfl (by omega) (sh_u hi) rfl ⟨Nat.le_of_ble_eq_true rfl, Nat.le_of_ble_eq_true rfl⟩ ⟨Nat.zero_le _, Nat.zero_le _⟩ (Nat.le_of_ble_eq_true rfl) d_C_about_59 rfl (fun v μ2 hq => ?_)
      obtain ⟨rfl, hm⟩ := hq
      rw [hm]
      clear hm
      show AW G (rmD 1) 4 (0, 0, ad, N, fb) 62 [(3, .ref (5 + 4 * i)), (0, .ref 0), (1, .int (nI i)), (2, .int 6)] [.int (bi (decide (¬ μ (5 + 4 * i) 7 = -1)))] μ
      refine AW.if_eq X (pc := 62) 69 d_C_about_62 (by decide) (fun c_62 => ?_) (fun c_62 => ?_)
      · have c_62 := Decidable.not_not.mp (of_decide_eq_false (bi_eq.mp c_62))
        refine AW.iconst X (pc := 69) (v := 0) (by decide) d_C_about_69 ?_
        exact hret 70 _ _ _ d_C_about_70 ⟨by rw [show F_about μ (nI i) 6 = 0 by simp [F_about, hU, hci, c_62]], rfl⟩
      · have c_62 := of_decide_eq_true (bi_ne.mp c_62)
        refine AW.iconst X (pc := 65) (v := 1) (by decide) d_C_about_65 ?_
        refine AW.goto X (pc := 66) 70 d_C_about_66 (by decide) ?_
        exact hret 70 _ _ _ d_C_about_70 ⟨by rw [show F_about μ (nI i) 6 = 1 by simp [F_about, hU, hci, c_62]], rfl⟩
    by_cases n7 : w = 7
    · subst n7
      show AW G (rmD 1) 4 (0, 0, ad, N, fb) 0 [(0, .ref 0), (1, .int (nI i)), (2, .int 7)] [] μ
      refine AW.aload_n X (pc := 0) 0 rfl rfl d_C_about_0 ?_
      refine AW.iload_n X (pc := 1) 1 rfl rfl d_C_about_1 ?_
      refine AW.callV X (pc := 2) (b := 0) (ci := 4) (nA := 1) [.int (nI i)] [] (c_C_findUnit (kOf G ad N) i nr μ hN hi hI hKN) (gv_V wm_C_93 wi_C_findUnit wl_C_findUnit wn_C kw_C_findUnit) rfl (by decide +kernel) rfl (by omega) rfl rfl ⟨Nat.le_of_ble_eq_true rfl, Nat.le_of_ble_eq_true rfl⟩ ⟨Nat.zero_le _, Nat.zero_le _⟩ (Nat.le_of_ble_eq_true rfl) d_C_about_2 rfl (fun v μ2 hq => ?_)
      obtain ⟨rfl, hm⟩ := hq
      rw [hm]
      clear hm
      show AW G (rmD 1) 4 (0, 0, ad, N, fb) 5 [(0, .ref 0), (1, .int (nI i)), (2, .int 7)] [.ref (5 + 4 * i)] μ
      refine AW.astore_n X (pc := 5) (lv2 := [(3, .ref (5 + 4 * i)), (0, .ref 0), (1, .int (nI i)), (2, .int 7)]) rfl d_C_about_5 (by decide) rfl ?_
      refine AW.aload_n X (pc := 6) 0 rfl rfl d_C_about_6 ?_
      refine AW.ifnonnull X (pc := 7) 12 d_C_about_7 (by decide) ?_
      refine AW.iload_n X (pc := 12) 3 rfl rfl d_C_about_12 ?_
      refine AW.tableIn X (pc := 13) 71 d_C_about_13 (by decide) (by decide) (show _ = some 58 by decide) (by decide) ?_
      refine AW.aload_n X (pc := 71) 0 rfl rfl d_C_about_71 ?_
      refine AW.callV X (pc := 72) (b := 5 + 4 * i) (ci := 3) (nA := 0) [] [] (c_U_disposalDay (kOf G ad N) i μ hN hi) (gv_V wm_C_182 wi_U_disposalDay wl_U_disposalDay wn_U kw_U_disposalDay) rfl (by decide +kernel) rfl (by omega) (sh_u hi) rfl ⟨Nat.le_of_ble_eq_true rfl, Nat.le_of_ble_eq_true rfl⟩ ⟨Nat.zero_le _, Nat.zero_le _⟩ (Nat.le_of_ble_eq_true rfl) d_C_about_72 rfl (fun v μ2 hq => ?_)
      obtain ⟨rfl, hm⟩ := hq
      rw [hm]
      clear hm
      show AW G (rmD 1) 4 (0, 0, ad, N, fb) 75 [(3, .ref (5 + 4 * i)), (0, .ref 0), (1, .int (nI i)), (2, .int 7)] [.int (μ (5 + 4 * i) 7)] μ
      exact hret 75 _ _ _ d_C_about_75 ⟨by rw [show F_about μ (nI i) 7 = μ (5 + 4 * i) 7 by simp [F_about, hU, hci]], rfl⟩
    by_cases n8 : w = 8
    · subst n8
      show AW G (rmD 1) 4 (0, 0, ad, N, fb) 0 [(0, .ref 0), (1, .int (nI i)), (2, .int 8)] [] μ
      refine AW.aload_n X (pc := 0) 0 rfl rfl d_C_about_0 ?_
      refine AW.iload_n X (pc := 1) 1 rfl rfl d_C_about_1 ?_
      refine AW.callV X (pc := 2) (b := 0) (ci := 4) (nA := 1) [.int (nI i)] [] (c_C_findUnit (kOf G ad N) i nr μ hN hi hI hKN) (gv_V wm_C_93 wi_C_findUnit wl_C_findUnit wn_C kw_C_findUnit) rfl (by decide +kernel) rfl (by omega) rfl rfl ⟨Nat.le_of_ble_eq_true rfl, Nat.le_of_ble_eq_true rfl⟩ ⟨Nat.zero_le _, Nat.zero_le _⟩ (Nat.le_of_ble_eq_true rfl) d_C_about_2 rfl (fun v μ2 hq => ?_)
      obtain ⟨rfl, hm⟩ := hq
      rw [hm]
      clear hm
      show AW G (rmD 1) 4 (0, 0, ad, N, fb) 5 [(0, .ref 0), (1, .int (nI i)), (2, .int 8)] [.ref (5 + 4 * i)] μ
      refine AW.astore_n X (pc := 5) (lv2 := [(3, .ref (5 + 4 * i)), (0, .ref 0), (1, .int (nI i)), (2, .int 8)]) rfl d_C_about_5 (by decide) rfl ?_
      refine AW.aload_n X (pc := 6) 0 rfl rfl d_C_about_6 ?_
      refine AW.ifnonnull X (pc := 7) 12 d_C_about_7 (by decide) ?_
      refine AW.iload_n X (pc := 12) 3 rfl rfl d_C_about_12 ?_
      refine AW.tableIn X (pc := 13) 76 d_C_about_13 (by decide) (by decide) (show _ = some 63 by decide) (by decide) ?_
      refine AW.aload_n X (pc := 76) 0 rfl rfl d_C_about_76 ?_
      refine AW.callV X (pc := 77) (b := 5 + 4 * i) (ci := 3) (nA := 0) [] [] (c_U_certificateNumber (kOf G ad N) i μ hN hi) (gv_V wm_C_185 wi_U_certificateNumber wl_U_certificateNumber wn_U kw_U_certificateNumber) rfl (by decide +kernel) rfl (by omega) (sh_u hi) rfl ⟨Nat.le_of_ble_eq_true rfl, Nat.le_of_ble_eq_true rfl⟩ ⟨Nat.zero_le _, Nat.zero_le _⟩ (Nat.le_of_ble_eq_true rfl) d_C_about_77 rfl (fun v μ2 hq => ?_)
      obtain ⟨rfl, hm⟩ := hq
      rw [hm]
      clear hm
      show AW G (rmD 1) 4 (0, 0, ad, N, fb) 80 [(3, .ref (5 + 4 * i)), (0, .ref 0), (1, .int (nI i)), (2, .int 8)] [.int (μ (5 + 4 * i) 8)] μ
      exact hret 80 _ _ _ d_C_about_80 ⟨by rw [show F_about μ (nI i) 8 = μ (5 + 4 * i) 8 by simp [F_about, hU, hci]], rfl⟩
    refine AW.aload_n X (pc := 0) 0 rfl rfl d_C_about_0 ?_
    refine AW.iload_n X (pc := 1) 1 rfl rfl d_C_about_1 ?_
    refine AW.callV X (pc := 2) (b := 0) (ci := 4) (nA := 1) [.int (nI i)] [] (c_C_findUnit (kOf G ad N) i nr μ hN hi hI hKN) (gv_V wm_C_93 wi_C_findUnit wl_C_findUnit wn_C kw_C_findUnit) rfl (by decide +kernel) rfl (by omega) rfl rfl ⟨Nat.le_of_ble_eq_true rfl, Nat.le_of_ble_eq_true rfl⟩ ⟨Nat.zero_le _, Nat.zero_le _⟩ (Nat.le_of_ble_eq_true rfl) d_C_about_2 rfl (fun v μ2 hq => ?_)
    obtain ⟨rfl, hm⟩ := hq
    rw [hm]
    clear hm
    show AW G (rmD 1) 4 (0, 0, ad, N, fb) 5 [(0, .ref 0), (1, .int (nI i)), (2, .int w)] [.ref (5 + 4 * i)] μ
    refine AW.astore_n X (pc := 5) (lv2 := [(3, .ref (5 + 4 * i)), (0, .ref 0), (1, .int (nI i)), (2, .int w)]) rfl d_C_about_5 (by decide) rfl ?_
    refine AW.aload_n X (pc := 6) 0 rfl rfl d_C_about_6 ?_
    refine AW.ifnonnull X (pc := 7) 12 d_C_about_7 (by decide) ?_
    refine AW.iload_n X (pc := 12) 3 rfl rfl d_C_about_12 ?_
    refine AW.tableOut X (pc := 13) 81 d_C_about_13 (by have h4 := lv_neT n4 (a := 4) (by decide); have h5 := lv_neT n5 (a := 5) (by decide); have h6 := lv_neT n6 (a := 6) (by decide); have h7 := lv_neT n7 (a := 7) (by decide); have h8 := lv_neT n8 (a := 8) (by decide); omega) (by decide) ?_
    refine AW.iload_n X (pc := 81) 3 rfl rfl d_C_about_81 ?_
    refine AW.if_lt X (pc := 82) 98 d_C_about_82 (by decide) (fun c_82 => ?_) (fun c_82 => ?_)
    · refine AW.iconst X (pc := 98) (v := -1) (by decide) d_C_about_98 ?_
      exact hret 99 _ _ _ d_C_about_99 ⟨by rw [show F_about μ (nI i) w = -1 by simp [F_about, hU, hci, n4, n5, n6, n7, n8, c_82]], rfl⟩
    · refine AW.iload_n X (pc := 85) 3 rfl rfl d_C_about_85 ?_
      refine AW.iconst X (pc := 86) (v := 4) (by decide) d_C_about_86 ?_
      refine AW.icmp_ge X (pc := 87) 98 d_C_about_87 (by decide) (fun c_87 => ?_) (fun c_87 => ?_)
      · refine AW.iconst X (pc := 98) (v := -1) (by decide) d_C_about_98 ?_
        exact hret 99 _ _ _ d_C_about_99 ⟨by rw [show F_about μ (nI i) w = -1 by simp [F_about, hU, hci, n4, n5, n6, n7, n8, c_82, c_87]], rfl⟩
      · obtain ⟨q, hq, rfl⟩ := ofIx (n := 4) (M := 4) (by decide) (by decide) c_82 c_87
        have hcq : (nI q).toNatClampNeg = q := nI_clamp (by omega)
        refine AW.aload_n X (pc := 90) 0 rfl rfl d_C_about_90 ?_
        refine AW.iload_n X (pc := 91) 3 rfl rfl d_C_about_91 ?_
        refine AW.callV X (pc := 92) (b := 5 + 4 * i) (ci := 3) (nA := 1) [.int (nI q)] [] (c_U_eventDay (kOf G ad N) i q μ hN hi hq) (gv_V wm_C_188 wi_U_eventDay wl_U_eventDay wn_U kw_U_eventDay) rfl (by decide +kernel) rfl (by omega) (sh_u hi) rfl ⟨Nat.le_of_ble_eq_true rfl, Nat.le_of_ble_eq_true rfl⟩ ⟨Nat.zero_le _, Nat.zero_le _⟩ (Nat.le_of_ble_eq_true rfl) d_C_about_92 rfl (fun v μ2 hq => ?_)
        obtain ⟨rfl, hm⟩ := hq
        rw [hm]
        clear hm
        show AW G (rmD 1) 4 (0, 0, ad, N, fb) 95 [(3, .ref (5 + 4 * i)), (0, .ref 0), (1, .int (nI i)), (2, .int (nI q))] [.int (μ (5 + 4 * i + 1) q)] μ
        refine AW.goto X (pc := 95) 99 d_C_about_95 (by decide) ?_
        exact hret 99 _ _ _ d_C_about_99 ⟨by rw [show F_about μ (nI i) (nI q) = μ (5 + 4 * i + 1) q by simp [F_about, hU, hci, n4, n5, n6, n7, n8, c_82, c_87, hcq]], rfl⟩
set_option maxHeartbeats 4000000 in
set_option maxRecDepth 100000 in
theorem c_C_change (K : KTy) (nr : Nat) (x y d : Int32) (μ : Mu) (hN : 272 ≤ KN K) (hI : CI μ nr) (hKN : KN K = 272 + 3 * nr) : CT K y_C_change (k_C_change :: GT) 1 [.ref 0, .int x, .int y, .int d] μ (fun v μ2 => v = some (.int (F_change μ nr x y d).1) ∧ μ2 = (F_change μ nr x y d).2) := by
  refine CT.int (cc := b_C_change) (maxL := 5) (by decide) rfl rfl (Nat.le_of_ble_eq_true rfl) ?_
  intro G ad N hK X hret
  subst hK
  have hN : 272 ≤ N := hN
  have hKN : N = 272 + 3 * nr := hKN
  have hnr := hI.nr
  show AW G (rmD 1) 5 (0, 0, ad, N, fb) 0 [(0, .ref 0), (1, .int x), (2, .int y), (3, .int d)] [] μ
  cases hR : okR nr x with
  | false =>
    refine AW.aload_n X (pc := 0) 0 rfl rfl d_C_change_0 ?_
    refine AW.iload_n X (pc := 1) 1 rfl rfl d_C_change_1 ?_
    refine AW.callV X (pc := 2) (b := 0) (ci := 4) (nA := 1) [.int x] [] (c_C_findRule_no (kOf G ad N) nr x μ hN hR hI hKN) (gv_V wm_C_71 wi_C_findRule wl_C_findRule wn_C kw_C_findRule) rfl (by decide +kernel) rfl (by omega) rfl rfl ⟨Nat.le_of_ble_eq_true rfl, Nat.le_of_ble_eq_true rfl⟩ ⟨Nat.zero_le _, Nat.zero_le _⟩ (Nat.le_of_ble_eq_true rfl) d_C_change_2 rfl (fun v μ2 hq => ?_)
    obtain ⟨rfl, hm⟩ := hq
    rw [hm]
    clear hm
    show AW G (rmD 1) 5 (0, 0, ad, N, fb) 5 [(0, .ref 0), (1, .int x), (2, .int y), (3, .int d)] [.null] μ
    refine AW.astoreN X (pc := 5) (lv2 := [(4, .null), (0, .ref 0), (1, .int x), (2, .int y), (3, .int d)]) d_C_change_5 (by decide) rfl ?_
    refine AW.aloadN X (pc := 7) 0 rfl d_C_change_7 ?_
    refine AW.ifnonnullN X (pc := 9) d_C_change_9 ?_
    refine AW.iconst X (pc := 12) (v := -1) (by decide) d_C_change_12 ?_
    exact hret 13 _ _ _ d_C_change_13 (by rw [show F_change μ nr x y d = (-1, μ) by first | (simp [F_change, hR]; done) | simp +contextual [F_change, hR]]; exact ⟨rfl, rfl⟩)
  | true =>
    obtain ⟨r, hr, rfl⟩ := okR_of hnr hR
    have hcr : (nI r).toNatClampNeg = r := nI_clamp (by omega)
    have hw := hr
    show AW G (rmD 1) 5 (0, 0, ad, N, fb) 0 [(0, .ref 0), (1, .int (nI r)), (2, .int y), (3, .int d)] [] μ
    by_cases h5 : ccN μ r < 5
    · refine AW.aload_n X (pc := 0) 0 rfl rfl d_C_change_0 ?_
      refine AW.iload_n X (pc := 1) 1 rfl rfl d_C_change_1 ?_
      refine AW.callV X (pc := 2) (b := 0) (ci := 4) (nA := 1) [.int (nI r)] [] (c_C_findRule (kOf G ad N) r nr μ hN hr hI hKN) (gv_V wm_C_71 wi_C_findRule wl_C_findRule wn_C kw_C_findRule) rfl (by decide +kernel) rfl (by omega) rfl rfl ⟨Nat.le_of_ble_eq_true rfl, Nat.le_of_ble_eq_true rfl⟩ ⟨Nat.zero_le _, Nat.zero_le _⟩ (Nat.le_of_ble_eq_true rfl) d_C_change_2 rfl (fun v μ2 hq => ?_)
      obtain ⟨rfl, hm⟩ := hq
      rw [hm]
      clear hm
      show AW G (rmD 1) 5 (0, 0, ad, N, fb) 5 [(0, .ref 0), (1, .int (nI r)), (2, .int y), (3, .int d)] [.ref (272 + 3 * r)] μ
      refine AW.astore X (pc := 5) (lv2 := [(4, .ref (272 + 3 * r)), (0, .ref 0), (1, .int (nI r)), (2, .int y), (3, .int d)]) d_C_change_5 (by decide) rfl ?_
      refine AW.aload X (pc := 7) 0 rfl d_C_change_7 ?_
      refine AW.ifnonnull X (pc := 9) 14 d_C_change_9 (by decide) ?_
      refine AW.iload_n X (pc := 14) 3 rfl rfl d_C_change_14 ?_
      refine AW.if_lt X (pc := 15) 32 d_C_change_15 (by decide) (fun c_15 => ?_) (fun c_15 => ?_)
      · refine AW.bipush X (pc := 32) (v := -2) (by decide) d_C_change_32 ?_
        exact hret 34 _ _ _ d_C_change_34 (by rw [show F_change μ nr (nI r) y d = (-2, μ) by first | (simp [F_change, hR, hcr, h5, c_15]; done) | simp +contextual [F_change, hR, hcr, h5, c_15]]; exact ⟨rfl, rfl⟩)
      · refine AW.iload_n X (pc := 18) 3 rfl rfl d_C_change_18 ?_
        refine AW.sipush X (pc := 19) (v := 999) (by decide) d_C_change_19 ?_
        refine AW.icmp_gt X (pc := 22) 32 d_C_change_22 (by decide) (fun c_22 => ?_) (fun c_22 => ?_)
        · refine AW.bipush X (pc := 32) (v := -2) (by decide) d_C_change_32 ?_
          exact hret 34 _ _ _ d_C_change_34 (by rw [show F_change μ nr (nI r) y d = (-2, μ) by first | (simp [F_change, hR, hcr, h5, c_15, c_22]; done) | simp +contextual [F_change, hR, hcr, h5, c_15, c_22]]; exact ⟨rfl, rfl⟩)
        · refine AW.iload_n X (pc := 25) 4 rfl rfl d_C_change_25 ?_
          refine AW.callS X (pc := 26) (nA := 1) [.int d] [] (c_C_isDay (kOf G ad N) d μ hN) (gv_S wm_C_75 ws_C_isDay wn_C kw_C_isDay) rfl (by decide +kernel) rfl ⟨Nat.le_of_ble_eq_true rfl, Nat.le_of_ble_eq_true rfl⟩ ⟨Nat.zero_le _, Nat.zero_le _⟩ (Nat.le_of_ble_eq_true rfl) d_C_change_26 rfl (fun v μ2 hq => ?_)
          obtain ⟨rfl, hm⟩ := hq
          rw [hm]
          clear hm
          show AW G (rmD 1) 5 (0, 0, ad, N, fb) 29 [(4, .ref (272 + 3 * r)), (0, .ref 0), (1, .int (nI r)), (2, .int y), (3, .int d)] [.int (bi (okD d))] μ
          refine AW.if_ne X (pc := 29) 35 d_C_change_29 (by decide) (fun c_29 => ?_) (fun c_29 => ?_)
          · have c_29 := bi_ne.mp c_29
            refine AW.aload X (pc := 35) 0 rfl d_C_change_35 ?_
            refine AW.iload_n X (pc := 37) 4 rfl rfl d_C_change_37 ?_
            refine AW.callV X (pc := 38) (b := 272 + 3 * r) (ci := 1) (nA := 1) [.int d] [] (c_R_isChangedFrom (kOf G ad N) r nr d μ hN hr hI hKN) (gv_V wm_C_79 wi_R_isChangedFrom wl_R_isChangedFrom wn_R kw_R_isChangedFrom) rfl (by decide +kernel) rfl (by omega) (sh_r _) rfl ⟨Nat.le_of_ble_eq_true rfl, Nat.le_of_ble_eq_true rfl⟩ ⟨Nat.zero_le _, Nat.zero_le _⟩ (Nat.le_of_ble_eq_true rfl) d_C_change_38 rfl (fun v μ2 hq => ?_)
            obtain ⟨rfl, hm⟩ := hq
            rw [hm]
            clear hm
            show AW G (rmD 1) 5 (0, 0, ad, N, fb) 41 [(4, .ref (272 + 3 * r)), (0, .ref 0), (1, .int (nI r)), (2, .int y), (3, .int d)] [.int (bi (decide (0 < ccN μ r ∧ ¬ μ (272 + 3 * r + 1) (ccN μ r - 1) < d)))] μ
            refine AW.if_eq X (pc := 41) 47 d_C_change_41 (by decide) (fun c_41 => ?_) (fun c_41 => ?_)
            · have c_41 := of_decide_eq_false (bi_eq.mp c_41)
              simp at c_41
              refine AW.aload X (pc := 47) 0 rfl d_C_change_47 ?_
              refine AW.iload_n X (pc := 49) 3 rfl rfl d_C_change_49 ?_
              refine AW.iload_n X (pc := 50) 4 rfl rfl d_C_change_50 ?_
              refine AW.callV X (pc := 51) (b := 272 + 3 * r) (ci := 1) (nA := 2) [.int y, .int d] [] (c_R_addChange (kOf G ad N) r nr y d μ hN hr hI hKN) (gv_V wm_C_82 wi_R_addChange wl_R_addChange wn_R kw_R_addChange) rfl (by decide +kernel) rfl (by omega) (sh_r _) rfl ⟨Nat.le_of_ble_eq_true rfl, Nat.le_of_ble_eq_true rfl⟩ ⟨Nat.zero_le _, Nat.zero_le _⟩ (Nat.le_of_ble_eq_true rfl) d_C_change_51 rfl (fun v μ2 hq => ?_)
              rw [if_pos h5] at hq
              obtain ⟨rfl, hm⟩ := hq
              rw [hm]
              clear hm
              show AW G (rmD 1) 5 (0, 0, ad, N, fb) 54 [(4, .ref (272 + 3 * r)), (0, .ref 0), (1, .int (nI r)), (2, .int y), (3, .int d)] [.int 1] (m_up (m_up (m_up μ (272 + 3 * r + 1) (ccN μ r) d) (272 + 3 * r + 2) (ccN μ r) y) (272 + 3 * r) 5 (nI (ccN μ r) + 1))
              refine AW.if_eq X (pc := 54) 61 d_C_change_54 (by decide) (fun c_54 => absurd c_54 (by decide)) (fun c_54 => ?_)
              refine AW.iconst X (pc := 57) (v := 1) (by decide) d_C_change_57 ?_
              refine AW.goto X (pc := 58) 63 d_C_change_58 (by decide) ?_
              exact hret 63 _ _ _ d_C_change_63 (by rw [show F_change μ nr (nI r) y d = (1, (m_up (m_up (m_up μ (272 + 3 * r + 1) (ccN μ r) d) (272 + 3 * r + 2) (ccN μ r) y) (272 + 3 * r) 5 (nI (ccN μ r) + 1))) by first | (simp [F_change, hR, hcr, h5, c_15, c_22, c_29, c_41, c_54]; done) | simp +contextual [F_change, hR, hcr, h5, c_15, c_22, c_29, c_41, c_54]]; exact ⟨rfl, rfl⟩)
            · have c_41 := of_decide_eq_true (bi_ne.mp c_41)
              refine AW.bipush X (pc := 44) (v := -3) (by decide) d_C_change_44 ?_
              exact hret 46 _ _ _ d_C_change_46 (by rw [show F_change μ nr (nI r) y d = (-3, μ) by first | (simp [F_change, hR, hcr, h5, c_15, c_22, c_29, c_41]; done) | simp +contextual [F_change, hR, hcr, h5, c_15, c_22, c_29, c_41]]; exact ⟨rfl, rfl⟩)
          · have c_29 := bi_eq.mp c_29
            refine AW.bipush X (pc := 32) (v := -2) (by decide) d_C_change_32 ?_
            exact hret 34 _ _ _ d_C_change_34 (by rw [show F_change μ nr (nI r) y d = (-2, μ) by first | (simp [F_change, hR, hcr, h5, c_15, c_22, c_29]; done) | simp +contextual [F_change, hR, hcr, h5, c_15, c_22, c_29]]; exact ⟨rfl, rfl⟩)
    · refine AW.aload_n X (pc := 0) 0 rfl rfl d_C_change_0 ?_
      refine AW.iload_n X (pc := 1) 1 rfl rfl d_C_change_1 ?_
      refine AW.callV X (pc := 2) (b := 0) (ci := 4) (nA := 1) [.int (nI r)] [] (c_C_findRule (kOf G ad N) r nr μ hN hr hI hKN) (gv_V wm_C_71 wi_C_findRule wl_C_findRule wn_C kw_C_findRule) rfl (by decide +kernel) rfl (by omega) rfl rfl ⟨Nat.le_of_ble_eq_true rfl, Nat.le_of_ble_eq_true rfl⟩ ⟨Nat.zero_le _, Nat.zero_le _⟩ (Nat.le_of_ble_eq_true rfl) d_C_change_2 rfl (fun v μ2 hq => ?_)
      obtain ⟨rfl, hm⟩ := hq
      rw [hm]
      clear hm
      show AW G (rmD 1) 5 (0, 0, ad, N, fb) 5 [(0, .ref 0), (1, .int (nI r)), (2, .int y), (3, .int d)] [.ref (272 + 3 * r)] μ
      refine AW.astore X (pc := 5) (lv2 := [(4, .ref (272 + 3 * r)), (0, .ref 0), (1, .int (nI r)), (2, .int y), (3, .int d)]) d_C_change_5 (by decide) rfl ?_
      refine AW.aload X (pc := 7) 0 rfl d_C_change_7 ?_
      refine AW.ifnonnull X (pc := 9) 14 d_C_change_9 (by decide) ?_
      refine AW.iload_n X (pc := 14) 3 rfl rfl d_C_change_14 ?_
      refine AW.if_lt X (pc := 15) 32 d_C_change_15 (by decide) (fun c_15 => ?_) (fun c_15 => ?_)
      · refine AW.bipush X (pc := 32) (v := -2) (by decide) d_C_change_32 ?_
        exact hret 34 _ _ _ d_C_change_34 (by rw [show F_change μ nr (nI r) y d = (-2, μ) by first | (simp [F_change, hR, hcr, h5, c_15]; done) | simp +contextual [F_change, hR, hcr, h5, c_15]]; exact ⟨rfl, rfl⟩)
      · refine AW.iload_n X (pc := 18) 3 rfl rfl d_C_change_18 ?_
        refine AW.sipush X (pc := 19) (v := 999) (by decide) d_C_change_19 ?_
        refine AW.icmp_gt X (pc := 22) 32 d_C_change_22 (by decide) (fun c_22 => ?_) (fun c_22 => ?_)
        · refine AW.bipush X (pc := 32) (v := -2) (by decide) d_C_change_32 ?_
          exact hret 34 _ _ _ d_C_change_34 (by rw [show F_change μ nr (nI r) y d = (-2, μ) by first | (simp [F_change, hR, hcr, h5, c_15, c_22]; done) | simp +contextual [F_change, hR, hcr, h5, c_15, c_22]]; exact ⟨rfl, rfl⟩)
        · refine AW.iload_n X (pc := 25) 4 rfl rfl d_C_change_25 ?_
          refine AW.callS X (pc := 26) (nA := 1) [.int d] [] (c_C_isDay (kOf G ad N) d μ hN) (gv_S wm_C_75 ws_C_isDay wn_C kw_C_isDay) rfl (by decide +kernel) rfl ⟨Nat.le_of_ble_eq_true rfl, Nat.le_of_ble_eq_true rfl⟩ ⟨Nat.zero_le _, Nat.zero_le _⟩ (Nat.le_of_ble_eq_true rfl) d_C_change_26 rfl (fun v μ2 hq => ?_)
          obtain ⟨rfl, hm⟩ := hq
          rw [hm]
          clear hm
          show AW G (rmD 1) 5 (0, 0, ad, N, fb) 29 [(4, .ref (272 + 3 * r)), (0, .ref 0), (1, .int (nI r)), (2, .int y), (3, .int d)] [.int (bi (okD d))] μ
          refine AW.if_ne X (pc := 29) 35 d_C_change_29 (by decide) (fun c_29 => ?_) (fun c_29 => ?_)
          · have c_29 := bi_ne.mp c_29
            refine AW.aload X (pc := 35) 0 rfl d_C_change_35 ?_
            refine AW.iload_n X (pc := 37) 4 rfl rfl d_C_change_37 ?_
            refine AW.callV X (pc := 38) (b := 272 + 3 * r) (ci := 1) (nA := 1) [.int d] [] (c_R_isChangedFrom (kOf G ad N) r nr d μ hN hr hI hKN) (gv_V wm_C_79 wi_R_isChangedFrom wl_R_isChangedFrom wn_R kw_R_isChangedFrom) rfl (by decide +kernel) rfl (by omega) (sh_r _) rfl ⟨Nat.le_of_ble_eq_true rfl, Nat.le_of_ble_eq_true rfl⟩ ⟨Nat.zero_le _, Nat.zero_le _⟩ (Nat.le_of_ble_eq_true rfl) d_C_change_38 rfl (fun v μ2 hq => ?_)
            obtain ⟨rfl, hm⟩ := hq
            rw [hm]
            clear hm
            show AW G (rmD 1) 5 (0, 0, ad, N, fb) 41 [(4, .ref (272 + 3 * r)), (0, .ref 0), (1, .int (nI r)), (2, .int y), (3, .int d)] [.int (bi (decide (0 < ccN μ r ∧ ¬ μ (272 + 3 * r + 1) (ccN μ r - 1) < d)))] μ
            refine AW.if_eq X (pc := 41) 47 d_C_change_41 (by decide) (fun c_41 => ?_) (fun c_41 => ?_)
            · have c_41 := of_decide_eq_false (bi_eq.mp c_41)
              simp at c_41
              refine AW.aload X (pc := 47) 0 rfl d_C_change_47 ?_
              refine AW.iload_n X (pc := 49) 3 rfl rfl d_C_change_49 ?_
              refine AW.iload_n X (pc := 50) 4 rfl rfl d_C_change_50 ?_
              refine AW.callV X (pc := 51) (b := 272 + 3 * r) (ci := 1) (nA := 2) [.int y, .int d] [] (c_R_addChange (kOf G ad N) r nr y d μ hN hr hI hKN) (gv_V wm_C_82 wi_R_addChange wl_R_addChange wn_R kw_R_addChange) rfl (by decide +kernel) rfl (by omega) (sh_r _) rfl ⟨Nat.le_of_ble_eq_true rfl, Nat.le_of_ble_eq_true rfl⟩ ⟨Nat.zero_le _, Nat.zero_le _⟩ (Nat.le_of_ble_eq_true rfl) d_C_change_51 rfl (fun v μ2 hq => ?_)
              rw [if_neg h5] at hq
              obtain ⟨rfl, hm⟩ := hq
              rw [hm]
              clear hm
              show AW G (rmD 1) 5 (0, 0, ad, N, fb) 54 [(4, .ref (272 + 3 * r)), (0, .ref 0), (1, .int (nI r)), (2, .int y), (3, .int d)] [.int 0] μ
              refine AW.if_eq X (pc := 54) 61 d_C_change_54 (by decide) (fun c_54 => ?_) (fun c_54 => absurd c_54 (by decide))
              refine AW.bipush X (pc := 61) (v := -4) (by decide) d_C_change_61 ?_
              exact hret 63 _ _ _ d_C_change_63 (by rw [show F_change μ nr (nI r) y d = (-4, μ) by first | (simp [F_change, hR, hcr, h5, c_15, c_22, c_29, c_41, c_54]; done) | simp +contextual [F_change, hR, hcr, h5, c_15, c_22, c_29, c_41, c_54]]; exact ⟨rfl, rfl⟩)
            · have c_41 := of_decide_eq_true (bi_ne.mp c_41)
              refine AW.bipush X (pc := 44) (v := -3) (by decide) d_C_change_44 ?_
              exact hret 46 _ _ _ d_C_change_46 (by rw [show F_change μ nr (nI r) y d = (-3, μ) by first | (simp [F_change, hR, hcr, h5, c_15, c_22, c_29, c_41]; done) | simp +contextual [F_change, hR, hcr, h5, c_15, c_22, c_29, c_41]]; exact ⟨rfl, rfl⟩)
          · have c_29 := bi_eq.mp c_29
            refine AW.bipush X (pc := 32) (v := -2) (by decide) d_C_change_32 ?_
            exact hret 34 _ _ _ d_C_change_34 (by rw [show F_change μ nr (nI r) y d = (-2, μ) by first | (simp [F_change, hR, hcr, h5, c_15, c_22, c_29]; done) | simp +contextual [F_change, hR, hcr, h5, c_15, c_22, c_29]]; exact ⟨rfl, rfl⟩)
set_option maxHeartbeats 4000000 in
set_option maxRecDepth 100000 in
theorem c_C_breaks (K : KTy) (nr : Nat) (x : Int32) (b : Bool) (μ : Mu) (hN : 272 ≤ KN K) (hI : CI μ nr) (hKN : KN K = 272 + 3 * nr) : CT K y_C_breaks (k_C_breaks :: GT) 1 [.ref 0, .int x, .int (bi b)] μ (fun v μ2 => v = some (.int (bi (F_breaks μ nr x b).1)) ∧ μ2 = (F_breaks μ nr x b).2) := by
  refine CT.bool (cc := b_C_breaks) (maxL := 5) (by decide) rfl rfl (Nat.le_of_ble_eq_true rfl) ?_
  intro G ad N hK X hret
  subst hK
  have hN : 272 ≤ N := hN
  have hKN : N = 272 + 3 * nr := hKN
  have hnr := hI.nr
  show AW G (rmD 1) 5 (0, 0, ad, N, fb) 0 [(0, .ref 0), (1, .int x), (2, .int (bi b))] [] μ
  cases hR : okR nr x with
  | false =>
    refine AW.aload_n X (pc := 0) 0 rfl rfl d_C_breaks_0 ?_
    refine AW.iload_n X (pc := 1) 1 rfl rfl d_C_breaks_1 ?_
    refine AW.callV X (pc := 2) (b := 0) (ci := 4) (nA := 1) [.int x] [] (c_C_findRule_no (kOf G ad N) nr x μ hN hR hI hKN) (gv_V wm_C_71 wi_C_findRule wl_C_findRule wn_C kw_C_findRule) rfl (by decide +kernel) rfl (by omega) rfl rfl ⟨Nat.le_of_ble_eq_true rfl, Nat.le_of_ble_eq_true rfl⟩ ⟨Nat.zero_le _, Nat.zero_le _⟩ (Nat.le_of_ble_eq_true rfl) d_C_breaks_2 rfl (fun v μ2 hq => ?_)
    obtain ⟨rfl, hm⟩ := hq
    rw [hm]
    clear hm
    show AW G (rmD 1) 5 (0, 0, ad, N, fb) 5 [(0, .ref 0), (1, .int x), (2, .int (bi b))] [.null] μ
    refine AW.astore_nN X (pc := 5) (lv2 := [(3, .null), (0, .ref 0), (1, .int x), (2, .int (bi b))]) rfl d_C_breaks_5 (by decide) rfl ?_
    refine AW.aload_nN X (pc := 6) 0 rfl rfl d_C_breaks_6 ?_
    refine AW.ifnonnullN X (pc := 7) d_C_breaks_7 ?_
    refine AW.iconst X (pc := 10) (v := 0) (by decide) d_C_breaks_10 ?_
    exact hret 11 _ _ _ d_C_breaks_11 rfl (by rw [show F_breaks μ nr x b = (false, μ) by simp [F_breaks, hR]]; exact ⟨rfl, rfl⟩)
  | true =>
    obtain ⟨r, hr, rfl⟩ := okR_of hnr hR
    have hcr : (nI r).toNatClampNeg = r := nI_clamp (by omega)
    have hw := hr
    show AW G (rmD 1) 5 (0, 0, ad, N, fb) 0 [(0, .ref 0), (1, .int (nI r)), (2, .int (bi b))] [] μ
    refine AW.aload_n X (pc := 0) 0 rfl rfl d_C_breaks_0 ?_
    refine AW.iload_n X (pc := 1) 1 rfl rfl d_C_breaks_1 ?_
    refine AW.callV X (pc := 2) (b := 0) (ci := 4) (nA := 1) [.int (nI r)] [] (c_C_findRule (kOf G ad N) r nr μ hN hr hI hKN) (gv_V wm_C_71 wi_C_findRule wl_C_findRule wn_C kw_C_findRule) rfl (by decide +kernel) rfl (by omega) rfl rfl ⟨Nat.le_of_ble_eq_true rfl, Nat.le_of_ble_eq_true rfl⟩ ⟨Nat.zero_le _, Nat.zero_le _⟩ (Nat.le_of_ble_eq_true rfl) d_C_breaks_2 rfl (fun v μ2 hq => ?_)
    obtain ⟨rfl, hm⟩ := hq
    rw [hm]
    clear hm
    show AW G (rmD 1) 5 (0, 0, ad, N, fb) 5 [(0, .ref 0), (1, .int (nI r)), (2, .int (bi b))] [.ref (272 + 3 * r)] μ
    refine AW.astore_n X (pc := 5) (lv2 := [(3, .ref (272 + 3 * r)), (0, .ref 0), (1, .int (nI r)), (2, .int (bi b))]) rfl d_C_breaks_5 (by decide) rfl ?_
    refine AW.aload_n X (pc := 6) 0 rfl rfl d_C_breaks_6 ?_
    refine AW.ifnonnull X (pc := 7) 12 d_C_breaks_7 (by decide) ?_
    refine AW.aload_n X (pc := 12) 0 rfl rfl d_C_breaks_12 ?_
    refine AW.callV X (pc := 13) (b := 272 + 3 * r) (ci := 1) (nA := 0) [] [] (c_R_isBroken (kOf G ad N) r (brB μ r) μ hN (show 272 + 3 * r + 2 < N by omega) (hI.br hw)) (gv_V wm_C_86 wi_R_isBroken wl_R_isBroken wn_R kw_R_isBroken) rfl (by decide +kernel) rfl (by omega) (sh_r _) rfl ⟨Nat.le_of_ble_eq_true rfl, Nat.le_of_ble_eq_true rfl⟩ ⟨Nat.zero_le _, Nat.zero_le _⟩ (Nat.le_of_ble_eq_true rfl) d_C_breaks_13 rfl (fun v μ2 hq => ?_)
    obtain ⟨rfl, hm⟩ := hq
    rw [hm]
    clear hm
    show AW G (rmD 1) 5 (0, 0, ad, N, fb) 16 [(3, .ref (272 + 3 * r)), (0, .ref 0), (1, .int (nI r)), (2, .int (bi b))] [.int (bi (brB μ r))] μ
    refine AW.istore X (pc := 16) (lv2 := [(4, .int (bi (brB μ r))), (3, .ref (272 + 3 * r)), (0, .ref 0), (1, .int (nI r)), (2, .int (bi b))]) d_C_breaks_16 (by decide) rfl ?_
    refine AW.aload_n X (pc := 18) 1 rfl rfl d_C_breaks_18 ?_
    refine AW.iload_n X (pc := 19) 4 rfl rfl d_C_breaks_19 ?_
    refine AW.callV X (pc := 20) (b := 272 + 3 * r) (ci := 1) (nA := 1) [.int (bi b)] [] (c_R_setBroken (kOf G ad N) r b μ hN (show 272 + 3 * r + 2 < N by omega)) (gv_V wm_C_89 wi_R_setBroken wl_R_setBroken wn_R kw_R_setBroken) rfl (by decide +kernel) rfl (by omega) (sh_r _) rfl ⟨Nat.le_of_ble_eq_true rfl, Nat.le_of_ble_eq_true rfl⟩ ⟨Nat.zero_le _, Nat.zero_le _⟩ (Nat.le_of_ble_eq_true rfl) d_C_breaks_20 rfl (fun v μ2 hq => ?_)
    obtain ⟨rfl, hm⟩ := hq
    rw [hm]
    clear hm
    show AW G (rmD 1) 5 (0, 0, ad, N, fb) 23 [(4, .int (bi (brB μ r))), (3, .ref (272 + 3 * r)), (0, .ref 0), (1, .int (nI r)), (2, .int (bi b))] [] (m_up μ (272 + 3 * r) 6 (bi b))
    refine AW.iload X (pc := 23) 0 rfl d_C_breaks_23 ?_
    exact hret 25 _ _ _ d_C_breaks_25 (bi_nar _) (by rw [show F_breaks μ nr (nI r) b = (brB μ r, (m_up μ (272 + 3 * r) 6 (bi b))) by simp [F_breaks, hR, hcr]]; exact ⟨rfl, rfl⟩)
set_option maxHeartbeats 4000000 in
set_option maxRecDepth 100000 in
theorem c_C_schedule (K : KTy) (nr : Nat) (u x : Int32) (μ : Mu) (hN : 272 ≤ KN K) (hI : CI μ nr) (hKN : KN K = 272 + 3 * nr) : CT K y_C_schedule (k_C_schedule :: GT) 2 [.ref 0, .int u, .int x] μ (fun v μ2 => v = some (.int (F_schedule μ nr u x).1) ∧ μ2 = (F_schedule μ nr u x).2) := by
  refine CT.int (cc := b_C_schedule) (maxL := 5) (by decide) rfl rfl (Nat.le_of_ble_eq_true rfl) ?_
  intro G ad N hK X hret
  subst hK
  have hN : 272 ≤ N := hN
  have hKN : N = 272 + 3 * nr := hKN
  have hnr := hI.nr
  show AW G (rmD 2) 5 (0, 0, ad, N, fb) 0 [(0, .ref 0), (1, .int u), (2, .int x)] [] μ
  cases hU : okU u with
  | false =>
    cases hR : okR nr x with
    | false =>
      show AW G (rmD 2) 5 (0, 0, ad, N, fb) 0 [(0, .ref 0), (1, .int u), (2, .int x)] [] μ
      refine AW.aload_n X (pc := 0) 0 rfl rfl d_C_schedule_0 ?_
      refine AW.iload_n X (pc := 1) 1 rfl rfl d_C_schedule_1 ?_
      refine AW.callV X (pc := 2) (b := 0) (ci := 4) (nA := 1) [.int u] [] (c_C_findUnit_no (kOf G ad N) u μ hN hU) (gv_V wm_C_93 wi_C_findUnit wl_C_findUnit wn_C kw_C_findUnit) rfl (by decide +kernel) rfl (by omega) rfl rfl ⟨Nat.le_of_ble_eq_true rfl, Nat.le_of_ble_eq_true rfl⟩ ⟨Nat.zero_le _, Nat.zero_le _⟩ (Nat.le_of_ble_eq_true rfl) d_C_schedule_2 rfl (fun v μ2 hq => ?_)
      obtain ⟨rfl, hm⟩ := hq
      rw [hm]
      clear hm
      show AW G (rmD 2) 5 (0, 0, ad, N, fb) 5 [(0, .ref 0), (1, .int u), (2, .int x)] [.null] μ
      refine AW.astore_nN X (pc := 5) (lv2 := [(3, .null), (0, .ref 0), (1, .int u), (2, .int x)]) rfl d_C_schedule_5 (by decide) rfl ?_
      refine AW.aload_n X (pc := 6) 1 rfl rfl d_C_schedule_6 ?_
      refine AW.iload_n X (pc := 7) 3 rfl rfl d_C_schedule_7 ?_
      refine AW.callV X (pc := 8) (b := 0) (ci := 4) (nA := 1) [.int x] [] (c_C_findRule_no (kOf G ad N) nr x μ hN hR hI hKN) (gv_V wm_C_71 wi_C_findRule wl_C_findRule wn_C kw_C_findRule) rfl (by decide +kernel) rfl (by omega) rfl rfl ⟨Nat.le_of_ble_eq_true rfl, Nat.le_of_ble_eq_true rfl⟩ ⟨Nat.zero_le _, Nat.zero_le _⟩ (Nat.le_of_ble_eq_true rfl) d_C_schedule_8 rfl (fun v μ2 hq => ?_)
      obtain ⟨rfl, hm⟩ := hq
      rw [hm]
      clear hm
      show AW G (rmD 2) 5 (0, 0, ad, N, fb) 11 [(3, .null), (0, .ref 0), (1, .int u), (2, .int x)] [.null] μ
      refine AW.astoreN X (pc := 11) (lv2 := [(4, .null), (3, .null), (0, .ref 0), (1, .int u), (2, .int x)]) d_C_schedule_11 (by decide) rfl ?_
      refine AW.aload_nN X (pc := 13) 1 rfl rfl d_C_schedule_13 ?_
      refine AW.ifnullN X (pc := 14) 22 d_C_schedule_14 (by decide) ?_
      refine AW.iconst X (pc := 22) (v := -1) (by decide) d_C_schedule_22 ?_
      exact hret 23 _ _ _ d_C_schedule_23 (by rw [show F_schedule μ nr u x = (-1, μ) by simp [F_schedule, hU, hR]]; exact ⟨rfl, rfl⟩)
    | true =>
      obtain ⟨r, hr, rfl⟩ := okR_of hnr hR
      have hcr : (nI r).toNatClampNeg = r := nI_clamp (by omega)
      show AW G (rmD 2) 5 (0, 0, ad, N, fb) 0 [(0, .ref 0), (1, .int u), (2, .int (nI r))] [] μ
      refine AW.aload_n X (pc := 0) 0 rfl rfl d_C_schedule_0 ?_
      refine AW.iload_n X (pc := 1) 1 rfl rfl d_C_schedule_1 ?_
      refine AW.callV X (pc := 2) (b := 0) (ci := 4) (nA := 1) [.int u] [] (c_C_findUnit_no (kOf G ad N) u μ hN hU) (gv_V wm_C_93 wi_C_findUnit wl_C_findUnit wn_C kw_C_findUnit) rfl (by decide +kernel) rfl (by omega) rfl rfl ⟨Nat.le_of_ble_eq_true rfl, Nat.le_of_ble_eq_true rfl⟩ ⟨Nat.zero_le _, Nat.zero_le _⟩ (Nat.le_of_ble_eq_true rfl) d_C_schedule_2 rfl (fun v μ2 hq => ?_)
      obtain ⟨rfl, hm⟩ := hq
      rw [hm]
      clear hm
      show AW G (rmD 2) 5 (0, 0, ad, N, fb) 5 [(0, .ref 0), (1, .int u), (2, .int (nI r))] [.null] μ
      refine AW.astore_nN X (pc := 5) (lv2 := [(3, .null), (0, .ref 0), (1, .int u), (2, .int (nI r))]) rfl d_C_schedule_5 (by decide) rfl ?_
      refine AW.aload_n X (pc := 6) 1 rfl rfl d_C_schedule_6 ?_
      refine AW.iload_n X (pc := 7) 3 rfl rfl d_C_schedule_7 ?_
      refine AW.callV X (pc := 8) (b := 0) (ci := 4) (nA := 1) [.int (nI r)] [] (c_C_findRule (kOf G ad N) r nr μ hN hr hI hKN) (gv_V wm_C_71 wi_C_findRule wl_C_findRule wn_C kw_C_findRule) rfl (by decide +kernel) rfl (by omega) rfl rfl ⟨Nat.le_of_ble_eq_true rfl, Nat.le_of_ble_eq_true rfl⟩ ⟨Nat.zero_le _, Nat.zero_le _⟩ (Nat.le_of_ble_eq_true rfl) d_C_schedule_8 rfl (fun v μ2 hq => ?_)
      obtain ⟨rfl, hm⟩ := hq
      rw [hm]
      clear hm
      show AW G (rmD 2) 5 (0, 0, ad, N, fb) 11 [(3, .null), (0, .ref 0), (1, .int u), (2, .int (nI r))] [.ref (272 + 3 * r)] μ
      refine AW.astore X (pc := 11) (lv2 := [(4, .ref (272 + 3 * r)), (3, .null), (0, .ref 0), (1, .int u), (2, .int (nI r))]) d_C_schedule_11 (by decide) rfl ?_
      refine AW.aload_nN X (pc := 13) 1 rfl rfl d_C_schedule_13 ?_
      refine AW.ifnullN X (pc := 14) 22 d_C_schedule_14 (by decide) ?_
      refine AW.iconst X (pc := 22) (v := -1) (by decide) d_C_schedule_22 ?_
      exact hret 23 _ _ _ d_C_schedule_23 (by rw [show F_schedule μ nr u (nI r) = (-1, μ) by simp [F_schedule, hU, hR, hcr]]; exact ⟨rfl, rfl⟩)
  | true =>
    obtain ⟨i, hi, rfl⟩ := okU_of hU
    have hci : (nI i).toNatClampNeg = i := nI_clamp (by omega)
    have hrn := (hI.rn hi).2
    cases hR : okR nr x with
    | false =>
      show AW G (rmD 2) 5 (0, 0, ad, N, fb) 0 [(0, .ref 0), (1, .int (nI i)), (2, .int x)] [] μ
      refine AW.aload_n X (pc := 0) 0 rfl rfl d_C_schedule_0 ?_
      refine AW.iload_n X (pc := 1) 1 rfl rfl d_C_schedule_1 ?_
      refine AW.callV X (pc := 2) (b := 0) (ci := 4) (nA := 1) [.int (nI i)] [] (c_C_findUnit (kOf G ad N) i nr μ hN hi hI hKN) (gv_V wm_C_93 wi_C_findUnit wl_C_findUnit wn_C kw_C_findUnit) rfl (by decide +kernel) rfl (by omega) rfl rfl ⟨Nat.le_of_ble_eq_true rfl, Nat.le_of_ble_eq_true rfl⟩ ⟨Nat.zero_le _, Nat.zero_le _⟩ (Nat.le_of_ble_eq_true rfl) d_C_schedule_2 rfl (fun v μ2 hq => ?_)
      obtain ⟨rfl, hm⟩ := hq
      rw [hm]
      clear hm
      show AW G (rmD 2) 5 (0, 0, ad, N, fb) 5 [(0, .ref 0), (1, .int (nI i)), (2, .int x)] [.ref (5 + 4 * i)] μ
      refine AW.astore_n X (pc := 5) (lv2 := [(3, .ref (5 + 4 * i)), (0, .ref 0), (1, .int (nI i)), (2, .int x)]) rfl d_C_schedule_5 (by decide) rfl ?_
      refine AW.aload_n X (pc := 6) 1 rfl rfl d_C_schedule_6 ?_
      refine AW.iload_n X (pc := 7) 3 rfl rfl d_C_schedule_7 ?_
      refine AW.callV X (pc := 8) (b := 0) (ci := 4) (nA := 1) [.int x] [] (c_C_findRule_no (kOf G ad N) nr x μ hN hR hI hKN) (gv_V wm_C_71 wi_C_findRule wl_C_findRule wn_C kw_C_findRule) rfl (by decide +kernel) rfl (by omega) rfl rfl ⟨Nat.le_of_ble_eq_true rfl, Nat.le_of_ble_eq_true rfl⟩ ⟨Nat.zero_le _, Nat.zero_le _⟩ (Nat.le_of_ble_eq_true rfl) d_C_schedule_8 rfl (fun v μ2 hq => ?_)
      obtain ⟨rfl, hm⟩ := hq
      rw [hm]
      clear hm
      show AW G (rmD 2) 5 (0, 0, ad, N, fb) 11 [(3, .ref (5 + 4 * i)), (0, .ref 0), (1, .int (nI i)), (2, .int x)] [.null] μ
      refine AW.astoreN X (pc := 11) (lv2 := [(4, .null), (3, .ref (5 + 4 * i)), (0, .ref 0), (1, .int (nI i)), (2, .int x)]) d_C_schedule_11 (by decide) rfl ?_
      refine AW.aload_n X (pc := 13) 1 rfl rfl d_C_schedule_13 ?_
      refine AW.ifnull X (pc := 14) d_C_schedule_14 ?_
      refine AW.aloadN X (pc := 17) 0 rfl d_C_schedule_17 ?_
      refine AW.ifnonnullN X (pc := 19) d_C_schedule_19 ?_
      refine AW.iconst X (pc := 22) (v := -1) (by decide) d_C_schedule_22 ?_
      exact hret 23 _ _ _ d_C_schedule_23 (by rw [show F_schedule μ nr (nI i) x = (-1, μ) by simp [F_schedule, hU, hR, hci]]; exact ⟨rfl, rfl⟩)
    | true =>
      obtain ⟨r, hr, rfl⟩ := okR_of hnr hR
      have hcr : (nI r).toNatClampNeg = r := nI_clamp (by omega)
      show AW G (rmD 2) 5 (0, 0, ad, N, fb) 0 [(0, .ref 0), (1, .int (nI i)), (2, .int (nI r))] [] μ
      by_cases h4 : rnN μ i < 4
      · refine AW.aload_n X (pc := 0) 0 rfl rfl d_C_schedule_0 ?_
        refine AW.iload_n X (pc := 1) 1 rfl rfl d_C_schedule_1 ?_
        refine AW.callV X (pc := 2) (b := 0) (ci := 4) (nA := 1) [.int (nI i)] [] (c_C_findUnit (kOf G ad N) i nr μ hN hi hI hKN) (gv_V wm_C_93 wi_C_findUnit wl_C_findUnit wn_C kw_C_findUnit) rfl (by decide +kernel) rfl (by omega) rfl rfl ⟨Nat.le_of_ble_eq_true rfl, Nat.le_of_ble_eq_true rfl⟩ ⟨Nat.zero_le _, Nat.zero_le _⟩ (Nat.le_of_ble_eq_true rfl) d_C_schedule_2 rfl (fun v μ2 hq => ?_)
        obtain ⟨rfl, hm⟩ := hq
        rw [hm]
        clear hm
        show AW G (rmD 2) 5 (0, 0, ad, N, fb) 5 [(0, .ref 0), (1, .int (nI i)), (2, .int (nI r))] [.ref (5 + 4 * i)] μ
        refine AW.astore_n X (pc := 5) (lv2 := [(3, .ref (5 + 4 * i)), (0, .ref 0), (1, .int (nI i)), (2, .int (nI r))]) rfl d_C_schedule_5 (by decide) rfl ?_
        refine AW.aload_n X (pc := 6) 1 rfl rfl d_C_schedule_6 ?_
        refine AW.iload_n X (pc := 7) 3 rfl rfl d_C_schedule_7 ?_
        refine AW.callV X (pc := 8) (b := 0) (ci := 4) (nA := 1) [.int (nI r)] [] (c_C_findRule (kOf G ad N) r nr μ hN hr hI hKN) (gv_V wm_C_71 wi_C_findRule wl_C_findRule wn_C kw_C_findRule) rfl (by decide +kernel) rfl (by omega) rfl rfl ⟨Nat.le_of_ble_eq_true rfl, Nat.le_of_ble_eq_true rfl⟩ ⟨Nat.zero_le _, Nat.zero_le _⟩ (Nat.le_of_ble_eq_true rfl) d_C_schedule_8 rfl (fun v μ2 hq => ?_)
        obtain ⟨rfl, hm⟩ := hq
        rw [hm]
        clear hm
        show AW G (rmD 2) 5 (0, 0, ad, N, fb) 11 [(3, .ref (5 + 4 * i)), (0, .ref 0), (1, .int (nI i)), (2, .int (nI r))] [.ref (272 + 3 * r)] μ
        refine AW.astore X (pc := 11) (lv2 := [(4, .ref (272 + 3 * r)), (3, .ref (5 + 4 * i)), (0, .ref 0), (1, .int (nI i)), (2, .int (nI r))]) d_C_schedule_11 (by decide) rfl ?_
        refine AW.aload_n X (pc := 13) 1 rfl rfl d_C_schedule_13 ?_
        refine AW.ifnull X (pc := 14) d_C_schedule_14 ?_
        refine AW.aload X (pc := 17) 0 rfl d_C_schedule_17 ?_
        refine AW.ifnonnull X (pc := 19) 24 d_C_schedule_19 (by decide) ?_
        refine AW.aload_n X (pc := 24) 1 rfl rfl d_C_schedule_24 ?_
        refine AW.callV X (pc := 25) (b := 5 + 4 * i) (ci := 3) (nA := 0) [] [] (c_U_isDisposed (kOf G ad N) i μ hN hi) (gv_V wm_C_97 wi_U_isDisposed wl_U_isDisposed wn_U kw_U_isDisposed) rfl (by decide +kernel) rfl (by omega) (sh_u hi) rfl ⟨Nat.le_of_ble_eq_true rfl, Nat.le_of_ble_eq_true rfl⟩ ⟨Nat.zero_le _, Nat.zero_le _⟩ (Nat.le_of_ble_eq_true rfl) d_C_schedule_25 rfl (fun v μ2 hq => ?_)
        obtain ⟨rfl, hm⟩ := hq
        rw [hm]
        clear hm
        show AW G (rmD 2) 5 (0, 0, ad, N, fb) 28 [(4, .ref (272 + 3 * r)), (3, .ref (5 + 4 * i)), (0, .ref 0), (1, .int (nI i)), (2, .int (nI r))] [.int (bi (decide (¬ μ (5 + 4 * i) 7 = -1)))] μ
        refine AW.if_ne X (pc := 28) 40 d_C_schedule_28 (by decide) (fun c_28 => ?_) (fun c_28 => ?_)
        · have c_28 := of_decide_eq_true (bi_ne.mp c_28)
          refine AW.bipush X (pc := 40) (v := -3) (by decide) d_C_schedule_40 ?_
          exact hret 42 _ _ _ d_C_schedule_42 (by rw [show F_schedule μ nr (nI i) (nI r) = (-3, μ) by simp [F_schedule, hU, hR, hci, hcr, h4, c_28]]; exact ⟨rfl, rfl⟩)
        · have c_28 := Decidable.not_not.mp (of_decide_eq_false (bi_eq.mp c_28))
          refine AW.aload_n X (pc := 31) 1 rfl rfl d_C_schedule_31 ?_
          refine AW.aload X (pc := 32) 0 rfl d_C_schedule_32 ?_
          refine AW.callV X (pc := 34) (b := 5 + 4 * i) (ci := 3) (nA := 1) [.ref (272 + 3 * r)] [] (c_U_hasRule (kOf G ad N) i r nr μ hN hi hr hI hKN) (gv_V wm_C_104 wi_U_hasRule wl_U_hasRule wn_U kw_U_hasRule) rfl (by decide +kernel) rfl (by omega) (sh_u hi) rfl ⟨Nat.le_of_ble_eq_true rfl, Nat.le_of_ble_eq_true rfl⟩ ⟨Nat.zero_le _, Nat.zero_le _⟩ (Nat.le_of_ble_eq_true rfl) d_C_schedule_34 rfl (fun v μ2 hq => ?_)
          obtain ⟨rfl, hm⟩ := hq
          rw [hm]
          clear hm
          show AW G (rmD 2) 5 (0, 0, ad, N, fb) 37 [(4, .ref (272 + 3 * r)), (3, .ref (5 + 4 * i)), (0, .ref 0), (1, .int (nI i)), (2, .int (nI r))] [.int (bi (anyB (fun j => decide (rwN μ i j = r)) (rnN μ i)))] μ
          refine AW.if_eq X (pc := 37) 43 d_C_schedule_37 (by decide) (fun c_37 => ?_) (fun c_37 => ?_)
          · have c_37 := bi_eq.mp c_37
            refine AW.aload_n X (pc := 43) 1 rfl rfl d_C_schedule_43 ?_
            refine AW.aload X (pc := 44) 0 rfl d_C_schedule_44 ?_
            refine AW.callV X (pc := 46) (b := 5 + 4 * i) (ci := 3) (nA := 1) [.ref (272 + 3 * r)] [] (c_U_addRule (kOf G ad N) i r nr μ hN hi hr hI hKN) (gv_V wm_C_108 wi_U_addRule wl_U_addRule wn_U kw_U_addRule) rfl (by decide +kernel) rfl (by omega) (sh_u hi) rfl ⟨Nat.le_of_ble_eq_true rfl, Nat.le_of_ble_eq_true rfl⟩ ⟨Nat.zero_le _, Nat.zero_le _⟩ (Nat.le_of_ble_eq_true rfl) d_C_schedule_46 rfl (fun v μ2 hq => ?_)
            rw [if_pos h4] at hq
            obtain ⟨rfl, hm⟩ := hq
            rw [hm]
            clear hm
            show AW G (rmD 2) 5 (0, 0, ad, N, fb) 49 [(4, .ref (272 + 3 * r)), (3, .ref (5 + 4 * i)), (0, .ref 0), (1, .int (nI i)), (2, .int (nI r))] [.int 1] (m_up (m_up (m_up μ (5 + 4 * i + 2) (rnN μ i) (nI (272 + 3 * r + 1))) (5 + 4 * i) 2 (nI (rnN μ i) + 1)) (5 + 4 * i) 5 0)
            refine AW.if_eq X (pc := 49) 59 d_C_schedule_49 (by decide) (fun c_49 => absurd c_49 (by decide)) (fun c_49 => ?_)
            refine AW.aload_n X (pc := 52) 1 rfl rfl d_C_schedule_52 ?_
            refine AW.callV X (pc := 53) (b := 5 + 4 * i) (ci := 3) (nA := 0) [] [] (c_U_ruleCount (kOf G ad N) i (m_up (m_up (m_up μ (5 + 4 * i + 2) (rnN μ i) (nI (272 + 3 * r + 1))) (5 + 4 * i) 2 (nI (rnN μ i) + 1)) (5 + 4 * i) 5 0) hN hi) (gv_V wm_C_111 wi_U_ruleCount wl_U_ruleCount wn_U kw_U_ruleCount) rfl (by decide +kernel) rfl (by omega) (sh_u hi) rfl ⟨Nat.le_of_ble_eq_true rfl, Nat.le_of_ble_eq_true rfl⟩ ⟨Nat.zero_le _, Nat.zero_le _⟩ (Nat.le_of_ble_eq_true rfl) d_C_schedule_53 rfl (fun v μ2 hq => ?_)
            obtain ⟨rfl, hm⟩ := hq
            rw [hm]
            clear hm
            show AW G (rmD 2) 5 (0, 0, ad, N, fb) 56 [(4, .ref (272 + 3 * r)), (3, .ref (5 + 4 * i)), (0, .ref 0), (1, .int (nI i)), (2, .int (nI r))] [.int ((m_up (m_up (m_up μ (5 + 4 * i + 2) (rnN μ i) (nI (272 + 3 * r + 1))) (5 + 4 * i) 2 (nI (rnN μ i) + 1)) (5 + 4 * i) 5 0) (5 + 4 * i) 2)] (m_up (m_up (m_up μ (5 + 4 * i + 2) (rnN μ i) (nI (272 + 3 * r + 1))) (5 + 4 * i) 2 (nI (rnN μ i) + 1)) (5 + 4 * i) 5 0)
            refine AW.goto X (pc := 56) 61 d_C_schedule_56 (by decide) ?_
            rw [show (m_up (m_up (m_up μ (5 + 4 * i + 2) (rnN μ i) (nI (272 + 3 * r + 1))) (5 + 4 * i) 2 (nI (rnN μ i) + 1)) (5 + 4 * i) 5 0) (5 + 4 * i) 2 = nI (rnN μ i) + 1 by rw [m_up_ne (by omega), m_up_self]]
            exact hret 61 _ _ _ d_C_schedule_61 (by rw [show F_schedule μ nr (nI i) (nI r) = (nI (rnN μ i) + 1, (m_up (m_up (m_up μ (5 + 4 * i + 2) (rnN μ i) (nI (272 + 3 * r + 1))) (5 + 4 * i) 2 (nI (rnN μ i) + 1)) (5 + 4 * i) 5 0)) by simp [F_schedule, hU, hR, hci, hcr, h4, c_28, c_37, c_49]]; exact ⟨rfl, rfl⟩)
          · have c_37 := bi_ne.mp c_37
            refine AW.bipush X (pc := 40) (v := -3) (by decide) d_C_schedule_40 ?_
            exact hret 42 _ _ _ d_C_schedule_42 (by rw [show F_schedule μ nr (nI i) (nI r) = (-3, μ) by simp [F_schedule, hU, hR, hci, hcr, h4, c_28, c_37]]; exact ⟨rfl, rfl⟩)
      · refine AW.aload_n X (pc := 0) 0 rfl rfl d_C_schedule_0 ?_
        refine AW.iload_n X (pc := 1) 1 rfl rfl d_C_schedule_1 ?_
        refine AW.callV X (pc := 2) (b := 0) (ci := 4) (nA := 1) [.int (nI i)] [] (c_C_findUnit (kOf G ad N) i nr μ hN hi hI hKN) (gv_V wm_C_93 wi_C_findUnit wl_C_findUnit wn_C kw_C_findUnit) rfl (by decide +kernel) rfl (by omega) rfl rfl ⟨Nat.le_of_ble_eq_true rfl, Nat.le_of_ble_eq_true rfl⟩ ⟨Nat.zero_le _, Nat.zero_le _⟩ (Nat.le_of_ble_eq_true rfl) d_C_schedule_2 rfl (fun v μ2 hq => ?_)
        obtain ⟨rfl, hm⟩ := hq
        rw [hm]
        clear hm
        show AW G (rmD 2) 5 (0, 0, ad, N, fb) 5 [(0, .ref 0), (1, .int (nI i)), (2, .int (nI r))] [.ref (5 + 4 * i)] μ
        refine AW.astore_n X (pc := 5) (lv2 := [(3, .ref (5 + 4 * i)), (0, .ref 0), (1, .int (nI i)), (2, .int (nI r))]) rfl d_C_schedule_5 (by decide) rfl ?_
        refine AW.aload_n X (pc := 6) 1 rfl rfl d_C_schedule_6 ?_
        refine AW.iload_n X (pc := 7) 3 rfl rfl d_C_schedule_7 ?_
        refine AW.callV X (pc := 8) (b := 0) (ci := 4) (nA := 1) [.int (nI r)] [] (c_C_findRule (kOf G ad N) r nr μ hN hr hI hKN) (gv_V wm_C_71 wi_C_findRule wl_C_findRule wn_C kw_C_findRule) rfl (by decide +kernel) rfl (by omega) rfl rfl ⟨Nat.le_of_ble_eq_true rfl, Nat.le_of_ble_eq_true rfl⟩ ⟨Nat.zero_le _, Nat.zero_le _⟩ (Nat.le_of_ble_eq_true rfl) d_C_schedule_8 rfl (fun v μ2 hq => ?_)
        obtain ⟨rfl, hm⟩ := hq
        rw [hm]
        clear hm
        show AW G (rmD 2) 5 (0, 0, ad, N, fb) 11 [(3, .ref (5 + 4 * i)), (0, .ref 0), (1, .int (nI i)), (2, .int (nI r))] [.ref (272 + 3 * r)] μ
        refine AW.astore X (pc := 11) (lv2 := [(4, .ref (272 + 3 * r)), (3, .ref (5 + 4 * i)), (0, .ref 0), (1, .int (nI i)), (2, .int (nI r))]) d_C_schedule_11 (by decide) rfl ?_
        refine AW.aload_n X (pc := 13) 1 rfl rfl d_C_schedule_13 ?_
        refine AW.ifnull X (pc := 14) d_C_schedule_14 ?_
        refine AW.aload X (pc := 17) 0 rfl d_C_schedule_17 ?_
        refine AW.ifnonnull X (pc := 19) 24 d_C_schedule_19 (by decide) ?_
        refine AW.aload_n X (pc := 24) 1 rfl rfl d_C_schedule_24 ?_
        refine AW.callV X (pc := 25) (b := 5 + 4 * i) (ci := 3) (nA := 0) [] [] (c_U_isDisposed (kOf G ad N) i μ hN hi) (gv_V wm_C_97 wi_U_isDisposed wl_U_isDisposed wn_U kw_U_isDisposed) rfl (by decide +kernel) rfl (by omega) (sh_u hi) rfl ⟨Nat.le_of_ble_eq_true rfl, Nat.le_of_ble_eq_true rfl⟩ ⟨Nat.zero_le _, Nat.zero_le _⟩ (Nat.le_of_ble_eq_true rfl) d_C_schedule_25 rfl (fun v μ2 hq => ?_)
        obtain ⟨rfl, hm⟩ := hq
        rw [hm]
        clear hm
        show AW G (rmD 2) 5 (0, 0, ad, N, fb) 28 [(4, .ref (272 + 3 * r)), (3, .ref (5 + 4 * i)), (0, .ref 0), (1, .int (nI i)), (2, .int (nI r))] [.int (bi (decide (¬ μ (5 + 4 * i) 7 = -1)))] μ
        refine AW.if_ne X (pc := 28) 40 d_C_schedule_28 (by decide) (fun c_28 => ?_) (fun c_28 => ?_)
        · have c_28 := of_decide_eq_true (bi_ne.mp c_28)
          refine AW.bipush X (pc := 40) (v := -3) (by decide) d_C_schedule_40 ?_
          exact hret 42 _ _ _ d_C_schedule_42 (by rw [show F_schedule μ nr (nI i) (nI r) = (-3, μ) by simp [F_schedule, hU, hR, hci, hcr, h4, c_28]]; exact ⟨rfl, rfl⟩)
        · have c_28 := Decidable.not_not.mp (of_decide_eq_false (bi_eq.mp c_28))
          refine AW.aload_n X (pc := 31) 1 rfl rfl d_C_schedule_31 ?_
          refine AW.aload X (pc := 32) 0 rfl d_C_schedule_32 ?_
          refine AW.callV X (pc := 34) (b := 5 + 4 * i) (ci := 3) (nA := 1) [.ref (272 + 3 * r)] [] (c_U_hasRule (kOf G ad N) i r nr μ hN hi hr hI hKN) (gv_V wm_C_104 wi_U_hasRule wl_U_hasRule wn_U kw_U_hasRule) rfl (by decide +kernel) rfl (by omega) (sh_u hi) rfl ⟨Nat.le_of_ble_eq_true rfl, Nat.le_of_ble_eq_true rfl⟩ ⟨Nat.zero_le _, Nat.zero_le _⟩ (Nat.le_of_ble_eq_true rfl) d_C_schedule_34 rfl (fun v μ2 hq => ?_)
          obtain ⟨rfl, hm⟩ := hq
          rw [hm]
          clear hm
          show AW G (rmD 2) 5 (0, 0, ad, N, fb) 37 [(4, .ref (272 + 3 * r)), (3, .ref (5 + 4 * i)), (0, .ref 0), (1, .int (nI i)), (2, .int (nI r))] [.int (bi (anyB (fun j => decide (rwN μ i j = r)) (rnN μ i)))] μ
          refine AW.if_eq X (pc := 37) 43 d_C_schedule_37 (by decide) (fun c_37 => ?_) (fun c_37 => ?_)
          · have c_37 := bi_eq.mp c_37
            refine AW.aload_n X (pc := 43) 1 rfl rfl d_C_schedule_43 ?_
            refine AW.aload X (pc := 44) 0 rfl d_C_schedule_44 ?_
            refine AW.callV X (pc := 46) (b := 5 + 4 * i) (ci := 3) (nA := 1) [.ref (272 + 3 * r)] [] (c_U_addRule (kOf G ad N) i r nr μ hN hi hr hI hKN) (gv_V wm_C_108 wi_U_addRule wl_U_addRule wn_U kw_U_addRule) rfl (by decide +kernel) rfl (by omega) (sh_u hi) rfl ⟨Nat.le_of_ble_eq_true rfl, Nat.le_of_ble_eq_true rfl⟩ ⟨Nat.zero_le _, Nat.zero_le _⟩ (Nat.le_of_ble_eq_true rfl) d_C_schedule_46 rfl (fun v μ2 hq => ?_)
            rw [if_neg h4] at hq
            obtain ⟨rfl, hm⟩ := hq
            rw [hm]
            clear hm
            show AW G (rmD 2) 5 (0, 0, ad, N, fb) 49 [(4, .ref (272 + 3 * r)), (3, .ref (5 + 4 * i)), (0, .ref 0), (1, .int (nI i)), (2, .int (nI r))] [.int 0] μ
            refine AW.if_eq X (pc := 49) 59 d_C_schedule_49 (by decide) (fun c_49 => ?_) (fun c_49 => absurd c_49 (by decide))
            refine AW.bipush X (pc := 59) (v := -4) (by decide) d_C_schedule_59 ?_
            exact hret 61 _ _ _ d_C_schedule_61 (by rw [show F_schedule μ nr (nI i) (nI r) = (-4, μ) by simp [F_schedule, hU, hR, hci, hcr, h4, c_28, c_37, c_49]]; exact ⟨rfl, rfl⟩)
          · have c_37 := bi_ne.mp c_37
            refine AW.bipush X (pc := 40) (v := -3) (by decide) d_C_schedule_40 ?_
            exact hret 42 _ _ _ d_C_schedule_42 (by rw [show F_schedule μ nr (nI i) (nI r) = (-3, μ) by simp [F_schedule, hU, hR, hci, hcr, h4, c_28, c_37]]; exact ⟨rfl, rfl⟩)
