set_option maxHeartbeats 4000000 in
set_option maxRecDepth 100000 in
theorem c_P_checkIndex_n (K : KTy) (k n : Nat) (μ : Mu) (hN : 272 ≤ KN K) (hk : k < n) (hn : n < 1000) : CT K y_P_checkIndex (k_P_checkIndex :: GT) 0 [.int (nI k), .int (nI n), .null] μ (fun v μ2 => v = some (.int (nI k)) ∧ μ2 = μ) := by
  refine CT.int (cc := b_P_checkIndex) (maxL := 3) (by decide) rfl rfl (Nat.le_of_ble_eq_true rfl) ?_
  intro G ad N hK X hret
  subst hK
  have hN : 272 ≤ N := hN
  show AW G (rmD 0) 3 (0, 0, ad, N, fb) 0 [(0, .int (nI k)), (1, .int (nI n)), (2, .null)] [] μ
  refine AW.iload_n X (pc := 0) 0 rfl rfl d_P_checkIndex_0 ?_
  refine AW.if_lt X (pc := 1) 9 d_P_checkIndex_1 (by decide) (fun c_1 => absurd c_1 (by rw [i_lt (nI_toInt (show k < 2 ^ 31 by omega)) (show (0 : Int32).toInt = 0 by decide)]; omega)) (fun c_1 => ?_)
  refine AW.iload_n X (pc := 4) 0 rfl rfl d_P_checkIndex_4 ?_
  refine AW.iload_n X (pc := 5) 1 rfl rfl d_P_checkIndex_5 ?_
  refine AW.icmp_lt X (pc := 6) 16 d_P_checkIndex_6 (by decide) (fun c_6 => ?_) (fun c_6 => absurd c_6 (by rw [i_lt (nI_toInt (show k < 2 ^ 31 by omega)) (nI_toInt (show n < 2 ^ 31 by omega))]; omega))
  refine AW.iload_n X (pc := 16) 0 rfl rfl d_P_checkIndex_16 ?_
  exact hret 17 _ _ _ d_P_checkIndex_17 ⟨by first | rfl | simp [bi, c_1, c_6], rfl⟩
set_option maxHeartbeats 4000000 in
set_option maxRecDepth 100000 in
theorem c_P_checkIndex_r (K : KTy) (k n : Nat) (μ : Mu) (hN : 272 ≤ KN K) (hk : k < n) (hn : n < 1000) : CT K y_P_checkIndex (k_P_checkIndex :: GT) 0 [.int (nI k), .int (nI n), .ref (SB + 60)] μ (fun v μ2 => v = some (.int (nI k)) ∧ μ2 = μ) := by
  refine CT.int (cc := b_P_checkIndex) (maxL := 3) (by decide) rfl rfl (Nat.le_of_ble_eq_true rfl) ?_
  intro G ad N hK X hret
  subst hK
  have hN : 272 ≤ N := hN
  show AW G (rmD 0) 3 (0, 0, ad, N, fb) 0 [(0, .int (nI k)), (1, .int (nI n)), (2, .ref (SB + 60))] [] μ
  refine AW.iload_n X (pc := 0) 0 rfl rfl d_P_checkIndex_0 ?_
  refine AW.if_lt X (pc := 1) 9 d_P_checkIndex_1 (by decide) (fun c_1 => absurd c_1 (by rw [i_lt (nI_toInt (show k < 2 ^ 31 by omega)) (show (0 : Int32).toInt = 0 by decide)]; omega)) (fun c_1 => ?_)
  refine AW.iload_n X (pc := 4) 0 rfl rfl d_P_checkIndex_4 ?_
  refine AW.iload_n X (pc := 5) 1 rfl rfl d_P_checkIndex_5 ?_
  refine AW.icmp_lt X (pc := 6) 16 d_P_checkIndex_6 (by decide) (fun c_6 => ?_) (fun c_6 => absurd c_6 (by rw [i_lt (nI_toInt (show k < 2 ^ 31 by omega)) (nI_toInt (show n < 2 ^ 31 by omega))]; omega))
  refine AW.iload_n X (pc := 16) 0 rfl rfl d_P_checkIndex_16 ?_
  exact hret 17 _ _ _ d_P_checkIndex_17 ⟨by first | rfl | simp [bi, c_1, c_6], rfl⟩
set_option maxHeartbeats 4000000 in
set_option maxRecDepth 100000 in
theorem c_S_checkIndex (K : KTy) (k n : Nat) (μ : Mu) (hN : 272 ≤ KN K) (hk : k < n) (hn : n < 1000) : CT K y_S_checkIndex (k_S_checkIndex :: GT) 1 [.int (nI k), .int (nI n)] μ (fun v μ2 => v = none ∧ μ2 = μ) := by
  refine CT.void (cc := b_S_checkIndex) (maxL := 2) (by decide) rfl rfl (Nat.le_of_ble_eq_true rfl) ?_
  intro G ad N hK X hret
  subst hK
  have hN : 272 ≤ N := hN
  show AW G (rmD 1) 2 (0, 0, ad, N, fb) 0 [(0, .int (nI k)), (1, .int (nI n))] [] μ
  refine AW.iload_n X (pc := 0) 0 rfl rfl d_S_checkIndex_0 ?_
  refine AW.iload_n X (pc := 1) 1 rfl rfl d_S_checkIndex_1 ?_
  refine AW.getF X (pc := 2) wf_S_1053 d_S_checkIndex_2 (fun w hw => ?_)
  rcases hw with rfl | rfl
  · refine AW.callS2 X (pc := 5) (nA := 3) [.int (nI k), .int (nI n), .null] [] (c_P_checkIndex_n (kOf G ad N) k n μ hN hk hn) (gv_S2 wm_S_1059 ws_P_checkIndex wn_P kw_P_checkIndex) rfl (by decide +kernel) rfl ⟨Nat.le_of_ble_eq_true rfl, Nat.le_of_ble_eq_true rfl⟩ ⟨Nat.zero_le _, Nat.zero_le _⟩ (Nat.le_of_ble_eq_true rfl) d_S_checkIndex_5 rfl (fun v μ2 hq => ?_)
    obtain ⟨rfl, hm⟩ := hq
    rw [hm]
    clear hm
    show AW G (rmD 1) 2 (0, 0, ad, N, fb) 8 [(0, .int (nI k)), (1, .int (nI n))] [.int (nI k)] μ
    refine AW.pop X (pc := 8) rfl d_S_checkIndex_8 ?_
    exact hret 9 _ _ d_S_checkIndex_9 ⟨rfl, rfl⟩
  · refine AW.callS2 X (pc := 5) (nA := 3) [.int (nI k), .int (nI n), .ref (SB + 60)] [] (c_P_checkIndex_r (kOf G ad N) k n μ hN hk hn) (gv_S2 wm_S_1059 ws_P_checkIndex wn_P kw_P_checkIndex) rfl (by decide +kernel) rfl ⟨Nat.le_of_ble_eq_true rfl, Nat.le_of_ble_eq_true rfl⟩ ⟨Nat.zero_le _, Nat.zero_le _⟩ (Nat.le_of_ble_eq_true rfl) d_S_checkIndex_5 rfl (fun v μ2 hq => ?_)
    obtain ⟨rfl, hm⟩ := hq
    rw [hm]
    clear hm
    show AW G (rmD 1) 2 (0, 0, ad, N, fb) 8 [(0, .int (nI k)), (1, .int (nI n))] [.int (nI k)] μ
    refine AW.pop X (pc := 8) rfl d_S_checkIndex_8 ?_
    exact hret 9 _ _ d_S_checkIndex_9 ⟨rfl, rfl⟩
set_option maxHeartbeats 4000000 in
set_option maxRecDepth 100000 in
theorem c_J_charAt (K : KTy) (i k : Nat) (μ : Mu) (hN : 272 ≤ KN K) (h6 : i < 6) (hk : k < lnS i) : CT K y_J_charAt (k_J_charAt :: GT) 2 [.ref (SB + (100 + i)), .int (nI k)] μ (fun v μ2 => v = some (.int (chS i k)) ∧ μ2 = μ) := by
  refine CT.char (cc := b_J_charAt) (maxL := 2) (by decide) rfl rfl (Nat.le_of_ble_eq_true rfl) ?_
  intro G ad N hK X hret
  subst hK
  have hN : 272 ≤ N := hN
  show AW G (rmD 2) 2 (0, 0, ad, N, fb) 0 [(0, .ref (SB + (100 + i))), (1, .int (nI k))] [] μ
  refine AW.iload_n X (pc := 0) 1 rfl rfl d_J_charAt_0 ?_
  refine AW.aload_n X (pc := 1) 0 rfl rfl d_J_charAt_1 ?_
  refine AW.slen X (pc := 2) (i := i) h6 d_J_charAt_2 ?_
  refine AW.callS2 X (pc := 3) (nA := 2) [.int (nI k), .int (nI (lnS i))] [] (c_S_checkIndex (kOf G ad N) k (lnS i) μ hN hk (show lnS i < 1000 by have := lnS_lt h6; omega)) (gv_S2 wm_J_9 ws_S_checkIndex wn_S kw_S_checkIndex) rfl (by decide +kernel) rfl ⟨Nat.le_of_ble_eq_true rfl, Nat.le_of_ble_eq_true rfl⟩ ⟨Nat.zero_le _, Nat.zero_le _⟩ (Nat.le_of_ble_eq_true rfl) d_J_charAt_3 rfl (fun v μ2 hq => ?_)
  obtain ⟨rfl, hm⟩ := hq
  rw [hm]
  clear hm
  show AW G (rmD 2) 2 (0, 0, ad, N, fb) 6 [(0, .ref (SB + (100 + i))), (1, .int (nI k))] [] μ
  refine AW.aload_n X (pc := 6) 0 rfl rfl d_J_charAt_6 ?_
  refine AW.iload_n X (pc := 7) 1 rfl rfl d_J_charAt_7 ?_
  refine AW.sbal X (pc := 8) (i := i) (k := k) h6 hk d_J_charAt_8 ?_
  refine AW.sipush X (pc := 9) (v := 255) (by decide) d_J_charAt_9 ?_
  refine AW.iand X (pc := 12) d_J_charAt_12 ?_
  refine AW.i2c X (pc := 13) d_J_charAt_13 ?_
  refine AW.val (w := .int (chS i k)) (congrArg Value.int chS_nar) ?_
  exact hret 14 _ _ _ d_J_charAt_14 (sc_nar _) ⟨rfl, rfl⟩
set_option maxHeartbeats 4000000 in
set_option maxRecDepth 100000 in
theorem c_S_isLatin1 (K : KTy) (i : Nat) (μ : Mu) (hN : 272 ≤ KN K) (h6 : i < 6) : CT K y_S_isLatin1 (k_S_isLatin1 :: GT) 0 [.ref (SB + i)] μ (fun v μ2 => v = some (.int 1) ∧ μ2 = μ) := by
  refine CT.bool (cc := b_S_isLatin1) (maxL := 1) (by decide) rfl rfl (Nat.le_of_ble_eq_true rfl) ?_
  intro G ad N hK X hret
  subst hK
  have hN : 272 ≤ N := hN
  show AW G (rmD 0) 1 (0, 0, ad, N, fb) 0 [(0, .ref (SB + i))] [] μ
  refine AW.getC X (pc := 0) wf_S_38 d_S_isLatin1_0 ?_
  refine AW.if_eq X (pc := 3) 17 d_S_isLatin1_3 (by decide) (fun c_3 => absurd c_3 (by decide)) (fun c_3 => ?_)
  refine AW.aload_n X (pc := 6) 0 rfl rfl d_S_isLatin1_6 ?_
  refine AW.scod X (pc := 7) (i := i) h6 wf_S_15 d_S_isLatin1_7 ?_
  refine AW.if_ne X (pc := 10) 17 d_S_isLatin1_10 (by decide) (fun c_10 => absurd c_10 (by decide)) (fun c_10 => ?_)
  refine AW.iconst X (pc := 13) (v := 1) (by decide) d_S_isLatin1_13 ?_
  refine AW.goto X (pc := 14) 18 d_S_isLatin1_14 (by decide) ?_
  exact hret 18 _ _ _ d_S_isLatin1_18 rfl ⟨rfl, rfl⟩
set_option maxHeartbeats 4000000 in
set_option maxRecDepth 100000 in
theorem c_S_coder (K : KTy) (i : Nat) (μ : Mu) (hN : 272 ≤ KN K) (h6 : i < 6) : CT K y_S_coder (k_S_coder :: GT) 0 [.ref (SB + i)] μ (fun v μ2 => v = some (.int 0) ∧ μ2 = μ) := by
  refine CT.byte (cc := b_S_coder) (maxL := 1) (by decide) rfl rfl (Nat.le_of_ble_eq_true rfl) ?_
  intro G ad N hK X hret
  subst hK
  have hN : 272 ≤ N := hN
  show AW G (rmD 0) 1 (0, 0, ad, N, fb) 0 [(0, .ref (SB + i))] [] μ
  refine AW.getC X (pc := 0) wf_S_38 d_S_coder_0 ?_
  refine AW.if_eq X (pc := 3) 13 d_S_coder_3 (by decide) (fun c_3 => absurd c_3 (by decide)) (fun c_3 => ?_)
  refine AW.aload_n X (pc := 6) 0 rfl rfl d_S_coder_6 ?_
  refine AW.scod X (pc := 7) (i := i) h6 wf_S_15 d_S_coder_7 ?_
  refine AW.goto X (pc := 10) 14 d_S_coder_10 (by decide) ?_
  exact hret 14 _ _ _ d_S_coder_14 rfl ⟨rfl, rfl⟩
set_option maxHeartbeats 4000000 in
set_option maxRecDepth 100000 in
theorem c_S_length (K : KTy) (i : Nat) (μ : Mu) (hN : 272 ≤ KN K) (h6 : i < 6) : CT K y_S_length (k_S_length :: GT) 1 [.ref (SB + i)] μ (fun v μ2 => v = some (.int (nI (lnS i))) ∧ μ2 = μ) := by
  refine CT.int (cc := b_S_length) (maxL := 1) (by decide) rfl rfl (Nat.le_of_ble_eq_true rfl) ?_
  intro G ad N hK X hret
  subst hK
  have hN : 272 ≤ N := hN
  show AW G (rmD 1) 1 (0, 0, ad, N, fb) 0 [(0, .ref (SB + i))] [] μ
  refine AW.aload_n X (pc := 0) 0 rfl rfl d_S_length_0 ?_
  refine AW.sval X (pc := 1) (i := i) h6 wf_S_9 d_S_length_1 ?_
  refine AW.slen X (pc := 4) (i := i) h6 d_S_length_4 ?_
  refine AW.aload_n X (pc := 5) 0 rfl rfl d_S_length_5 ?_
  refine AW.callT X (pc := 6) (b := i) (nA := 0) [] [.int (nI (lnS i))] (c_S_coder (kOf G ad N) i μ hN h6) (gv_T wm_S_335 wi_S_coder wl_S_coder wn_S kw_S_coder) rfl (by decide +kernel) rfl h6 ⟨Nat.le_of_ble_eq_true rfl, Nat.le_of_ble_eq_true rfl⟩ ⟨Nat.zero_le _, Nat.zero_le _⟩ (Nat.le_of_ble_eq_true rfl) d_S_length_6 rfl (fun v μ2 hq => ?_)
  obtain ⟨rfl, hm⟩ := hq
  rw [hm]
  clear hm
  show AW G (rmD 1) 1 (0, 0, ad, N, fb) 9 [(0, .ref (SB + i))] [.int 0, .int (nI (lnS i))] μ
  refine AW.ishr X (pc := 9) d_S_length_9 ?_
  refine AW.val (w := .int (nI (lnS i))) (congrArg Value.int (shr0 (by have := lnS_lt h6; omega))) ?_
  exact hret 10 _ _ _ d_S_length_10 ⟨by first | rfl | simp [bi], rfl⟩
set_option maxHeartbeats 4000000 in
set_option maxRecDepth 100000 in
theorem c_S_charAt (K : KTy) (i k : Nat) (μ : Mu) (hN : 272 ≤ KN K) (h6 : i < 6) (hk : k < lnS i) : CT K y_S_charAt (k_S_charAt :: GT) 3 [.ref (SB + i), .int (nI k)] μ (fun v μ2 => v = some (.int (chS i k)) ∧ μ2 = μ) := by
  refine CT.char (cc := b_S_charAt) (maxL := 2) (by decide) rfl rfl (Nat.le_of_ble_eq_true rfl) ?_
  intro G ad N hK X hret
  subst hK
  have hN : 272 ≤ N := hN
  show AW G (rmD 3) 2 (0, 0, ad, N, fb) 0 [(0, .ref (SB + i)), (1, .int (nI k))] [] μ
  refine AW.aload_n X (pc := 0) 0 rfl rfl d_S_charAt_0 ?_
  refine AW.callT X (pc := 1) (b := i) (nA := 0) [] [] (c_S_isLatin1 (kOf G ad N) i μ hN h6) (gv_T wm_S_492 wi_S_isLatin1 wl_S_isLatin1 wn_S kw_S_isLatin1) rfl (by decide +kernel) rfl h6 ⟨Nat.le_of_ble_eq_true rfl, Nat.le_of_ble_eq_true rfl⟩ ⟨Nat.zero_le _, Nat.zero_le _⟩ (Nat.le_of_ble_eq_true rfl) d_S_charAt_1 rfl (fun v μ2 hq => ?_)
  obtain ⟨rfl, hm⟩ := hq
  rw [hm]
  clear hm
  show AW G (rmD 3) 2 (0, 0, ad, N, fb) 4 [(0, .ref (SB + i)), (1, .int (nI k))] [.int 1] μ
  refine AW.if_eq X (pc := 4) 16 d_S_charAt_4 (by decide) (fun c_4 => absurd c_4 (by decide)) (fun c_4 => ?_)
  refine AW.aload_n X (pc := 7) 0 rfl rfl d_S_charAt_7 ?_
  refine AW.sval X (pc := 8) (i := i) h6 wf_S_9 d_S_charAt_8 ?_
  refine AW.iload_n X (pc := 11) 1 rfl rfl d_S_charAt_11 ?_
  refine AW.callS2 X (pc := 12) (nA := 2) [.ref (SB + (100 + i)), .int (nI k)] [] (c_J_charAt (kOf G ad N) i k μ hN h6 hk) (gv_S2 wm_S_495 ws_J_charAt wn_J kw_J_charAt) rfl (by decide +kernel) rfl ⟨Nat.le_of_ble_eq_true rfl, Nat.le_of_ble_eq_true rfl⟩ ⟨Nat.zero_le _, Nat.zero_le _⟩ (Nat.le_of_ble_eq_true rfl) d_S_charAt_12 rfl (fun v μ2 hq => ?_)
  obtain ⟨rfl, hm⟩ := hq
  rw [hm]
  clear hm
  show AW G (rmD 3) 2 (0, 0, ad, N, fb) 15 [(0, .ref (SB + i)), (1, .int (nI k))] [.int (chS i k)] μ
  exact hret 15 _ _ _ d_S_charAt_15 (sc_nar _) ⟨rfl, rfl⟩
