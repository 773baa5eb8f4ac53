set_option maxHeartbeats 4000000 in
set_option maxRecDepth 100000 in
theorem c_T_signAt (K : KTy) (j : Nat) (μ : Mu) (hN : 272 ≤ KN K) (ht : μ 1 1 = nI (tlN μ)) (ht4 : tlN μ ≤ 40) (hj : j < 1000) : CT K y_T_signAt (k_T_signAt :: GT) 0 [.ref 1, .int (nI j)] μ (fun v μ2 => v = some (.int (sgA μ j)) ∧ μ2 = μ) := by
  refine CT.int (cc := b_T_signAt) (maxL := 2) (by decide) rfl rfl (Nat.le_of_ble_eq_true rfl) ?_
  intro G ad N hK X hret
  subst hK
  have hN : 272 ≤ N := hN
  show AW G (rmD 0) 2 (0, 0, ad, N, fb) 0 [(0, .ref 1), (1, .int (nI j))] [] μ
  refine AW.iload_n X (pc := 0) 1 rfl rfl d_T_signAt_0 ?_
  refine AW.if_lt X (pc := 1) 30 d_T_signAt_1 (by decide) (fun c_1 => absurd c_1 (by rw [i_lt (nI_toInt (show j < 2 ^ 31 by omega)) (show (0 : Int32).toInt = 0 by decide)]; omega)) (fun c_1 => ?_)
  refine AW.iload_n X (pc := 4) 1 rfl rfl d_T_signAt_4 ?_
  refine AW.aload_n X (pc := 5) 0 rfl rfl d_T_signAt_5 ?_
  refine AW.get X (pc := 6) (k := 1) (ci := 2) (j := 1) (v := .int (μ 1 1)) (by omega) rfl rfl in_T (by decide) wf_T_15 rfl rfl d_T_signAt_6 ?_
  refine AW.val (w := .int (nI (tlN μ))) (congrArg Value.int (ht)) ?_
  refine AW.icmp_ge X (pc := 9) 30 d_T_signAt_9 (by decide) (fun c_9 => ?_) (fun c_9 => ?_)
  · rw [i_le (nI_toInt (show tlN μ < 2 ^ 31 by omega)) (nI_toInt (show j < 2 ^ 31 by omega))] at c_9
    refine AW.iconst X (pc := 30) (v := -1) (by decide) d_T_signAt_30 ?_
    exact hret 31 _ _ _ d_T_signAt_31 ⟨by rw [sgA, if_neg (by omega)], rfl⟩
  · rw [i_le (nI_toInt (show tlN μ < 2 ^ 31 by omega)) (nI_toInt (show j < 2 ^ 31 by omega))] at c_9
    refine AW.iload_n X (pc := 12) 1 rfl rfl d_T_signAt_12 ?_
    refine AW.aload_n X (pc := 13) 0 rfl rfl d_T_signAt_13 ?_
    refine AW.get X (pc := 14) (k := 1) (ci := 2) (j := 0) (v := .ref 2) (by omega) rfl rfl in_T (by decide) wf_T_9 rfl rfl d_T_signAt_14 ?_
    refine AW.alen X (pc := 17) (k := 2) (t := 0) (n := 40) (kd := 0) (v := 40) (by omega) rfl rfl (by decide) d_T_signAt_17 ?_
    refine AW.icmp_ge X (pc := 18) 30 d_T_signAt_18 (by decide) (fun c_18 => absurd c_18 (by rw [i_le (show (40 : Int32).toInt = 40 by decide) (nI_toInt (show j < 2 ^ 31 by omega))]; omega)) (fun c_18 => ?_)
    refine AW.aload_n X (pc := 21) 0 rfl rfl d_T_signAt_21 ?_
    refine AW.get X (pc := 22) (k := 1) (ci := 2) (j := 0) (v := .ref 2) (by omega) rfl rfl in_T (by decide) wf_T_9 rfl rfl d_T_signAt_22 ?_
    refine AW.iload_n X (pc := 25) 1 rfl rfl d_T_signAt_25 ?_
    refine AW.ialdN X (pc := 26) (k := 2) (t := 0) (n := 40) (j := j) (by omega) rfl rfl (by omega) (by decide) d_T_signAt_26 ?_
    refine AW.goto X (pc := 27) 31 d_T_signAt_27 (by decide) ?_
    exact hret 31 _ _ _ d_T_signAt_31 ⟨by rw [sgA, if_pos (by omega)], rfl⟩
set_option maxHeartbeats 4000000 in
set_option maxRecDepth 100000 in
theorem c_T_isSmallLetter (K : KTy) (c : Int32) (μ : Mu) (hN : 272 ≤ KN K)  : CT K y_T_isSmallLetter (k_T_isSmallLetter :: GT) 0 [.int c] μ (fun v μ2 => v = some (.int (bi (smB c))) ∧ μ2 = μ) := by
  refine CT.bool (cc := b_T_isSmallLetter) (maxL := 1) (by decide) rfl rfl (Nat.le_of_ble_eq_true rfl) ?_
  intro G ad N hK X hret
  subst hK
  have hN : 272 ≤ N := hN
  show AW G (rmD 0) 1 (0, 0, ad, N, fb) 0 [(0, .int c)] [] μ
  refine AW.iload_n X (pc := 0) 0 rfl rfl d_T_isSmallLetter_0 ?_
  refine AW.bipush X (pc := 1) (v := 97) (by decide) d_T_isSmallLetter_1 ?_
  refine AW.icmp_lt X (pc := 3) 16 d_T_isSmallLetter_3 (by decide) (fun c_3 => ?_) (fun c_3 => ?_)
  · refine AW.iconst X (pc := 16) (v := 0) (by decide) d_T_isSmallLetter_16 ?_
    exact hret 17 _ _ _ d_T_isSmallLetter_17 rfl ⟨by simp [bi, smB, dgB, c_3], rfl⟩
  · refine AW.iload_n X (pc := 6) 0 rfl rfl d_T_isSmallLetter_6 ?_
    refine AW.bipush X (pc := 7) (v := 122) (by decide) d_T_isSmallLetter_7 ?_
    refine AW.icmp_gt X (pc := 9) 16 d_T_isSmallLetter_9 (by decide) (fun c_9 => ?_) (fun c_9 => ?_)
    · refine AW.iconst X (pc := 16) (v := 0) (by decide) d_T_isSmallLetter_16 ?_
      exact hret 17 _ _ _ d_T_isSmallLetter_17 rfl ⟨by simp [bi, smB, dgB, c_3, c_9], rfl⟩
    · refine AW.iconst X (pc := 12) (v := 1) (by decide) d_T_isSmallLetter_12 ?_
      refine AW.goto X (pc := 13) 17 d_T_isSmallLetter_13 (by decide) ?_
      exact hret 17 _ _ _ d_T_isSmallLetter_17 rfl ⟨by simp [bi, smB, dgB, c_3, c_9], rfl⟩
set_option maxHeartbeats 4000000 in
set_option maxRecDepth 100000 in
theorem c_T_isDigit (K : KTy) (c : Int32) (μ : Mu) (hN : 272 ≤ KN K)  : CT K y_T_isDigit (k_T_isDigit :: GT) 0 [.int c] μ (fun v μ2 => v = some (.int (bi (dgB c))) ∧ μ2 = μ) := by
  refine CT.bool (cc := b_T_isDigit) (maxL := 1) (by decide) rfl rfl (Nat.le_of_ble_eq_true rfl) ?_
  intro G ad N hK X hret
  subst hK
  have hN : 272 ≤ N := hN
  show AW G (rmD 0) 1 (0, 0, ad, N, fb) 0 [(0, .int c)] [] μ
  refine AW.iload_n X (pc := 0) 0 rfl rfl d_T_isDigit_0 ?_
  refine AW.bipush X (pc := 1) (v := 48) (by decide) d_T_isDigit_1 ?_
  refine AW.icmp_lt X (pc := 3) 16 d_T_isDigit_3 (by decide) (fun c_3 => ?_) (fun c_3 => ?_)
  · refine AW.iconst X (pc := 16) (v := 0) (by decide) d_T_isDigit_16 ?_
    exact hret 17 _ _ _ d_T_isDigit_17 rfl ⟨by simp [bi, smB, dgB, c_3], rfl⟩
  · refine AW.iload_n X (pc := 6) 0 rfl rfl d_T_isDigit_6 ?_
    refine AW.bipush X (pc := 7) (v := 57) (by decide) d_T_isDigit_7 ?_
    refine AW.icmp_gt X (pc := 9) 16 d_T_isDigit_9 (by decide) (fun c_9 => ?_) (fun c_9 => ?_)
    · refine AW.iconst X (pc := 16) (v := 0) (by decide) d_T_isDigit_16 ?_
      exact hret 17 _ _ _ d_T_isDigit_17 rfl ⟨by simp [bi, smB, dgB, c_3, c_9], rfl⟩
    · refine AW.iconst X (pc := 12) (v := 1) (by decide) d_T_isDigit_12 ?_
      refine AW.goto X (pc := 13) 17 d_T_isDigit_13 (by decide) ?_
      exact hret 17 _ _ _ d_T_isDigit_17 rfl ⟨by simp [bi, smB, dgB, c_3, c_9], rfl⟩
set_option maxHeartbeats 4000000 in
set_option maxRecDepth 100000 in
theorem c_T_wordEnd (K : KTy) (p : Nat) (μ : Mu) (hN : 272 ≤ KN K) (ht : μ 1 1 = nI (tlN μ)) (ht4 : tlN μ ≤ 40) (hp : μ 1 2 = nI p) (hpt : p ≤ tlN μ) : CT K y_T_wordEnd (k_T_wordEnd :: GT) 1 [.ref 1] μ (fun v μ2 => v = some (.int (nI (wE (sgA μ) 41 p))) ∧ μ2 = μ) := by
  refine CT.int (cc := b_T_wordEnd) (maxL := 2) (by decide) rfl rfl (Nat.le_of_ble_eq_true rfl) ?_
  intro G ad N hK X hret
  subst hK
  have hN : 272 ≤ N := hN
  show AW G (rmD 1) 2 (0, 0, ad, N, fb) 0 [(0, .ref 1)] [] μ
  have key : ∀ (n : Nat) (e : Nat) (x : Int32), tlN μ - e < n → (p ≤ e) → (e ≤ tlN μ) → (wE (sgA μ) (41 + p - e) e = wE (sgA μ) 41 p) → (x = nI e) → AW G (rmD 1) 2 (0, 0, ad, N, fb) 5 [(1, .int x), (0, .ref 1)] [] μ := by
    intro n
    induction n with
    | zero =>
      intro e x hlt
      exact absurd hlt (Nat.not_lt_zero _)
    | succ n ih =>
      intro e x hlt hpe het he ex
      subst ex
      refine AW.iload_n X (pc := 5) 0 rfl rfl d_T_wordEnd_5 ?_
      refine AW.aload_n X (pc := 6) 1 rfl rfl d_T_wordEnd_6 ?_
      refine AW.get X (pc := 7) (k := 1) (ci := 2) (j := 1) (v := .int (μ 1 1)) (by omega) rfl rfl in_T (by decide) wf_T_15 rfl rfl d_T_wordEnd_7 ?_
      refine AW.val (w := .int (nI (tlN μ))) (congrArg Value.int (ht)) ?_
      refine AW.icmp_ge X (pc := 10) 30 d_T_wordEnd_10 (by decide) (fun c_10 => ?_) (fun c_10 => ?_)
      · rw [i_le (nI_toInt (show tlN μ < 2 ^ 31 by omega)) (nI_toInt (show e < 2 ^ 31 by omega))] at c_10
        refine AW.iload_n X (pc := 30) 0 rfl rfl d_T_wordEnd_30 ?_
        exact hret 31 _ _ _ d_T_wordEnd_31 ⟨by rw [← he, show 41 + p - e = (40 + p - e) + 1 by omega, wE, if_neg (by rw [sgA_sm (by omega)]; decide)], rfl⟩
      · rw [i_le (nI_toInt (show tlN μ < 2 ^ 31 by omega)) (nI_toInt (show e < 2 ^ 31 by omega))] at c_10
        refine AW.aload_n X (pc := 13) 1 rfl rfl d_T_wordEnd_13 ?_
        refine AW.iload_n X (pc := 14) 0 rfl rfl d_T_wordEnd_14 ?_
        refine AW.callV X (pc := 15) (b := 1) (ci := 2) (nA := 1) [.int (nI e)] [] (c_T_signAt (kOf G ad N) e μ hN ht ht4 (by omega)) (gv_V wm_T_60 wi_T_signAt wl_T_signAt wn_T kw_T_signAt) rfl (by decide +kernel) rfl (by omega) rfl rfl ⟨Nat.le_of_ble_eq_true rfl, Nat.le_of_ble_eq_true rfl⟩ ⟨Nat.zero_le _, Nat.zero_le _⟩ (Nat.le_of_ble_eq_true rfl) d_T_wordEnd_15 rfl (fun v μ2 hq => ?_)
        obtain ⟨rfl, hm⟩ := hq
        rw [hm]
        clear hm
        show AW G (rmD 1) 2 (0, 0, ad, N, fb) 18 [(1, .int (nI e)), (0, .ref 1)] [.int (sgA μ e)] μ
        refine AW.callS X (pc := 18) (nA := 1) [.int (sgA μ e)] [] (c_T_isSmallLetter (kOf G ad N) (sgA μ e) μ hN) (gv_S wm_T_76 ws_T_isSmallLetter wn_T kw_T_isSmallLetter) rfl (by decide +kernel) rfl ⟨Nat.le_of_ble_eq_true rfl, Nat.le_of_ble_eq_true rfl⟩ ⟨Nat.zero_le _, Nat.zero_le _⟩ (Nat.le_of_ble_eq_true rfl) d_T_wordEnd_18 rfl (fun v μ2 hq => ?_)
        obtain ⟨rfl, hm⟩ := hq
        rw [hm]
        clear hm
        show AW G (rmD 1) 2 (0, 0, ad, N, fb) 21 [(1, .int (nI e)), (0, .ref 1)] [.int (bi (smB (sgA μ e)))] μ
        refine AW.if_eq X (pc := 21) 30 d_T_wordEnd_21 (by decide) (fun c_21 => ?_) (fun c_21 => ?_)
        · have c_21 := bi_eq.mp c_21
          refine AW.iload_n X (pc := 30) 0 rfl rfl d_T_wordEnd_30 ?_
          exact hret 31 _ _ _ d_T_wordEnd_31 ⟨by rw [← he, show 41 + p - e = (40 + p - e) + 1 by omega, wE, if_neg (by rw [c_21]; decide)], rfl⟩
        · have c_21 := bi_ne.mp c_21
          refine AW.iinc X (pc := 24) (v := nI (e + 1)) (lv2 := [(1, .int (nI (e + 1))), (0, .ref 1)]) 0 rfl (nI_1 _) d_T_wordEnd_24 (by decide) rfl ?_
          refine AW.goto X (pc := 27) 5 d_T_wordEnd_27 (by decide) ?_
          refine AW.locs (lv2 := [(1, .int (nI (e + 1))), (0, .ref 1)]) [0, 1] rfl ?_
          exact ih (e + 1) _ (by omega) (by omega) (by omega) (by rw [← he, show 41 + p - e = (41 + p - (e + 1)) + 1 by omega, wE, if_pos c_21]) rfl
  refine AW.aload_n X (pc := 0) 0 rfl rfl d_T_wordEnd_0 ?_
  refine AW.get X (pc := 1) (k := 1) (ci := 2) (j := 2) (v := .int (μ 1 2)) (by omega) rfl rfl in_T (by decide) wf_T_19 rfl rfl d_T_wordEnd_1 ?_
  refine AW.val (w := .int (nI p)) (congrArg Value.int (hp)) ?_
  refine AW.istore_n X (pc := 4) (lv2 := [(1, .int (nI p)), (0, .ref 1)]) rfl d_T_wordEnd_4 (by decide) rfl ?_
  exact key (tlN μ + 1) p _ (by omega) (Nat.le_refl _) hpt (by rw [Nat.add_sub_cancel]) rfl
set_option maxHeartbeats 4000000 in
set_option maxRecDepth 100000 in
theorem c_T_eventWord_0 (K : KTy)  (μ : Mu) (hN : 272 ≤ KN K)  : CT K y_T_eventWord (k_T_eventWord :: GT) 0 [.int 0] μ (fun v μ2 => v = some (.ref (SB + 0)) ∧ μ2 = μ) := by
  refine CT.ref (cc := b_T_eventWord) (maxL := 1) (by decide) rfl rfl (Nat.le_of_ble_eq_true rfl) ?_
  intro G ad N hK X hret
  subst hK
  have hN : 272 ≤ N := hN
  show AW G (rmD 0) 1 (0, 0, ad, N, fb) 0 [(0, .int 0)] [] μ
  refine AW.iload_n X (pc := 0) 0 rfl rfl d_T_eventWord_0 ?_
  refine AW.tableIn X (pc := 1) 28 d_T_eventWord_1 (by decide) (by decide) (show _ = some 27 by decide) (by decide) ?_
  refine AW.ldcS X (pc := 28) (i := 0) X.gS.2.1.1 d_T_eventWord_28 ?_
  exact hret 30 _ _ _ d_T_eventWord_30 (by first | exact Or.inl rfl | exact Or.inr ⟨_, rfl⟩) ⟨by first | rfl | simp [bi], rfl⟩
set_option maxHeartbeats 4000000 in
set_option maxRecDepth 100000 in
theorem c_T_eventWord_1 (K : KTy)  (μ : Mu) (hN : 272 ≤ KN K)  : CT K y_T_eventWord (k_T_eventWord :: GT) 0 [.int 1] μ (fun v μ2 => v = some (.ref (SB + 1)) ∧ μ2 = μ) := by
  refine CT.ref (cc := b_T_eventWord) (maxL := 1) (by decide) rfl rfl (Nat.le_of_ble_eq_true rfl) ?_
  intro G ad N hK X hret
  subst hK
  have hN : 272 ≤ N := hN
  show AW G (rmD 0) 1 (0, 0, ad, N, fb) 0 [(0, .int 1)] [] μ
  refine AW.iload_n X (pc := 0) 0 rfl rfl d_T_eventWord_0 ?_
  refine AW.tableIn X (pc := 1) 31 d_T_eventWord_1 (by decide) (by decide) (show _ = some 30 by decide) (by decide) ?_
  refine AW.ldcS X (pc := 31) (i := 1) X.gS.2.1.2.1 d_T_eventWord_31 ?_
  exact hret 33 _ _ _ d_T_eventWord_33 (by first | exact Or.inl rfl | exact Or.inr ⟨_, rfl⟩) ⟨by first | rfl | simp [bi], rfl⟩
set_option maxHeartbeats 4000000 in
set_option maxRecDepth 100000 in
theorem c_T_eventWord_2 (K : KTy)  (μ : Mu) (hN : 272 ≤ KN K)  : CT K y_T_eventWord (k_T_eventWord :: GT) 0 [.int 2] μ (fun v μ2 => v = some (.ref (SB + 2)) ∧ μ2 = μ) := by
  refine CT.ref (cc := b_T_eventWord) (maxL := 1) (by decide) rfl rfl (Nat.le_of_ble_eq_true rfl) ?_
  intro G ad N hK X hret
  subst hK
  have hN : 272 ≤ N := hN
  show AW G (rmD 0) 1 (0, 0, ad, N, fb) 0 [(0, .int 2)] [] μ
  refine AW.iload_n X (pc := 0) 0 rfl rfl d_T_eventWord_0 ?_
  refine AW.tableIn X (pc := 1) 34 d_T_eventWord_1 (by decide) (by decide) (show _ = some 33 by decide) (by decide) ?_
  refine AW.ldcS X (pc := 34) (i := 2) X.gS.2.1.2.2.1 d_T_eventWord_34 ?_
  exact hret 36 _ _ _ d_T_eventWord_36 (by first | exact Or.inl rfl | exact Or.inr ⟨_, rfl⟩) ⟨by first | rfl | simp [bi], rfl⟩
set_option maxHeartbeats 4000000 in
set_option maxRecDepth 100000 in
theorem c_T_eventWord_3 (K : KTy)  (μ : Mu) (hN : 272 ≤ KN K)  : CT K y_T_eventWord (k_T_eventWord :: GT) 0 [.int 3] μ (fun v μ2 => v = some (.ref (SB + 3)) ∧ μ2 = μ) := by
  refine CT.ref (cc := b_T_eventWord) (maxL := 1) (by decide) rfl rfl (Nat.le_of_ble_eq_true rfl) ?_
  intro G ad N hK X hret
  subst hK
  have hN : 272 ≤ N := hN
  show AW G (rmD 0) 1 (0, 0, ad, N, fb) 0 [(0, .int 3)] [] μ
  refine AW.iload_n X (pc := 0) 0 rfl rfl d_T_eventWord_0 ?_
  refine AW.tableOut X (pc := 1) 37 d_T_eventWord_1 (by decide) (by decide) ?_
  refine AW.ldcS X (pc := 37) (i := 3) X.gS.2.1.2.2.2.1 d_T_eventWord_37 ?_
  exact hret 39 _ _ _ d_T_eventWord_39 (by first | exact Or.inl rfl | exact Or.inr ⟨_, rfl⟩) ⟨by first | rfl | simp [bi], rfl⟩
set_option maxHeartbeats 4000000 in
set_option maxRecDepth 100000 in
theorem c_T_isWord (K : KTy) (i p e : Nat) (μ : Mu) (hN : 272 ≤ KN K) (ht : μ 1 1 = nI (tlN μ)) (ht4 : tlN μ ≤ 40) (hp : μ 1 2 = nI p) (hpe : p ≤ e) (he : e ≤ 40) (h6 : i < 6) : CT K y_T_isWord (k_T_isWord :: GT) 4 [.ref 1, .ref (SB + i), .int (nI e)] μ (fun v μ2 => v = some (.int (bi (wM (sgA μ) p e i))) ∧ μ2 = μ) := by
  refine CT.bool (cc := b_T_isWord) (maxL := 4) (by decide) rfl rfl (Nat.le_of_ble_eq_true rfl) ?_
  intro G ad N hK X hret
  subst hK
  have hN : 272 ≤ N := hN
  show AW G (rmD 4) 4 (0, 0, ad, N, fb) 0 [(0, .ref 1), (1, .ref (SB + i)), (2, .int (nI e))] [] μ
  have hl6 := lnS_lt h6
  by_cases hE : e = p + lnS i
  · skip
    have key : ∀ (n : Nat) (k : Nat) (x : Int32), lnS i - k < n → (k ≤ lnS i) → (x = nI k) → (∀ q, q < k → sgA μ (p + q) = chS i q) → AW G (rmD 4) 4 (0, 0, ad, N, fb) 17 [(3, .int x), (0, .ref 1), (1, .ref (SB + i)), (2, .int (nI e))] [] μ := by
      intro n
      induction n with
      | zero =>
        intro k x hlt
        exact absurd hlt (Nat.not_lt_zero _)
      | succ n ih =>
        intro k x hlt hkl ex ha
        subst ex
        refine AW.iload_n X (pc := 17) 0 rfl rfl d_T_isWord_17 ?_
        refine AW.aload_n X (pc := 18) 2 rfl rfl d_T_isWord_18 ?_
        refine AW.callT X (pc := 19) (b := i) (nA := 0) [] [.int (nI k)] (c_S_length (kOf G ad N) i μ hN h6) (gv_T wm_T_79 wi_S_length wl_S_length wn_S kw_S_length) rfl (by decide +kernel) rfl h6 ⟨Nat.le_of_ble_eq_true rfl, Nat.le_of_ble_eq_true rfl⟩ ⟨Nat.zero_le _, Nat.zero_le _⟩ (Nat.le_of_ble_eq_true rfl) d_T_isWord_19 rfl (fun v μ2 hq => ?_)
        obtain ⟨rfl, hm⟩ := hq
        rw [hm]
        clear hm
        show AW G (rmD 4) 4 (0, 0, ad, N, fb) 22 [(3, .int (nI k)), (0, .ref 1), (1, .ref (SB + i)), (2, .int (nI e))] [.int (nI (lnS i)), .int (nI k)] μ
        refine AW.icmp_ge X (pc := 22) 51 d_T_isWord_22 (by decide) (fun c_22 => ?_) (fun c_22 => ?_)
        · rw [i_le (nI_toInt (show lnS i < 2 ^ 31 by omega)) (nI_toInt (show k < 2 ^ 31 by omega))] at c_22
          refine AW.iconst X (pc := 51) (v := 1) (by decide) d_T_isWord_51 ?_
          exact hret 52 _ _ _ d_T_isWord_52 rfl ⟨by rw [wM, decide_eq_true hE, anyB_f (fun q hq => by rw [decide_eq_true (ha q (by omega))]; rfl)]; rfl, rfl⟩
        · rw [i_le (nI_toInt (show lnS i < 2 ^ 31 by omega)) (nI_toInt (show k < 2 ^ 31 by omega))] at c_22
          have hk : k < lnS i := by omega
          refine AW.aload_n X (pc := 25) 1 rfl rfl d_T_isWord_25 ?_
          refine AW.aload_n X (pc := 26) 1 rfl rfl d_T_isWord_26 ?_
          refine AW.get X (pc := 27) (k := 1) (ci := 2) (j := 2) (v := .int (μ 1 2)) (by omega) rfl rfl in_T (by decide) wf_T_19 rfl rfl d_T_isWord_27 ?_
          refine AW.val (w := .int (nI p)) (congrArg Value.int (hp)) ?_
          refine AW.iload_n X (pc := 30) 0 rfl rfl d_T_isWord_30 ?_
          refine AW.iadd X (pc := 31) d_T_isWord_31 ?_
          refine AW.val (w := .int (nI (p + k))) (congrArg Value.int (nI_add p k)) ?_
          refine AW.callV X (pc := 32) (b := 1) (ci := 2) (nA := 1) [.int (nI (p + k))] [] (c_T_signAt (kOf G ad N) (p + k) μ hN ht ht4 (by omega)) (gv_V wm_T_60 wi_T_signAt wl_T_signAt wn_T kw_T_signAt) rfl (by decide +kernel) rfl (by omega) rfl rfl ⟨Nat.le_of_ble_eq_true rfl, Nat.le_of_ble_eq_true rfl⟩ ⟨Nat.zero_le _, Nat.zero_le _⟩ (Nat.le_of_ble_eq_true rfl) d_T_isWord_32 rfl (fun v μ2 hq => ?_)
          obtain ⟨rfl, hm⟩ := hq
          rw [hm]
          clear hm
          show AW G (rmD 4) 4 (0, 0, ad, N, fb) 35 [(3, .int (nI k)), (0, .ref 1), (1, .ref (SB + i)), (2, .int (nI e))] [.int (sgA μ (p + k))] μ
          refine AW.aload_n X (pc := 35) 2 rfl rfl d_T_isWord_35 ?_
          refine AW.iload_n X (pc := 36) 0 rfl rfl d_T_isWord_36 ?_
          refine AW.callT X (pc := 37) (b := i) (nA := 1) [.int (nI k)] [.int (sgA μ (p + k))] (c_S_charAt (kOf G ad N) i k μ hN h6 hk) (gv_T wm_T_83 wi_S_charAt wl_S_charAt wn_S kw_S_charAt) rfl (by decide +kernel) rfl h6 ⟨Nat.le_of_ble_eq_true rfl, Nat.le_of_ble_eq_true rfl⟩ ⟨Nat.zero_le _, Nat.zero_le _⟩ (Nat.le_of_ble_eq_true rfl) d_T_isWord_37 rfl (fun v μ2 hq => ?_)
          obtain ⟨rfl, hm⟩ := hq
          rw [hm]
          clear hm
          show AW G (rmD 4) 4 (0, 0, ad, N, fb) 40 [(3, .int (nI k)), (0, .ref 1), (1, .ref (SB + i)), (2, .int (nI e))] [.int (chS i k), .int (sgA μ (p + k))] μ
          refine AW.icmp_eq X (pc := 40) 45 d_T_isWord_40 (by decide) (fun c_40 => ?_) (fun c_40 => ?_)
          · refine AW.iinc X (pc := 45) (v := nI (k + 1)) (lv2 := [(3, .int (nI (k + 1))), (0, .ref 1), (1, .ref (SB + i)), (2, .int (nI e))]) 0 rfl (nI_1 _) d_T_isWord_45 (by decide) rfl ?_
            refine AW.goto X (pc := 48) 17 d_T_isWord_48 (by decide) ?_
            refine AW.locs (lv2 := [(3, .int (nI (k + 1))), (0, .ref 1), (1, .ref (SB + i)), (2, .int (nI e))]) [0, 1, 2, 3] rfl ?_
            exact ih (k + 1) _ (by omega) (by omega) rfl (fun q hq => by rcases Nat.lt_succ_iff_lt_or_eq.mp hq with h | rfl; exact ha q h; exact c_40)
          · refine AW.iconst X (pc := 43) (v := 0) (by decide) d_T_isWord_43 ?_
            exact hret 44 _ _ _ d_T_isWord_44 rfl ⟨by rw [wM, decide_eq_true hE, anyB_t hk (by rw [decide_eq_false c_40]; rfl)]; rfl, rfl⟩
    refine AW.iload_n X (pc := 0) 2 rfl rfl d_T_isWord_0 ?_
    refine AW.aload_n X (pc := 1) 0 rfl rfl d_T_isWord_1 ?_
    refine AW.get X (pc := 2) (k := 1) (ci := 2) (j := 2) (v := .int (μ 1 2)) (by omega) rfl rfl in_T (by decide) wf_T_19 rfl rfl d_T_isWord_2 ?_
    refine AW.val (w := .int (nI p)) (congrArg Value.int (hp)) ?_
    refine AW.isub X (pc := 5) d_T_isWord_5 ?_
    refine AW.val (w := .int (nI (e - p))) (congrArg Value.int (pk_sub hpe)) ?_
    refine AW.aload_n X (pc := 6) 1 rfl rfl d_T_isWord_6 ?_
    refine AW.callT X (pc := 7) (b := i) (nA := 0) [] [.int (nI (e - p))] (c_S_length (kOf G ad N) i μ hN h6) (gv_T wm_T_79 wi_S_length wl_S_length wn_S kw_S_length) rfl (by decide +kernel) rfl h6 ⟨Nat.le_of_ble_eq_true rfl, Nat.le_of_ble_eq_true rfl⟩ ⟨Nat.zero_le _, Nat.zero_le _⟩ (Nat.le_of_ble_eq_true rfl) d_T_isWord_7 rfl (fun v μ2 hq => ?_)
    obtain ⟨rfl, hm⟩ := hq
    rw [hm]
    clear hm
    show AW G (rmD 4) 4 (0, 0, ad, N, fb) 10 [(0, .ref 1), (1, .ref (SB + i)), (2, .int (nI e))] [.int (nI (lnS i)), .int (nI (e - p))] μ
    refine AW.icmp_eq X (pc := 10) 15 d_T_isWord_10 (by decide) (fun c_10 => ?_) (fun c_10 => absurd c_10 (by rw [i_eq (nI_toInt (show e - p < 2 ^ 31 by omega)) (nI_toInt (show lnS i < 2 ^ 31 by omega))]; omega))
    refine AW.iconst X (pc := 15) (v := 0) (by decide) d_T_isWord_15 ?_
    refine AW.istore_n X (pc := 16) (lv2 := [(3, .int 0), (0, .ref 1), (1, .ref (SB + i)), (2, .int (nI e))]) rfl d_T_isWord_16 (by decide) rfl ?_
    exact key (lnS i + 1) 0 _ (by omega) (Nat.zero_le _) nI_0.symm (fun q hq => absurd hq (Nat.not_lt_zero _))
  · refine AW.iload_n X (pc := 0) 2 rfl rfl d_T_isWord_0 ?_
    refine AW.aload_n X (pc := 1) 0 rfl rfl d_T_isWord_1 ?_
    refine AW.get X (pc := 2) (k := 1) (ci := 2) (j := 2) (v := .int (μ 1 2)) (by omega) rfl rfl in_T (by decide) wf_T_19 rfl rfl d_T_isWord_2 ?_
    refine AW.val (w := .int (nI p)) (congrArg Value.int (hp)) ?_
    refine AW.isub X (pc := 5) d_T_isWord_5 ?_
    refine AW.val (w := .int (nI (e - p))) (congrArg Value.int (pk_sub hpe)) ?_
    refine AW.aload_n X (pc := 6) 1 rfl rfl d_T_isWord_6 ?_
    refine AW.callT X (pc := 7) (b := i) (nA := 0) [] [.int (nI (e - p))] (c_S_length (kOf G ad N) i μ hN h6) (gv_T wm_T_79 wi_S_length wl_S_length wn_S kw_S_length) rfl (by decide +kernel) rfl h6 ⟨Nat.le_of_ble_eq_true rfl, Nat.le_of_ble_eq_true rfl⟩ ⟨Nat.zero_le _, Nat.zero_le _⟩ (Nat.le_of_ble_eq_true rfl) d_T_isWord_7 rfl (fun v μ2 hq => ?_)
    obtain ⟨rfl, hm⟩ := hq
    rw [hm]
    clear hm
    show AW G (rmD 4) 4 (0, 0, ad, N, fb) 10 [(0, .ref 1), (1, .ref (SB + i)), (2, .int (nI e))] [.int (nI (lnS i)), .int (nI (e - p))] μ
    refine AW.icmp_eq X (pc := 10) 15 d_T_isWord_10 (by decide) (fun c_10 => absurd c_10 (by rw [i_eq (nI_toInt (show e - p < 2 ^ 31 by omega)) (nI_toInt (show lnS i < 2 ^ 31 by omega))]; omega)) (fun c_10 => ?_)
    refine AW.iconst X (pc := 13) (v := 0) (by decide) d_T_isWord_13 ?_
    exact hret 14 _ _ _ d_T_isWord_14 rfl ⟨by rw [wM, decide_eq_false hE]; rfl, rfl⟩
set_option maxHeartbeats 4000000 in
set_option maxRecDepth 100000 in
theorem c_T_readEvent (K : KTy) (p : Nat) (μ : Mu) (hN : 272 ≤ KN K) (ht : μ 1 1 = nI (tlN μ)) (ht4 : tlN μ ≤ 40) (hp : μ 1 2 = nI p) (hpt : p ≤ tlN μ) : CT K y_T_readEvent (k_T_readEvent :: GT) 5 [.ref 1] μ (fun v μ2 => if evK (sgA μ) p (wE (sgA μ) 41 p) = 4 then v = some (.int 0) ∧ μ2 = μ else v = some (.int 1) ∧ μ2 = m_up (m_up μ 1 3 (nI (evK (sgA μ) p (wE (sgA μ) 41 p)))) 1 2 (nI (wE (sgA μ) 41 p))) := by
  refine CT.bool (cc := b_T_readEvent) (maxL := 3) (by decide) rfl rfl (Nat.le_of_ble_eq_true rfl) ?_
  intro G ad N hK X hret
  subst hK
  have hN : 272 ≤ N := hN
  have hpe := wE_ge (sgA μ) 41 p
  have hwt := wE_tl μ 41 p hpt
  have he : wE (sgA μ) 41 p ≤ 40 := by omega
  show AW G (rmD 5) 3 (0, 0, ad, N, fb) 0 [(0, .ref 1)] [] μ
  cases w_0 : wM (sgA μ) p (wE (sgA μ) 41 p) 0 with
  | true =>
    refine AW.aload_n X (pc := 0) 0 rfl rfl d_T_readEvent_0 ?_
    refine AW.callV X (pc := 1) (b := 1) (ci := 2) (nA := 0) [] [] (c_T_wordEnd (kOf G ad N) p μ hN ht ht4 hp hpt) (gv_V wm_T_44 wi_T_wordEnd wl_T_wordEnd wn_T kw_T_wordEnd) rfl (by decide +kernel) rfl (by omega) rfl rfl ⟨Nat.le_of_ble_eq_true rfl, Nat.le_of_ble_eq_true rfl⟩ ⟨Nat.zero_le _, Nat.zero_le _⟩ (Nat.le_of_ble_eq_true rfl) d_T_readEvent_1 rfl (fun v μ2 hq => ?_)
    obtain ⟨rfl, hm⟩ := hq
    rw [hm]
    clear hm
    show AW G (rmD 5) 3 (0, 0, ad, N, fb) 4 [(0, .ref 1)] [.int (nI (wE (sgA μ) 41 p))] μ
    refine AW.istore_n X (pc := 4) (lv2 := [(1, .int (nI (wE (sgA μ) 41 p))), (0, .ref 1)]) rfl d_T_readEvent_4 (by decide) rfl ?_
    refine AW.iconst X (pc := 5) (v := 0) (by decide) d_T_readEvent_5 ?_
    refine AW.istore_n X (pc := 6) (lv2 := [(2, .int 0), (1, .int (nI (wE (sgA μ) 41 p))), (0, .ref 1)]) rfl d_T_readEvent_6 (by decide) rfl ?_
    refine AW.iload_n X (pc := 7) 0 rfl rfl d_T_readEvent_7 ?_
    refine AW.iconst X (pc := 8) (v := 4) (by decide) d_T_readEvent_8 ?_
    refine AW.icmp_ge X (pc := 9) 42 d_T_readEvent_9 (by decide) (fun c_9 => absurd c_9 (by decide)) (fun c_9 => ?_)
    refine AW.aload_n X (pc := 12) 2 rfl rfl d_T_readEvent_12 ?_
    refine AW.iload_n X (pc := 13) 0 rfl rfl d_T_readEvent_13 ?_
    refine AW.callS X (pc := 14) (nA := 1) [.int 0] [.ref 1] (c_T_eventWord_0 (kOf G ad N) μ hN) (gv_S wm_T_48 ws_T_eventWord wn_T kw_T_eventWord) rfl (by decide +kernel) rfl ⟨Nat.le_of_ble_eq_true rfl, Nat.le_of_ble_eq_true rfl⟩ ⟨Nat.zero_le _, Nat.zero_le _⟩ (Nat.le_of_ble_eq_true rfl) d_T_readEvent_14 rfl (fun v μ2 hq => ?_)
    obtain ⟨rfl, hm⟩ := hq
    rw [hm]
    clear hm
    show AW G (rmD 5) 3 (0, 0, ad, N, fb) 17 [(2, .int 0), (1, .int (nI (wE (sgA μ) 41 p))), (0, .ref 1)] [.ref (SB + 0), .ref 1] μ
    refine AW.iload_n X (pc := 17) 1 rfl rfl d_T_readEvent_17 ?_
    refine AW.callV X (pc := 18) (b := 1) (ci := 2) (nA := 2) [.ref (SB + 0), .int (nI (wE (sgA μ) 41 p))] [] (c_T_isWord (kOf G ad N) 0 p (wE (sgA μ) 41 p) μ hN ht ht4 hp hpe he (by decide)) (gv_V wm_T_52 wi_T_isWord wl_T_isWord wn_T kw_T_isWord) rfl (by decide +kernel) rfl (by omega) rfl rfl ⟨Nat.le_of_ble_eq_true rfl, Nat.le_of_ble_eq_true rfl⟩ ⟨Nat.zero_le _, Nat.zero_le _⟩ (Nat.le_of_ble_eq_true rfl) d_T_readEvent_18 rfl (fun v μ2 hq => ?_)
    obtain ⟨rfl, hm⟩ := hq
    rw [hm]
    clear hm
    show AW G (rmD 5) 3 (0, 0, ad, N, fb) 21 [(2, .int 0), (1, .int (nI (wE (sgA μ) 41 p))), (0, .ref 1)] [.int (bi (wM (sgA μ) p (wE (sgA μ) 41 p) 0))] μ
    refine AW.if_eq X (pc := 21) 36 d_T_readEvent_21 (by decide) (fun c_21 => absurd c_21 (by rw [w_0]; decide)) (fun c_21 => ?_)
    refine AW.aload_n X (pc := 24) 2 rfl rfl d_T_readEvent_24 ?_
    refine AW.iload_n X (pc := 25) 0 rfl rfl d_T_readEvent_25 ?_
    refine AW.put X (pc := 26) (k := 1) (ci := 2) (j := 3) (x := 0) (ty := .int) ft_T (by omega) rfl rfl in_T ft_T_ok n_T (by decide) wf_T_35 rfl rfl rfl rfl rfl d_T_readEvent_26 ?_
    refine AW.aload_n X (pc := 29) 2 rfl rfl d_T_readEvent_29 ?_
    refine AW.iload_n X (pc := 30) 1 rfl rfl d_T_readEvent_30 ?_
    refine AW.put X (pc := 31) (k := 1) (ci := 2) (j := 2) (x := nI (wE (sgA μ) 41 p)) (ty := .int) ft_T (by omega) rfl rfl in_T ft_T_ok n_T (by decide) wf_T_19 rfl rfl rfl rfl rfl d_T_readEvent_31 ?_
    refine AW.iconst X (pc := 34) (v := 1) (by decide) d_T_readEvent_34 ?_
    exact hret 35 _ _ _ d_T_readEvent_35 rfl (by rw [show evK (sgA μ) p (wE (sgA μ) 41 p) = 0 by simp [evK, w_0]]; exact ⟨rfl, rfl⟩)
  | false =>
    cases w_1 : wM (sgA μ) p (wE (sgA μ) 41 p) 1 with
    | true =>
      refine AW.aload_n X (pc := 0) 0 rfl rfl d_T_readEvent_0 ?_
      refine AW.callV X (pc := 1) (b := 1) (ci := 2) (nA := 0) [] [] (c_T_wordEnd (kOf G ad N) p μ hN ht ht4 hp hpt) (gv_V wm_T_44 wi_T_wordEnd wl_T_wordEnd wn_T kw_T_wordEnd) rfl (by decide +kernel) rfl (by omega) rfl rfl ⟨Nat.le_of_ble_eq_true rfl, Nat.le_of_ble_eq_true rfl⟩ ⟨Nat.zero_le _, Nat.zero_le _⟩ (Nat.le_of_ble_eq_true rfl) d_T_readEvent_1 rfl (fun v μ2 hq => ?_)
      obtain ⟨rfl, hm⟩ := hq
      rw [hm]
      clear hm
      show AW G (rmD 5) 3 (0, 0, ad, N, fb) 4 [(0, .ref 1)] [.int (nI (wE (sgA μ) 41 p))] μ
      refine AW.istore_n X (pc := 4) (lv2 := [(1, .int (nI (wE (sgA μ) 41 p))), (0, .ref 1)]) rfl d_T_readEvent_4 (by decide) rfl ?_
      refine AW.iconst X (pc := 5) (v := 0) (by decide) d_T_readEvent_5 ?_
      refine AW.istore_n X (pc := 6) (lv2 := [(2, .int 0), (1, .int (nI (wE (sgA μ) 41 p))), (0, .ref 1)]) rfl d_T_readEvent_6 (by decide) rfl ?_
      refine AW.iload_n X (pc := 7) 0 rfl rfl d_T_readEvent_7 ?_
      refine AW.iconst X (pc := 8) (v := 4) (by decide) d_T_readEvent_8 ?_
      refine AW.icmp_ge X (pc := 9) 42 d_T_readEvent_9 (by decide) (fun c_9 => absurd c_9 (by decide)) (fun c_9 => ?_)
      refine AW.aload_n X (pc := 12) 2 rfl rfl d_T_readEvent_12 ?_
      refine AW.iload_n X (pc := 13) 0 rfl rfl d_T_readEvent_13 ?_
      refine AW.callS X (pc := 14) (nA := 1) [.int 0] [.ref 1] (c_T_eventWord_0 (kOf G ad N) μ hN) (gv_S wm_T_48 ws_T_eventWord wn_T kw_T_eventWord) rfl (by decide +kernel) rfl ⟨Nat.le_of_ble_eq_true rfl, Nat.le_of_ble_eq_true rfl⟩ ⟨Nat.zero_le _, Nat.zero_le _⟩ (Nat.le_of_ble_eq_true rfl) d_T_readEvent_14 rfl (fun v μ2 hq => ?_)
      obtain ⟨rfl, hm⟩ := hq
      rw [hm]
      clear hm
      show AW G (rmD 5) 3 (0, 0, ad, N, fb) 17 [(2, .int 0), (1, .int (nI (wE (sgA μ) 41 p))), (0, .ref 1)] [.ref (SB + 0), .ref 1] μ
      refine AW.iload_n X (pc := 17) 1 rfl rfl d_T_readEvent_17 ?_
      refine AW.callV X (pc := 18) (b := 1) (ci := 2) (nA := 2) [.ref (SB + 0), .int (nI (wE (sgA μ) 41 p))] [] (c_T_isWord (kOf G ad N) 0 p (wE (sgA μ) 41 p) μ hN ht ht4 hp hpe he (by decide)) (gv_V wm_T_52 wi_T_isWord wl_T_isWord wn_T kw_T_isWord) rfl (by decide +kernel) rfl (by omega) rfl rfl ⟨Nat.le_of_ble_eq_true rfl, Nat.le_of_ble_eq_true rfl⟩ ⟨Nat.zero_le _, Nat.zero_le _⟩ (Nat.le_of_ble_eq_true rfl) d_T_readEvent_18 rfl (fun v μ2 hq => ?_)
      obtain ⟨rfl, hm⟩ := hq
      rw [hm]
      clear hm
      show AW G (rmD 5) 3 (0, 0, ad, N, fb) 21 [(2, .int 0), (1, .int (nI (wE (sgA μ) 41 p))), (0, .ref 1)] [.int (bi (wM (sgA μ) p (wE (sgA μ) 41 p) 0))] μ
      refine AW.if_eq X (pc := 21) 36 d_T_readEvent_21 (by decide) (fun c_21 => ?_) (fun c_21 => absurd c_21 (by rw [w_0]; decide))
      refine AW.iinc X (pc := 36) (v := 1) (lv2 := [(2, .int 1), (1, .int (nI (wE (sgA μ) 41 p))), (0, .ref 1)]) 0 rfl (by decide) d_T_readEvent_36 (by decide) rfl ?_
      refine AW.goto X (pc := 39) 7 d_T_readEvent_39 (by decide) ?_
      refine AW.iload_n X (pc := 7) 0 rfl rfl d_T_readEvent_7 ?_
      refine AW.iconst X (pc := 8) (v := 4) (by decide) d_T_readEvent_8 ?_
      refine AW.icmp_ge X (pc := 9) 42 d_T_readEvent_9 (by decide) (fun c_9 => absurd c_9 (by decide)) (fun c_9 => ?_)
      refine AW.aload_n X (pc := 12) 2 rfl rfl d_T_readEvent_12 ?_
      refine AW.iload_n X (pc := 13) 0 rfl rfl d_T_readEvent_13 ?_
      refine AW.callS X (pc := 14) (nA := 1) [.int 1] [.ref 1] (c_T_eventWord_1 (kOf G ad N) μ hN) (gv_S wm_T_48 ws_T_eventWord wn_T kw_T_eventWord) rfl (by decide +kernel) rfl ⟨Nat.le_of_ble_eq_true rfl, Nat.le_of_ble_eq_true rfl⟩ ⟨Nat.zero_le _, Nat.zero_le _⟩ (Nat.le_of_ble_eq_true rfl) d_T_readEvent_14 rfl (fun v μ2 hq => ?_)
      obtain ⟨rfl, hm⟩ := hq
      rw [hm]
      clear hm
      show AW G (rmD 5) 3 (0, 0, ad, N, fb) 17 [(2, .int 1), (1, .int (nI (wE (sgA μ) 41 p))), (0, .ref 1)] [.ref (SB + 1), .ref 1] μ
      refine AW.iload_n X (pc := 17) 1 rfl rfl d_T_readEvent_17 ?_
      refine AW.callV X (pc := 18) (b := 1) (ci := 2) (nA := 2) [.ref (SB + 1), .int (nI (wE (sgA μ) 41 p))] [] (c_T_isWord (kOf G ad N) 1 p (wE (sgA μ) 41 p) μ hN ht ht4 hp hpe he (by decide)) (gv_V wm_T_52 wi_T_isWord wl_T_isWord wn_T kw_T_isWord) rfl (by decide +kernel) rfl (by omega) rfl rfl ⟨Nat.le_of_ble_eq_true rfl, Nat.le_of_ble_eq_true rfl⟩ ⟨Nat.zero_le _, Nat.zero_le _⟩ (Nat.le_of_ble_eq_true rfl) d_T_readEvent_18 rfl (fun v μ2 hq => ?_)
      obtain ⟨rfl, hm⟩ := hq
      rw [hm]
      clear hm
      show AW G (rmD 5) 3 (0, 0, ad, N, fb) 21 [(2, .int 1), (1, .int (nI (wE (sgA μ) 41 p))), (0, .ref 1)] [.int (bi (wM (sgA μ) p (wE (sgA μ) 41 p) 1))] μ
      refine AW.if_eq X (pc := 21) 36 d_T_readEvent_21 (by decide) (fun c_21 => absurd c_21 (by rw [w_1]; decide)) (fun c_21 => ?_)
      refine AW.aload_n X (pc := 24) 2 rfl rfl d_T_readEvent_24 ?_
      refine AW.iload_n X (pc := 25) 0 rfl rfl d_T_readEvent_25 ?_
      refine AW.put X (pc := 26) (k := 1) (ci := 2) (j := 3) (x := 1) (ty := .int) ft_T (by omega) rfl rfl in_T ft_T_ok n_T (by decide) wf_T_35 rfl rfl rfl rfl rfl d_T_readEvent_26 ?_
      refine AW.aload_n X (pc := 29) 2 rfl rfl d_T_readEvent_29 ?_
      refine AW.iload_n X (pc := 30) 1 rfl rfl d_T_readEvent_30 ?_
      refine AW.put X (pc := 31) (k := 1) (ci := 2) (j := 2) (x := nI (wE (sgA μ) 41 p)) (ty := .int) ft_T (by omega) rfl rfl in_T ft_T_ok n_T (by decide) wf_T_19 rfl rfl rfl rfl rfl d_T_readEvent_31 ?_
      refine AW.iconst X (pc := 34) (v := 1) (by decide) d_T_readEvent_34 ?_
      exact hret 35 _ _ _ d_T_readEvent_35 rfl (by rw [show evK (sgA μ) p (wE (sgA μ) 41 p) = 1 by simp [evK, w_0, w_1]]; exact ⟨rfl, rfl⟩)
    | false =>
      cases w_2 : wM (sgA μ) p (wE (sgA μ) 41 p) 2 with
      | true =>
        refine AW.aload_n X (pc := 0) 0 rfl rfl d_T_readEvent_0 ?_
        refine AW.callV X (pc := 1) (b := 1) (ci := 2) (nA := 0) [] [] (c_T_wordEnd (kOf G ad N) p μ hN ht ht4 hp hpt) (gv_V wm_T_44 wi_T_wordEnd wl_T_wordEnd wn_T kw_T_wordEnd) rfl (by decide +kernel) rfl (by omega) rfl rfl ⟨Nat.le_of_ble_eq_true rfl, Nat.le_of_ble_eq_true rfl⟩ ⟨Nat.zero_le _, Nat.zero_le _⟩ (Nat.le_of_ble_eq_true rfl) d_T_readEvent_1 rfl (fun v μ2 hq => ?_)
        obtain ⟨rfl, hm⟩ := hq
        rw [hm]
        clear hm
        show AW G (rmD 5) 3 (0, 0, ad, N, fb) 4 [(0, .ref 1)] [.int (nI (wE (sgA μ) 41 p))] μ
        refine AW.istore_n X (pc := 4) (lv2 := [(1, .int (nI (wE (sgA μ) 41 p))), (0, .ref 1)]) rfl d_T_readEvent_4 (by decide) rfl ?_
        refine AW.iconst X (pc := 5) (v := 0) (by decide) d_T_readEvent_5 ?_
        refine AW.istore_n X (pc := 6) (lv2 := [(2, .int 0), (1, .int (nI (wE (sgA μ) 41 p))), (0, .ref 1)]) rfl d_T_readEvent_6 (by decide) rfl ?_
        refine AW.iload_n X (pc := 7) 0 rfl rfl d_T_readEvent_7 ?_
        refine AW.iconst X (pc := 8) (v := 4) (by decide) d_T_readEvent_8 ?_
        refine AW.icmp_ge X (pc := 9) 42 d_T_readEvent_9 (by decide) (fun c_9 => absurd c_9 (by decide)) (fun c_9 => ?_)
        refine AW.aload_n X (pc := 12) 2 rfl rfl d_T_readEvent_12 ?_
        refine AW.iload_n X (pc := 13) 0 rfl rfl d_T_readEvent_13 ?_
        refine AW.callS X (pc := 14) (nA := 1) [.int 0] [.ref 1] (c_T_eventWord_0 (kOf G ad N) μ hN) (gv_S wm_T_48 ws_T_eventWord wn_T kw_T_eventWord) rfl (by decide +kernel) rfl ⟨Nat.le_of_ble_eq_true rfl, Nat.le_of_ble_eq_true rfl⟩ ⟨Nat.zero_le _, Nat.zero_le _⟩ (Nat.le_of_ble_eq_true rfl) d_T_readEvent_14 rfl (fun v μ2 hq => ?_)
        obtain ⟨rfl, hm⟩ := hq
        rw [hm]
        clear hm
        show AW G (rmD 5) 3 (0, 0, ad, N, fb) 17 [(2, .int 0), (1, .int (nI (wE (sgA μ) 41 p))), (0, .ref 1)] [.ref (SB + 0), .ref 1] μ
        refine AW.iload_n X (pc := 17) 1 rfl rfl d_T_readEvent_17 ?_
        refine AW.callV X (pc := 18) (b := 1) (ci := 2) (nA := 2) [.ref (SB + 0), .int (nI (wE (sgA μ) 41 p))] [] (c_T_isWord (kOf G ad N) 0 p (wE (sgA μ) 41 p) μ hN ht ht4 hp hpe he (by decide)) (gv_V wm_T_52 wi_T_isWord wl_T_isWord wn_T kw_T_isWord) rfl (by decide +kernel) rfl (by omega) rfl rfl ⟨Nat.le_of_ble_eq_true rfl, Nat.le_of_ble_eq_true rfl⟩ ⟨Nat.zero_le _, Nat.zero_le _⟩ (Nat.le_of_ble_eq_true rfl) d_T_readEvent_18 rfl (fun v μ2 hq => ?_)
        obtain ⟨rfl, hm⟩ := hq
        rw [hm]
        clear hm
        show AW G (rmD 5) 3 (0, 0, ad, N, fb) 21 [(2, .int 0), (1, .int (nI (wE (sgA μ) 41 p))), (0, .ref 1)] [.int (bi (wM (sgA μ) p (wE (sgA μ) 41 p) 0))] μ
        refine AW.if_eq X (pc := 21) 36 d_T_readEvent_21 (by decide) (fun c_21 => ?_) (fun c_21 => absurd c_21 (by rw [w_0]; decide))
        refine AW.iinc X (pc := 36) (v := 1) (lv2 := [(2, .int 1), (1, .int (nI (wE (sgA μ) 41 p))), (0, .ref 1)]) 0 rfl (by decide) d_T_readEvent_36 (by decide) rfl ?_
        refine AW.goto X (pc := 39) 7 d_T_readEvent_39 (by decide) ?_
        refine AW.iload_n X (pc := 7) 0 rfl rfl d_T_readEvent_7 ?_
        refine AW.iconst X (pc := 8) (v := 4) (by decide) d_T_readEvent_8 ?_
        refine AW.icmp_ge X (pc := 9) 42 d_T_readEvent_9 (by decide) (fun c_9 => absurd c_9 (by decide)) (fun c_9 => ?_)
        refine AW.aload_n X (pc := 12) 2 rfl rfl d_T_readEvent_12 ?_
        refine AW.iload_n X (pc := 13) 0 rfl rfl d_T_readEvent_13 ?_
        refine AW.callS X (pc := 14) (nA := 1) [.int 1] [.ref 1] (c_T_eventWord_1 (kOf G ad N) μ hN) (gv_S wm_T_48 ws_T_eventWord wn_T kw_T_eventWord) rfl (by decide +kernel) rfl ⟨Nat.le_of_ble_eq_true rfl, Nat.le_of_ble_eq_true rfl⟩ ⟨Nat.zero_le _, Nat.zero_le _⟩ (Nat.le_of_ble_eq_true rfl) d_T_readEvent_14 rfl (fun v μ2 hq => ?_)
        obtain ⟨rfl, hm⟩ := hq
        rw [hm]
        clear hm
        show AW G (rmD 5) 3 (0, 0, ad, N, fb) 17 [(2, .int 1), (1, .int (nI (wE (sgA μ) 41 p))), (0, .ref 1)] [.ref (SB + 1), .ref 1] μ
        refine AW.iload_n X (pc := 17) 1 rfl rfl d_T_readEvent_17 ?_
        refine AW.callV X (pc := 18) (b := 1) (ci := 2) (nA := 2) [.ref (SB + 1), .int (nI (wE (sgA μ) 41 p))] [] (c_T_isWord (kOf G ad N) 1 p (wE (sgA μ) 41 p) μ hN ht ht4 hp hpe he (by decide)) (gv_V wm_T_52 wi_T_isWord wl_T_isWord wn_T kw_T_isWord) rfl (by decide +kernel) rfl (by omega) rfl rfl ⟨Nat.le_of_ble_eq_true rfl, Nat.le_of_ble_eq_true rfl⟩ ⟨Nat.zero_le _, Nat.zero_le _⟩ (Nat.le_of_ble_eq_true rfl) d_T_readEvent_18 rfl (fun v μ2 hq => ?_)
        obtain ⟨rfl, hm⟩ := hq
        rw [hm]
        clear hm
        show AW G (rmD 5) 3 (0, 0, ad, N, fb) 21 [(2, .int 1), (1, .int (nI (wE (sgA μ) 41 p))), (0, .ref 1)] [.int (bi (wM (sgA μ) p (wE (sgA μ) 41 p) 1))] μ
        refine AW.if_eq X (pc := 21) 36 d_T_readEvent_21 (by decide) (fun c_21 => ?_) (fun c_21 => absurd c_21 (by rw [w_1]; decide))
        refine AW.iinc X (pc := 36) (v := 2) (lv2 := [(2, .int 2), (1, .int (nI (wE (sgA μ) 41 p))), (0, .ref 1)]) 0 rfl (by decide) d_T_readEvent_36 (by decide) rfl ?_
        refine AW.goto X (pc := 39) 7 d_T_readEvent_39 (by decide) ?_
        refine AW.iload_n X (pc := 7) 0 rfl rfl d_T_readEvent_7 ?_
        refine AW.iconst X (pc := 8) (v := 4) (by decide) d_T_readEvent_8 ?_
        refine AW.icmp_ge X (pc := 9) 42 d_T_readEvent_9 (by decide) (fun c_9 => absurd c_9 (by decide)) (fun c_9 => ?_)
        refine AW.aload_n X (pc := 12) 2 rfl rfl d_T_readEvent_12 ?_
        refine AW.iload_n X (pc := 13) 0 rfl rfl d_T_readEvent_13 ?_
        refine AW.callS X (pc := 14) (nA := 1) [.int 2] [.ref 1] (c_T_eventWord_2 (kOf G ad N) μ hN) (gv_S wm_T_48 ws_T_eventWord wn_T kw_T_eventWord) rfl (by decide +kernel) rfl ⟨Nat.le_of_ble_eq_true rfl, Nat.le_of_ble_eq_true rfl⟩ ⟨Nat.zero_le _, Nat.zero_le _⟩ (Nat.le_of_ble_eq_true rfl) d_T_readEvent_14 rfl (fun v μ2 hq => ?_)
        obtain ⟨rfl, hm⟩ := hq
        rw [hm]
        clear hm
        show AW G (rmD 5) 3 (0, 0, ad, N, fb) 17 [(2, .int 2), (1, .int (nI (wE (sgA μ) 41 p))), (0, .ref 1)] [.ref (SB + 2), .ref 1] μ
        refine AW.iload_n X (pc := 17) 1 rfl rfl d_T_readEvent_17 ?_
        refine AW.callV X (pc := 18) (b := 1) (ci := 2) (nA := 2) [.ref (SB + 2), .int (nI (wE (sgA μ) 41 p))] [] (c_T_isWord (kOf G ad N) 2 p (wE (sgA μ) 41 p) μ hN ht ht4 hp hpe he (by decide)) (gv_V wm_T_52 wi_T_isWord wl_T_isWord wn_T kw_T_isWord) rfl (by decide +kernel) rfl (by omega) rfl rfl ⟨Nat.le_of_ble_eq_true rfl, Nat.le_of_ble_eq_true rfl⟩ ⟨Nat.zero_le _, Nat.zero_le _⟩ (Nat.le_of_ble_eq_true rfl) d_T_readEvent_18 rfl (fun v μ2 hq => ?_)
        obtain ⟨rfl, hm⟩ := hq
        rw [hm]
        clear hm
        show AW G (rmD 5) 3 (0, 0, ad, N, fb) 21 [(2, .int 2), (1, .int (nI (wE (sgA μ) 41 p))), (0, .ref 1)] [.int (bi (wM (sgA μ) p (wE (sgA μ) 41 p) 2))] μ
        refine AW.if_eq X (pc := 21) 36 d_T_readEvent_21 (by decide) (fun c_21 => absurd c_21 (by rw [w_2]; decide)) (fun c_21 => ?_)
        refine AW.aload_n X (pc := 24) 2 rfl rfl d_T_readEvent_24 ?_
        refine AW.iload_n X (pc := 25) 0 rfl rfl d_T_readEvent_25 ?_
        refine AW.put X (pc := 26) (k := 1) (ci := 2) (j := 3) (x := 2) (ty := .int) ft_T (by omega) rfl rfl in_T ft_T_ok n_T (by decide) wf_T_35 rfl rfl rfl rfl rfl d_T_readEvent_26 ?_
        refine AW.aload_n X (pc := 29) 2 rfl rfl d_T_readEvent_29 ?_
        refine AW.iload_n X (pc := 30) 1 rfl rfl d_T_readEvent_30 ?_
        refine AW.put X (pc := 31) (k := 1) (ci := 2) (j := 2) (x := nI (wE (sgA μ) 41 p)) (ty := .int) ft_T (by omega) rfl rfl in_T ft_T_ok n_T (by decide) wf_T_19 rfl rfl rfl rfl rfl d_T_readEvent_31 ?_
        refine AW.iconst X (pc := 34) (v := 1) (by decide) d_T_readEvent_34 ?_
        exact hret 35 _ _ _ d_T_readEvent_35 rfl (by rw [show evK (sgA μ) p (wE (sgA μ) 41 p) = 2 by simp [evK, w_0, w_1, w_2]]; exact ⟨rfl, rfl⟩)
      | false =>
        cases w_3 : wM (sgA μ) p (wE (sgA μ) 41 p) 3 with
        | true =>
          refine AW.aload_n X (pc := 0) 0 rfl rfl d_T_readEvent_0 ?_
          refine AW.callV X (pc := 1) (b := 1) (ci := 2) (nA := 0) [] [] (c_T_wordEnd (kOf G ad N) p μ hN ht ht4 hp hpt) (gv_V wm_T_44 wi_T_wordEnd wl_T_wordEnd wn_T kw_T_wordEnd) rfl (by decide +kernel) rfl (by omega) rfl rfl ⟨Nat.le_of_ble_eq_true rfl, Nat.le_of_ble_eq_true rfl⟩ ⟨Nat.zero_le _, Nat.zero_le _⟩ (Nat.le_of_ble_eq_true rfl) d_T_readEvent_1 rfl (fun v μ2 hq => ?_)
          obtain ⟨rfl, hm⟩ := hq
          rw [hm]
          clear hm
          show AW G (rmD 5) 3 (0, 0, ad, N, fb) 4 [(0, .ref 1)] [.int (nI (wE (sgA μ) 41 p))] μ
          refine AW.istore_n X (pc := 4) (lv2 := [(1, .int (nI (wE (sgA μ) 41 p))), (0, .ref 1)]) rfl d_T_readEvent_4 (by decide) rfl ?_
          refine AW.iconst X (pc := 5) (v := 0) (by decide) d_T_readEvent_5 ?_
          refine AW.istore_n X (pc := 6) (lv2 := [(2, .int 0), (1, .int (nI (wE (sgA μ) 41 p))), (0, .ref 1)]) rfl d_T_readEvent_6 (by decide) rfl ?_
          refine AW.iload_n X (pc := 7) 0 rfl rfl d_T_readEvent_7 ?_
          refine AW.iconst X (pc := 8) (v := 4) (by decide) d_T_readEvent_8 ?_
          refine AW.icmp_ge X (pc := 9) 42 d_T_readEvent_9 (by decide) (fun c_9 => absurd c_9 (by decide)) (fun c_9 => ?_)
          refine AW.aload_n X (pc := 12) 2 rfl rfl d_T_readEvent_12 ?_
          refine AW.iload_n X (pc := 13) 0 rfl rfl d_T_readEvent_13 ?_
          refine AW.callS X (pc := 14) (nA := 1) [.int 0] [.ref 1] (c_T_eventWord_0 (kOf G ad N) μ hN) (gv_S wm_T_48 ws_T_eventWord wn_T kw_T_eventWord) rfl (by decide +kernel) rfl ⟨Nat.le_of_ble_eq_true rfl, Nat.le_of_ble_eq_true rfl⟩ ⟨Nat.zero_le _, Nat.zero_le _⟩ (Nat.le_of_ble_eq_true rfl) d_T_readEvent_14 rfl (fun v μ2 hq => ?_)
          obtain ⟨rfl, hm⟩ := hq
          rw [hm]
          clear hm
          show AW G (rmD 5) 3 (0, 0, ad, N, fb) 17 [(2, .int 0), (1, .int (nI (wE (sgA μ) 41 p))), (0, .ref 1)] [.ref (SB + 0), .ref 1] μ
          refine AW.iload_n X (pc := 17) 1 rfl rfl d_T_readEvent_17 ?_
          refine AW.callV X (pc := 18) (b := 1) (ci := 2) (nA := 2) [.ref (SB + 0), .int (nI (wE (sgA μ) 41 p))] [] (c_T_isWord (kOf G ad N) 0 p (wE (sgA μ) 41 p) μ hN ht ht4 hp hpe he (by decide)) (gv_V wm_T_52 wi_T_isWord wl_T_isWord wn_T kw_T_isWord) rfl (by decide +kernel) rfl (by omega) rfl rfl ⟨Nat.le_of_ble_eq_true rfl, Nat.le_of_ble_eq_true rfl⟩ ⟨Nat.zero_le _, Nat.zero_le _⟩ (Nat.le_of_ble_eq_true rfl) d_T_readEvent_18 rfl (fun v μ2 hq => ?_)
          obtain ⟨rfl, hm⟩ := hq
          rw [hm]
          clear hm
          show AW G (rmD 5) 3 (0, 0, ad, N, fb) 21 [(2, .int 0), (1, .int (nI (wE (sgA μ) 41 p))), (0, .ref 1)] [.int (bi (wM (sgA μ) p (wE (sgA μ) 41 p) 0))] μ
          refine AW.if_eq X (pc := 21) 36 d_T_readEvent_21 (by decide) (fun c_21 => ?_) (fun c_21 => absurd c_21 (by rw [w_0]; decide))
          refine AW.iinc X (pc := 36) (v := 1) (lv2 := [(2, .int 1), (1, .int (nI (wE (sgA μ) 41 p))), (0, .ref 1)]) 0 rfl (by decide) d_T_readEvent_36 (by decide) rfl ?_
          refine AW.goto X (pc := 39) 7 d_T_readEvent_39 (by decide) ?_
          refine AW.iload_n X (pc := 7) 0 rfl rfl d_T_readEvent_7 ?_
          refine AW.iconst X (pc := 8) (v := 4) (by decide) d_T_readEvent_8 ?_
          refine AW.icmp_ge X (pc := 9) 42 d_T_readEvent_9 (by decide) (fun c_9 => absurd c_9 (by decide)) (fun c_9 => ?_)
          refine AW.aload_n X (pc := 12) 2 rfl rfl d_T_readEvent_12 ?_
          refine AW.iload_n X (pc := 13) 0 rfl rfl d_T_readEvent_13 ?_
          refine AW.callS X (pc := 14) (nA := 1) [.int 1] [.ref 1] (c_T_eventWord_1 (kOf G ad N) μ hN) (gv_S wm_T_48 ws_T_eventWord wn_T kw_T_eventWord) rfl (by decide +kernel) rfl ⟨Nat.le_of_ble_eq_true rfl, Nat.le_of_ble_eq_true rfl⟩ ⟨Nat.zero_le _, Nat.zero_le _⟩ (Nat.le_of_ble_eq_true rfl) d_T_readEvent_14 rfl (fun v μ2 hq => ?_)
          obtain ⟨rfl, hm⟩ := hq
          rw [hm]
          clear hm
          show AW G (rmD 5) 3 (0, 0, ad, N, fb) 17 [(2, .int 1), (1, .int (nI (wE (sgA μ) 41 p))), (0, .ref 1)] [.ref (SB + 1), .ref 1] μ
          refine AW.iload_n X (pc := 17) 1 rfl rfl d_T_readEvent_17 ?_
          refine AW.callV X (pc := 18) (b := 1) (ci := 2) (nA := 2) [.ref (SB + 1), .int (nI (wE (sgA μ) 41 p))] [] (c_T_isWord (kOf G ad N) 1 p (wE (sgA μ) 41 p) μ hN ht ht4 hp hpe he (by decide)) (gv_V wm_T_52 wi_T_isWord wl_T_isWord wn_T kw_T_isWord) rfl (by decide +kernel) rfl (by omega) rfl rfl ⟨Nat.le_of_ble_eq_true rfl, Nat.le_of_ble_eq_true rfl⟩ ⟨Nat.zero_le _, Nat.zero_le _⟩ (Nat.le_of_ble_eq_true rfl) d_T_readEvent_18 rfl (fun v μ2 hq => ?_)
          obtain ⟨rfl, hm⟩ := hq
          rw [hm]
          clear hm
          show AW G (rmD 5) 3 (0, 0, ad, N, fb) 21 [(2, .int 1), (1, .int (nI (wE (sgA μ) 41 p))), (0, .ref 1)] [.int (bi (wM (sgA μ) p (wE (sgA μ) 41 p) 1))] μ
          refine AW.if_eq X (pc := 21) 36 d_T_readEvent_21 (by decide) (fun c_21 => ?_) (fun c_21 => absurd c_21 (by rw [w_1]; decide))
          refine AW.iinc X (pc := 36) (v := 2) (lv2 := [(2, .int 2), (1, .int (nI (wE (sgA μ) 41 p))), (0, .ref 1)]) 0 rfl (by decide) d_T_readEvent_36 (by decide) rfl ?_
          refine AW.goto X (pc := 39) 7 d_T_readEvent_39 (by decide) ?_
          refine AW.iload_n X (pc := 7) 0 rfl rfl d_T_readEvent_7 ?_
          refine AW.iconst X (pc := 8) (v := 4) (by decide) d_T_readEvent_8 ?_
          refine AW.icmp_ge X (pc := 9) 42 d_T_readEvent_9 (by decide) (fun c_9 => absurd c_9 (by decide)) (fun c_9 => ?_)
          refine AW.aload_n X (pc := 12) 2 rfl rfl d_T_readEvent_12 ?_
          refine AW.iload_n X (pc := 13) 0 rfl rfl d_T_readEvent_13 ?_
          refine AW.callS X (pc := 14) (nA := 1) [.int 2] [.ref 1] (c_T_eventWord_2 (kOf G ad N) μ hN) (gv_S wm_T_48 ws_T_eventWord wn_T kw_T_eventWord) rfl (by decide +kernel) rfl ⟨Nat.le_of_ble_eq_true rfl, Nat.le_of_ble_eq_true rfl⟩ ⟨Nat.zero_le _, Nat.zero_le _⟩ (Nat.le_of_ble_eq_true rfl) d_T_readEvent_14 rfl (fun v μ2 hq => ?_)
          obtain ⟨rfl, hm⟩ := hq
          rw [hm]
          clear hm
          show AW G (rmD 5) 3 (0, 0, ad, N, fb) 17 [(2, .int 2), (1, .int (nI (wE (sgA μ) 41 p))), (0, .ref 1)] [.ref (SB + 2), .ref 1] μ
          refine AW.iload_n X (pc := 17) 1 rfl rfl d_T_readEvent_17 ?_
          refine AW.callV X (pc := 18) (b := 1) (ci := 2) (nA := 2) [.ref (SB + 2), .int (nI (wE (sgA μ) 41 p))] [] (c_T_isWord (kOf G ad N) 2 p (wE (sgA μ) 41 p) μ hN ht ht4 hp hpe he (by decide)) (gv_V wm_T_52 wi_T_isWord wl_T_isWord wn_T kw_T_isWord) rfl (by decide +kernel) rfl (by omega) rfl rfl ⟨Nat.le_of_ble_eq_true rfl, Nat.le_of_ble_eq_true rfl⟩ ⟨Nat.zero_le _, Nat.zero_le _⟩ (Nat.le_of_ble_eq_true rfl) d_T_readEvent_18 rfl (fun v μ2 hq => ?_)
          obtain ⟨rfl, hm⟩ := hq
          rw [hm]
          clear hm
          show AW G (rmD 5) 3 (0, 0, ad, N, fb) 21 [(2, .int 2), (1, .int (nI (wE (sgA μ) 41 p))), (0, .ref 1)] [.int (bi (wM (sgA μ) p (wE (sgA μ) 41 p) 2))] μ
          refine AW.if_eq X (pc := 21) 36 d_T_readEvent_21 (by decide) (fun c_21 => ?_) (fun c_21 => absurd c_21 (by rw [w_2]; decide))
          refine AW.iinc X (pc := 36) (v := 3) (lv2 := [(2, .int 3), (1, .int (nI (wE (sgA μ) 41 p))), (0, .ref 1)]) 0 rfl (by decide) d_T_readEvent_36 (by decide) rfl ?_
          refine AW.goto X (pc := 39) 7 d_T_readEvent_39 (by decide) ?_
          refine AW.iload_n X (pc := 7) 0 rfl rfl d_T_readEvent_7 ?_
          refine AW.iconst X (pc := 8) (v := 4) (by decide) d_T_readEvent_8 ?_
          refine AW.icmp_ge X (pc := 9) 42 d_T_readEvent_9 (by decide) (fun c_9 => absurd c_9 (by decide)) (fun c_9 => ?_)
          refine AW.aload_n X (pc := 12) 2 rfl rfl d_T_readEvent_12 ?_
          refine AW.iload_n X (pc := 13) 0 rfl rfl d_T_readEvent_13 ?_
          refine AW.callS X (pc := 14) (nA := 1) [.int 3] [.ref 1] (c_T_eventWord_3 (kOf G ad N) μ hN) (gv_S wm_T_48 ws_T_eventWord wn_T kw_T_eventWord) rfl (by decide +kernel) rfl ⟨Nat.le_of_ble_eq_true rfl, Nat.le_of_ble_eq_true rfl⟩ ⟨Nat.zero_le _, Nat.zero_le _⟩ (Nat.le_of_ble_eq_true rfl) d_T_readEvent_14 rfl (fun v μ2 hq => ?_)
          obtain ⟨rfl, hm⟩ := hq
          rw [hm]
          clear hm
          show AW G (rmD 5) 3 (0, 0, ad, N, fb) 17 [(2, .int 3), (1, .int (nI (wE (sgA μ) 41 p))), (0, .ref 1)] [.ref (SB + 3), .ref 1] μ
          refine AW.iload_n X (pc := 17) 1 rfl rfl d_T_readEvent_17 ?_
          refine AW.callV X (pc := 18) (b := 1) (ci := 2) (nA := 2) [.ref (SB + 3), .int (nI (wE (sgA μ) 41 p))] [] (c_T_isWord (kOf G ad N) 3 p (wE (sgA μ) 41 p) μ hN ht ht4 hp hpe he (by decide)) (gv_V wm_T_52 wi_T_isWord wl_T_isWord wn_T kw_T_isWord) rfl (by decide +kernel) rfl (by omega) rfl rfl ⟨Nat.le_of_ble_eq_true rfl, Nat.le_of_ble_eq_true rfl⟩ ⟨Nat.zero_le _, Nat.zero_le _⟩ (Nat.le_of_ble_eq_true rfl) d_T_readEvent_18 rfl (fun v μ2 hq => ?_)
          obtain ⟨rfl, hm⟩ := hq
          rw [hm]
          clear hm
          show AW G (rmD 5) 3 (0, 0, ad, N, fb) 21 [(2, .int 3), (1, .int (nI (wE (sgA μ) 41 p))), (0, .ref 1)] [.int (bi (wM (sgA μ) p (wE (sgA μ) 41 p) 3))] μ
          refine AW.if_eq X (pc := 21) 36 d_T_readEvent_21 (by decide) (fun c_21 => absurd c_21 (by rw [w_3]; decide)) (fun c_21 => ?_)
          refine AW.aload_n X (pc := 24) 2 rfl rfl d_T_readEvent_24 ?_
          refine AW.iload_n X (pc := 25) 0 rfl rfl d_T_readEvent_25 ?_
          refine AW.put X (pc := 26) (k := 1) (ci := 2) (j := 3) (x := 3) (ty := .int) ft_T (by omega) rfl rfl in_T ft_T_ok n_T (by decide) wf_T_35 rfl rfl rfl rfl rfl d_T_readEvent_26 ?_
          refine AW.aload_n X (pc := 29) 2 rfl rfl d_T_readEvent_29 ?_
          refine AW.iload_n X (pc := 30) 1 rfl rfl d_T_readEvent_30 ?_
          refine AW.put X (pc := 31) (k := 1) (ci := 2) (j := 2) (x := nI (wE (sgA μ) 41 p)) (ty := .int) ft_T (by omega) rfl rfl in_T ft_T_ok n_T (by decide) wf_T_19 rfl rfl rfl rfl rfl d_T_readEvent_31 ?_
          refine AW.iconst X (pc := 34) (v := 1) (by decide) d_T_readEvent_34 ?_
          exact hret 35 _ _ _ d_T_readEvent_35 rfl (by rw [show evK (sgA μ) p (wE (sgA μ) 41 p) = 3 by simp [evK, w_0, w_1, w_2, w_3]]; exact ⟨rfl, rfl⟩)
        | false =>
          refine AW.aload_n X (pc := 0) 0 rfl rfl d_T_readEvent_0 ?_
          refine AW.callV X (pc := 1) (b := 1) (ci := 2) (nA := 0) [] [] (c_T_wordEnd (kOf G ad N) p μ hN ht ht4 hp hpt) (gv_V wm_T_44 wi_T_wordEnd wl_T_wordEnd wn_T kw_T_wordEnd) rfl (by decide +kernel) rfl (by omega) rfl rfl ⟨Nat.le_of_ble_eq_true rfl, Nat.le_of_ble_eq_true rfl⟩ ⟨Nat.zero_le _, Nat.zero_le _⟩ (Nat.le_of_ble_eq_true rfl) d_T_readEvent_1 rfl (fun v μ2 hq => ?_)
          obtain ⟨rfl, hm⟩ := hq
          rw [hm]
          clear hm
          show AW G (rmD 5) 3 (0, 0, ad, N, fb) 4 [(0, .ref 1)] [.int (nI (wE (sgA μ) 41 p))] μ
          refine AW.istore_n X (pc := 4) (lv2 := [(1, .int (nI (wE (sgA μ) 41 p))), (0, .ref 1)]) rfl d_T_readEvent_4 (by decide) rfl ?_
          refine AW.iconst X (pc := 5) (v := 0) (by decide) d_T_readEvent_5 ?_
          refine AW.istore_n X (pc := 6) (lv2 := [(2, .int 0), (1, .int (nI (wE (sgA μ) 41 p))), (0, .ref 1)]) rfl d_T_readEvent_6 (by decide) rfl ?_
          refine AW.iload_n X (pc := 7) 0 rfl rfl d_T_readEvent_7 ?_
          refine AW.iconst X (pc := 8) (v := 4) (by decide) d_T_readEvent_8 ?_
          refine AW.icmp_ge X (pc := 9) 42 d_T_readEvent_9 (by decide) (fun c_9 => absurd c_9 (by decide)) (fun c_9 => ?_)
          refine AW.aload_n X (pc := 12) 2 rfl rfl d_T_readEvent_12 ?_
          refine AW.iload_n X (pc := 13) 0 rfl rfl d_T_readEvent_13 ?_
          refine AW.callS X (pc := 14) (nA := 1) [.int 0] [.ref 1] (c_T_eventWord_0 (kOf G ad N) μ hN) (gv_S wm_T_48 ws_T_eventWord wn_T kw_T_eventWord) rfl (by decide +kernel) rfl ⟨Nat.le_of_ble_eq_true rfl, Nat.le_of_ble_eq_true rfl⟩ ⟨Nat.zero_le _, Nat.zero_le _⟩ (Nat.le_of_ble_eq_true rfl) d_T_readEvent_14 rfl (fun v μ2 hq => ?_)
          obtain ⟨rfl, hm⟩ := hq
          rw [hm]
          clear hm
          show AW G (rmD 5) 3 (0, 0, ad, N, fb) 17 [(2, .int 0), (1, .int (nI (wE (sgA μ) 41 p))), (0, .ref 1)] [.ref (SB + 0), .ref 1] μ
          refine AW.iload_n X (pc := 17) 1 rfl rfl d_T_readEvent_17 ?_
          refine AW.callV X (pc := 18) (b := 1) (ci := 2) (nA := 2) [.ref (SB + 0), .int (nI (wE (sgA μ) 41 p))] [] (c_T_isWord (kOf G ad N) 0 p (wE (sgA μ) 41 p) μ hN ht ht4 hp hpe he (by decide)) (gv_V wm_T_52 wi_T_isWord wl_T_isWord wn_T kw_T_isWord) rfl (by decide +kernel) rfl (by omega) rfl rfl ⟨Nat.le_of_ble_eq_true rfl, Nat.le_of_ble_eq_true rfl⟩ ⟨Nat.zero_le _, Nat.zero_le _⟩ (Nat.le_of_ble_eq_true rfl) d_T_readEvent_18 rfl (fun v μ2 hq => ?_)
          obtain ⟨rfl, hm⟩ := hq
          rw [hm]
          clear hm
          show AW G (rmD 5) 3 (0, 0, ad, N, fb) 21 [(2, .int 0), (1, .int (nI (wE (sgA μ) 41 p))), (0, .ref 1)] [.int (bi (wM (sgA μ) p (wE (sgA μ) 41 p) 0))] μ
          refine AW.if_eq X (pc := 21) 36 d_T_readEvent_21 (by decide) (fun c_21 => ?_) (fun c_21 => absurd c_21 (by rw [w_0]; decide))
          refine AW.iinc X (pc := 36) (v := 1) (lv2 := [(2, .int 1), (1, .int (nI (wE (sgA μ) 41 p))), (0, .ref 1)]) 0 rfl (by decide) d_T_readEvent_36 (by decide) rfl ?_
          refine AW.goto X (pc := 39) 7 d_T_readEvent_39 (by decide) ?_
          refine AW.iload_n X (pc := 7) 0 rfl rfl d_T_readEvent_7 ?_
          refine AW.iconst X (pc := 8) (v := 4) (by decide) d_T_readEvent_8 ?_
          refine AW.icmp_ge X (pc := 9) 42 d_T_readEvent_9 (by decide) (fun c_9 => absurd c_9 (by decide)) (fun c_9 => ?_)
          refine AW.aload_n X (pc := 12) 2 rfl rfl d_T_readEvent_12 ?_
          refine AW.iload_n X (pc := 13) 0 rfl rfl d_T_readEvent_13 ?_
          refine AW.callS X (pc := 14) (nA := 1) [.int 1] [.ref 1] (c_T_eventWord_1 (kOf G ad N) μ hN) (gv_S wm_T_48 ws_T_eventWord wn_T kw_T_eventWord) rfl (by decide +kernel) rfl ⟨Nat.le_of_ble_eq_true rfl, Nat.le_of_ble_eq_true rfl⟩ ⟨Nat.zero_le _, Nat.zero_le _⟩ (Nat.le_of_ble_eq_true rfl) d_T_readEvent_14 rfl (fun v μ2 hq => ?_)
          obtain ⟨rfl, hm⟩ := hq
          rw [hm]
          clear hm
          show AW G (rmD 5) 3 (0, 0, ad, N, fb) 17 [(2, .int 1), (1, .int (nI (wE (sgA μ) 41 p))), (0, .ref 1)] [.ref (SB + 1), .ref 1] μ
          refine AW.iload_n X (pc := 17) 1 rfl rfl d_T_readEvent_17 ?_
          refine AW.callV X (pc := 18) (b := 1) (ci := 2) (nA := 2) [.ref (SB + 1), .int (nI (wE (sgA μ) 41 p))] [] (c_T_isWord (kOf G ad N) 1 p (wE (sgA μ) 41 p) μ hN ht ht4 hp hpe he (by decide)) (gv_V wm_T_52 wi_T_isWord wl_T_isWord wn_T kw_T_isWord) rfl (by decide +kernel) rfl (by omega) rfl rfl ⟨Nat.le_of_ble_eq_true rfl, Nat.le_of_ble_eq_true rfl⟩ ⟨Nat.zero_le _, Nat.zero_le _⟩ (Nat.le_of_ble_eq_true rfl) d_T_readEvent_18 rfl (fun v μ2 hq => ?_)
          obtain ⟨rfl, hm⟩ := hq
          rw [hm]
          clear hm
          show AW G (rmD 5) 3 (0, 0, ad, N, fb) 21 [(2, .int 1), (1, .int (nI (wE (sgA μ) 41 p))), (0, .ref 1)] [.int (bi (wM (sgA μ) p (wE (sgA μ) 41 p) 1))] μ
          refine AW.if_eq X (pc := 21) 36 d_T_readEvent_21 (by decide) (fun c_21 => ?_) (fun c_21 => absurd c_21 (by rw [w_1]; decide))
          refine AW.iinc X (pc := 36) (v := 2) (lv2 := [(2, .int 2), (1, .int (nI (wE (sgA μ) 41 p))), (0, .ref 1)]) 0 rfl (by decide) d_T_readEvent_36 (by decide) rfl ?_
          refine AW.goto X (pc := 39) 7 d_T_readEvent_39 (by decide) ?_
          refine AW.iload_n X (pc := 7) 0 rfl rfl d_T_readEvent_7 ?_
          refine AW.iconst X (pc := 8) (v := 4) (by decide) d_T_readEvent_8 ?_
          refine AW.icmp_ge X (pc := 9) 42 d_T_readEvent_9 (by decide) (fun c_9 => absurd c_9 (by decide)) (fun c_9 => ?_)
          refine AW.aload_n X (pc := 12) 2 rfl rfl d_T_readEvent_12 ?_
          refine AW.iload_n X (pc := 13) 0 rfl rfl d_T_readEvent_13 ?_
          refine AW.callS X (pc := 14) (nA := 1) [.int 2] [.ref 1] (c_T_eventWord_2 (kOf G ad N) μ hN) (gv_S wm_T_48 ws_T_eventWord wn_T kw_T_eventWord) rfl (by decide +kernel) rfl ⟨Nat.le_of_ble_eq_true rfl, Nat.le_of_ble_eq_true rfl⟩ ⟨Nat.zero_le _, Nat.zero_le _⟩ (Nat.le_of_ble_eq_true rfl) d_T_readEvent_14 rfl (fun v μ2 hq => ?_)
          obtain ⟨rfl, hm⟩ := hq
          rw [hm]
          clear hm
          show AW G (rmD 5) 3 (0, 0, ad, N, fb) 17 [(2, .int 2), (1, .int (nI (wE (sgA μ) 41 p))), (0, .ref 1)] [.ref (SB + 2), .ref 1] μ
          refine AW.iload_n X (pc := 17) 1 rfl rfl d_T_readEvent_17 ?_
          refine AW.callV X (pc := 18) (b := 1) (ci := 2) (nA := 2) [.ref (SB + 2), .int (nI (wE (sgA μ) 41 p))] [] (c_T_isWord (kOf G ad N) 2 p (wE (sgA μ) 41 p) μ hN ht ht4 hp hpe he (by decide)) (gv_V wm_T_52 wi_T_isWord wl_T_isWord wn_T kw_T_isWord) rfl (by decide +kernel) rfl (by omega) rfl rfl ⟨Nat.le_of_ble_eq_true rfl, Nat.le_of_ble_eq_true rfl⟩ ⟨Nat.zero_le _, Nat.zero_le _⟩ (Nat.le_of_ble_eq_true rfl) d_T_readEvent_18 rfl (fun v μ2 hq => ?_)
          obtain ⟨rfl, hm⟩ := hq
          rw [hm]
          clear hm
          show AW G (rmD 5) 3 (0, 0, ad, N, fb) 21 [(2, .int 2), (1, .int (nI (wE (sgA μ) 41 p))), (0, .ref 1)] [.int (bi (wM (sgA μ) p (wE (sgA μ) 41 p) 2))] μ
          refine AW.if_eq X (pc := 21) 36 d_T_readEvent_21 (by decide) (fun c_21 => ?_) (fun c_21 => absurd c_21 (by rw [w_2]; decide))
          refine AW.iinc X (pc := 36) (v := 3) (lv2 := [(2, .int 3), (1, .int (nI (wE (sgA μ) 41 p))), (0, .ref 1)]) 0 rfl (by decide) d_T_readEvent_36 (by decide) rfl ?_
          refine AW.goto X (pc := 39) 7 d_T_readEvent_39 (by decide) ?_
          refine AW.iload_n X (pc := 7) 0 rfl rfl d_T_readEvent_7 ?_
          refine AW.iconst X (pc := 8) (v := 4) (by decide) d_T_readEvent_8 ?_
          refine AW.icmp_ge X (pc := 9) 42 d_T_readEvent_9 (by decide) (fun c_9 => absurd c_9 (by decide)) (fun c_9 => ?_)
          refine AW.aload_n X (pc := 12) 2 rfl rfl d_T_readEvent_12 ?_
          refine AW.iload_n X (pc := 13) 0 rfl rfl d_T_readEvent_13 ?_
          refine AW.callS X (pc := 14) (nA := 1) [.int 3] [.ref 1] (c_T_eventWord_3 (kOf G ad N) μ hN) (gv_S wm_T_48 ws_T_eventWord wn_T kw_T_eventWord) rfl (by decide +kernel) rfl ⟨Nat.le_of_ble_eq_true rfl, Nat.le_of_ble_eq_true rfl⟩ ⟨Nat.zero_le _, Nat.zero_le _⟩ (Nat.le_of_ble_eq_true rfl) d_T_readEvent_14 rfl (fun v μ2 hq => ?_)
          obtain ⟨rfl, hm⟩ := hq
          rw [hm]
          clear hm
          show AW G (rmD 5) 3 (0, 0, ad, N, fb) 17 [(2, .int 3), (1, .int (nI (wE (sgA μ) 41 p))), (0, .ref 1)] [.ref (SB + 3), .ref 1] μ
          refine AW.iload_n X (pc := 17) 1 rfl rfl d_T_readEvent_17 ?_
          refine AW.callV X (pc := 18) (b := 1) (ci := 2) (nA := 2) [.ref (SB + 3), .int (nI (wE (sgA μ) 41 p))] [] (c_T_isWord (kOf G ad N) 3 p (wE (sgA μ) 41 p) μ hN ht ht4 hp hpe he (by decide)) (gv_V wm_T_52 wi_T_isWord wl_T_isWord wn_T kw_T_isWord) rfl (by decide +kernel) rfl (by omega) rfl rfl ⟨Nat.le_of_ble_eq_true rfl, Nat.le_of_ble_eq_true rfl⟩ ⟨Nat.zero_le _, Nat.zero_le _⟩ (Nat.le_of_ble_eq_true rfl) d_T_readEvent_18 rfl (fun v μ2 hq => ?_)
          obtain ⟨rfl, hm⟩ := hq
          rw [hm]
          clear hm
          show AW G (rmD 5) 3 (0, 0, ad, N, fb) 21 [(2, .int 3), (1, .int (nI (wE (sgA μ) 41 p))), (0, .ref 1)] [.int (bi (wM (sgA μ) p (wE (sgA μ) 41 p) 3))] μ
          refine AW.if_eq X (pc := 21) 36 d_T_readEvent_21 (by decide) (fun c_21 => ?_) (fun c_21 => absurd c_21 (by rw [w_3]; decide))
          refine AW.iinc X (pc := 36) (v := 4) (lv2 := [(2, .int 4), (1, .int (nI (wE (sgA μ) 41 p))), (0, .ref 1)]) 0 rfl (by decide) d_T_readEvent_36 (by decide) rfl ?_
          refine AW.goto X (pc := 39) 7 d_T_readEvent_39 (by decide) ?_
          refine AW.iload_n X (pc := 7) 0 rfl rfl d_T_readEvent_7 ?_
          refine AW.iconst X (pc := 8) (v := 4) (by decide) d_T_readEvent_8 ?_
          refine AW.icmp_ge X (pc := 9) 42 d_T_readEvent_9 (by decide) (fun c_9 => ?_) (fun c_9 => absurd c_9 (by decide))
          refine AW.iconst X (pc := 42) (v := 0) (by decide) d_T_readEvent_42 ?_
          exact hret 43 _ _ _ d_T_readEvent_43 rfl (by rw [show evK (sgA μ) p (wE (sgA μ) 41 p) = 4 by simp [evK, w_0, w_1, w_2, w_3]]; exact ⟨rfl, rfl⟩)
set_option maxHeartbeats 4000000 in
set_option maxRecDepth 100000 in
theorem c_T_readAction (K : KTy) (p : Nat) (μ : Mu) (hN : 272 ≤ KN K) (ht : μ 1 1 = nI (tlN μ)) (ht4 : tlN μ ≤ 40) (hp : μ 1 2 = nI p) (hpt : p ≤ tlN μ) : CT K y_T_readAction (k_T_readAction :: GT) 5 [.ref 1] μ (fun v μ2 => if acK (sgA μ) p (wE (sgA μ) 41 p) = 2 then v = some (.int 0) ∧ μ2 = μ else v = some (.int 1) ∧ μ2 = m_up (m_up μ 1 5 (nI (acK (sgA μ) p (wE (sgA μ) 41 p)))) 1 2 (nI (wE (sgA μ) 41 p))) := by
  refine CT.bool (cc := b_T_readAction) (maxL := 2) (by decide) rfl rfl (Nat.le_of_ble_eq_true rfl) ?_
  intro G ad N hK X hret
  subst hK
  have hN : 272 ≤ N := hN
  have hpe := wE_ge (sgA μ) 41 p
  have hwt := wE_tl μ 41 p hpt
  have he : wE (sgA μ) 41 p ≤ 40 := by omega
  show AW G (rmD 5) 2 (0, 0, ad, N, fb) 0 [(0, .ref 1)] [] μ
  cases w_0 : wM (sgA μ) p (wE (sgA μ) 41 p) 4 with
  | true =>
    refine AW.aload_n X (pc := 0) 0 rfl rfl d_T_readAction_0 ?_
    refine AW.callV X (pc := 1) (b := 1) (ci := 2) (nA := 0) [] [] (c_T_wordEnd (kOf G ad N) p μ hN ht ht4 hp hpt) (gv_V wm_T_44 wi_T_wordEnd wl_T_wordEnd wn_T kw_T_wordEnd) rfl (by decide +kernel) rfl (by omega) rfl rfl ⟨Nat.le_of_ble_eq_true rfl, Nat.le_of_ble_eq_true rfl⟩ ⟨Nat.zero_le _, Nat.zero_le _⟩ (Nat.le_of_ble_eq_true rfl) d_T_readAction_1 rfl (fun v μ2 hq => ?_)
    obtain ⟨rfl, hm⟩ := hq
    rw [hm]
    clear hm
    show AW G (rmD 5) 2 (0, 0, ad, N, fb) 4 [(0, .ref 1)] [.int (nI (wE (sgA μ) 41 p))] μ
    refine AW.istore_n X (pc := 4) (lv2 := [(1, .int (nI (wE (sgA μ) 41 p))), (0, .ref 1)]) rfl d_T_readAction_4 (by decide) rfl ?_
    refine AW.aload_n X (pc := 5) 1 rfl rfl d_T_readAction_5 ?_
    refine AW.ldcS X (pc := 6) (i := 4) X.gS.2.1.2.2.2.2.1 d_T_readAction_6 ?_
    refine AW.iload_n X (pc := 8) 0 rfl rfl d_T_readAction_8 ?_
    refine AW.callV X (pc := 9) (b := 1) (ci := 2) (nA := 2) [.ref (SB + 4), .int (nI (wE (sgA μ) 41 p))] [] (c_T_isWord (kOf G ad N) 4 p (wE (sgA μ) 41 p) μ hN ht ht4 hp hpe he (by decide)) (gv_V wm_T_52 wi_T_isWord wl_T_isWord wn_T kw_T_isWord) rfl (by decide +kernel) rfl (by omega) rfl rfl ⟨Nat.le_of_ble_eq_true rfl, Nat.le_of_ble_eq_true rfl⟩ ⟨Nat.zero_le _, Nat.zero_le _⟩ (Nat.le_of_ble_eq_true rfl) d_T_readAction_9 rfl (fun v μ2 hq => ?_)
    obtain ⟨rfl, hm⟩ := hq
    rw [hm]
    clear hm
    show AW G (rmD 5) 2 (0, 0, ad, N, fb) 12 [(1, .int (nI (wE (sgA μ) 41 p))), (0, .ref 1)] [.int (bi (wM (sgA μ) p (wE (sgA μ) 41 p) 4))] μ
    refine AW.if_eq X (pc := 12) 23 d_T_readAction_12 (by decide) (fun c_12 => absurd c_12 (by rw [w_0]; decide)) (fun c_12 => ?_)
    refine AW.aload_n X (pc := 15) 1 rfl rfl d_T_readAction_15 ?_
    refine AW.iconst X (pc := 16) (v := 0) (by decide) d_T_readAction_16 ?_
    refine AW.put X (pc := 17) (k := 1) (ci := 2) (j := 5) (x := 0) (ty := .int) ft_T (by omega) rfl rfl in_T ft_T_ok n_T (by decide) wf_T_41 rfl rfl rfl rfl rfl d_T_readAction_17 ?_
    refine AW.goto X (pc := 20) 43 d_T_readAction_20 (by decide) ?_
    refine AW.aload_n X (pc := 43) 1 rfl rfl d_T_readAction_43 ?_
    refine AW.iload_n X (pc := 44) 0 rfl rfl d_T_readAction_44 ?_
    refine AW.put X (pc := 45) (k := 1) (ci := 2) (j := 2) (x := nI (wE (sgA μ) 41 p)) (ty := .int) ft_T (by omega) rfl rfl in_T ft_T_ok n_T (by decide) wf_T_19 rfl rfl rfl rfl rfl d_T_readAction_45 ?_
    refine AW.iconst X (pc := 48) (v := 1) (by decide) d_T_readAction_48 ?_
    exact hret 49 _ _ _ d_T_readAction_49 rfl (by rw [show acK (sgA μ) p (wE (sgA μ) 41 p) = 0 by simp [acK, w_0]]; exact ⟨rfl, rfl⟩)
  | false =>
    cases w_1 : wM (sgA μ) p (wE (sgA μ) 41 p) 5 with
    | true =>
      refine AW.aload_n X (pc := 0) 0 rfl rfl d_T_readAction_0 ?_
      refine AW.callV X (pc := 1) (b := 1) (ci := 2) (nA := 0) [] [] (c_T_wordEnd (kOf G ad N) p μ hN ht ht4 hp hpt) (gv_V wm_T_44 wi_T_wordEnd wl_T_wordEnd wn_T kw_T_wordEnd) rfl (by decide +kernel) rfl (by omega) rfl rfl ⟨Nat.le_of_ble_eq_true rfl, Nat.le_of_ble_eq_true rfl⟩ ⟨Nat.zero_le _, Nat.zero_le _⟩ (Nat.le_of_ble_eq_true rfl) d_T_readAction_1 rfl (fun v μ2 hq => ?_)
      obtain ⟨rfl, hm⟩ := hq
      rw [hm]
      clear hm
      show AW G (rmD 5) 2 (0, 0, ad, N, fb) 4 [(0, .ref 1)] [.int (nI (wE (sgA μ) 41 p))] μ
      refine AW.istore_n X (pc := 4) (lv2 := [(1, .int (nI (wE (sgA μ) 41 p))), (0, .ref 1)]) rfl d_T_readAction_4 (by decide) rfl ?_
      refine AW.aload_n X (pc := 5) 1 rfl rfl d_T_readAction_5 ?_
      refine AW.ldcS X (pc := 6) (i := 4) X.gS.2.1.2.2.2.2.1 d_T_readAction_6 ?_
      refine AW.iload_n X (pc := 8) 0 rfl rfl d_T_readAction_8 ?_
      refine AW.callV X (pc := 9) (b := 1) (ci := 2) (nA := 2) [.ref (SB + 4), .int (nI (wE (sgA μ) 41 p))] [] (c_T_isWord (kOf G ad N) 4 p (wE (sgA μ) 41 p) μ hN ht ht4 hp hpe he (by decide)) (gv_V wm_T_52 wi_T_isWord wl_T_isWord wn_T kw_T_isWord) rfl (by decide +kernel) rfl (by omega) rfl rfl ⟨Nat.le_of_ble_eq_true rfl, Nat.le_of_ble_eq_true rfl⟩ ⟨Nat.zero_le _, Nat.zero_le _⟩ (Nat.le_of_ble_eq_true rfl) d_T_readAction_9 rfl (fun v μ2 hq => ?_)
      obtain ⟨rfl, hm⟩ := hq
      rw [hm]
      clear hm
      show AW G (rmD 5) 2 (0, 0, ad, N, fb) 12 [(1, .int (nI (wE (sgA μ) 41 p))), (0, .ref 1)] [.int (bi (wM (sgA μ) p (wE (sgA μ) 41 p) 4))] μ
      refine AW.if_eq X (pc := 12) 23 d_T_readAction_12 (by decide) (fun c_12 => ?_) (fun c_12 => absurd c_12 (by rw [w_0]; decide))
      refine AW.aload_n X (pc := 23) 1 rfl rfl d_T_readAction_23 ?_
      refine AW.ldcS X (pc := 24) (i := 5) X.gS.2.1.2.2.2.2.2 d_T_readAction_24 ?_
      refine AW.iload_n X (pc := 26) 0 rfl rfl d_T_readAction_26 ?_
      refine AW.callV X (pc := 27) (b := 1) (ci := 2) (nA := 2) [.ref (SB + 5), .int (nI (wE (sgA μ) 41 p))] [] (c_T_isWord (kOf G ad N) 5 p (wE (sgA μ) 41 p) μ hN ht ht4 hp hpe he (by decide)) (gv_V wm_T_52 wi_T_isWord wl_T_isWord wn_T kw_T_isWord) rfl (by decide +kernel) rfl (by omega) rfl rfl ⟨Nat.le_of_ble_eq_true rfl, Nat.le_of_ble_eq_true rfl⟩ ⟨Nat.zero_le _, Nat.zero_le _⟩ (Nat.le_of_ble_eq_true rfl) d_T_readAction_27 rfl (fun v μ2 hq => ?_)
      obtain ⟨rfl, hm⟩ := hq
      rw [hm]
      clear hm
      show AW G (rmD 5) 2 (0, 0, ad, N, fb) 30 [(1, .int (nI (wE (sgA μ) 41 p))), (0, .ref 1)] [.int (bi (wM (sgA μ) p (wE (sgA μ) 41 p) 5))] μ
      refine AW.if_eq X (pc := 30) 41 d_T_readAction_30 (by decide) (fun c_30 => absurd c_30 (by rw [w_1]; decide)) (fun c_30 => ?_)
      refine AW.aload_n X (pc := 33) 1 rfl rfl d_T_readAction_33 ?_
      refine AW.iconst X (pc := 34) (v := 1) (by decide) d_T_readAction_34 ?_
      refine AW.put X (pc := 35) (k := 1) (ci := 2) (j := 5) (x := 1) (ty := .int) ft_T (by omega) rfl rfl in_T ft_T_ok n_T (by decide) wf_T_41 rfl rfl rfl rfl rfl d_T_readAction_35 ?_
      refine AW.goto X (pc := 38) 43 d_T_readAction_38 (by decide) ?_
      refine AW.aload_n X (pc := 43) 1 rfl rfl d_T_readAction_43 ?_
      refine AW.iload_n X (pc := 44) 0 rfl rfl d_T_readAction_44 ?_
      refine AW.put X (pc := 45) (k := 1) (ci := 2) (j := 2) (x := nI (wE (sgA μ) 41 p)) (ty := .int) ft_T (by omega) rfl rfl in_T ft_T_ok n_T (by decide) wf_T_19 rfl rfl rfl rfl rfl d_T_readAction_45 ?_
      refine AW.iconst X (pc := 48) (v := 1) (by decide) d_T_readAction_48 ?_
      exact hret 49 _ _ _ d_T_readAction_49 rfl (by rw [show acK (sgA μ) p (wE (sgA μ) 41 p) = 1 by simp [acK, w_0, w_1]]; exact ⟨rfl, rfl⟩)
    | false =>
      refine AW.aload_n X (pc := 0) 0 rfl rfl d_T_readAction_0 ?_
      refine AW.callV X (pc := 1) (b := 1) (ci := 2) (nA := 0) [] [] (c_T_wordEnd (kOf G ad N) p μ hN ht ht4 hp hpt) (gv_V wm_T_44 wi_T_wordEnd wl_T_wordEnd wn_T kw_T_wordEnd) rfl (by decide +kernel) rfl (by omega) rfl rfl ⟨Nat.le_of_ble_eq_true rfl, Nat.le_of_ble_eq_true rfl⟩ ⟨Nat.zero_le _, Nat.zero_le _⟩ (Nat.le_of_ble_eq_true rfl) d_T_readAction_1 rfl (fun v μ2 hq => ?_)
      obtain ⟨rfl, hm⟩ := hq
      rw [hm]
      clear hm
      show AW G (rmD 5) 2 (0, 0, ad, N, fb) 4 [(0, .ref 1)] [.int (nI (wE (sgA μ) 41 p))] μ
      refine AW.istore_n X (pc := 4) (lv2 := [(1, .int (nI (wE (sgA μ) 41 p))), (0, .ref 1)]) rfl d_T_readAction_4 (by decide) rfl ?_
      refine AW.aload_n X (pc := 5) 1 rfl rfl d_T_readAction_5 ?_
      refine AW.ldcS X (pc := 6) (i := 4) X.gS.2.1.2.2.2.2.1 d_T_readAction_6 ?_
      refine AW.iload_n X (pc := 8) 0 rfl rfl d_T_readAction_8 ?_
      refine AW.callV X (pc := 9) (b := 1) (ci := 2) (nA := 2) [.ref (SB + 4), .int (nI (wE (sgA μ) 41 p))] [] (c_T_isWord (kOf G ad N) 4 p (wE (sgA μ) 41 p) μ hN ht ht4 hp hpe he (by decide)) (gv_V wm_T_52 wi_T_isWord wl_T_isWord wn_T kw_T_isWord) rfl (by decide +kernel) rfl (by omega) rfl rfl ⟨Nat.le_of_ble_eq_true rfl, Nat.le_of_ble_eq_true rfl⟩ ⟨Nat.zero_le _, Nat.zero_le _⟩ (Nat.le_of_ble_eq_true rfl) d_T_readAction_9 rfl (fun v μ2 hq => ?_)
      obtain ⟨rfl, hm⟩ := hq
      rw [hm]
      clear hm
      show AW G (rmD 5) 2 (0, 0, ad, N, fb) 12 [(1, .int (nI (wE (sgA μ) 41 p))), (0, .ref 1)] [.int (bi (wM (sgA μ) p (wE (sgA μ) 41 p) 4))] μ
      refine AW.if_eq X (pc := 12) 23 d_T_readAction_12 (by decide) (fun c_12 => ?_) (fun c_12 => absurd c_12 (by rw [w_0]; decide))
      refine AW.aload_n X (pc := 23) 1 rfl rfl d_T_readAction_23 ?_
      refine AW.ldcS X (pc := 24) (i := 5) X.gS.2.1.2.2.2.2.2 d_T_readAction_24 ?_
      refine AW.iload_n X (pc := 26) 0 rfl rfl d_T_readAction_26 ?_
      refine AW.callV X (pc := 27) (b := 1) (ci := 2) (nA := 2) [.ref (SB + 5), .int (nI (wE (sgA μ) 41 p))] [] (c_T_isWord (kOf G ad N) 5 p (wE (sgA μ) 41 p) μ hN ht ht4 hp hpe he (by decide)) (gv_V wm_T_52 wi_T_isWord wl_T_isWord wn_T kw_T_isWord) rfl (by decide +kernel) rfl (by omega) rfl rfl ⟨Nat.le_of_ble_eq_true rfl, Nat.le_of_ble_eq_true rfl⟩ ⟨Nat.zero_le _, Nat.zero_le _⟩ (Nat.le_of_ble_eq_true rfl) d_T_readAction_27 rfl (fun v μ2 hq => ?_)
      obtain ⟨rfl, hm⟩ := hq
      rw [hm]
      clear hm
      show AW G (rmD 5) 2 (0, 0, ad, N, fb) 30 [(1, .int (nI (wE (sgA μ) 41 p))), (0, .ref 1)] [.int (bi (wM (sgA μ) p (wE (sgA μ) 41 p) 5))] μ
      refine AW.if_eq X (pc := 30) 41 d_T_readAction_30 (by decide) (fun c_30 => ?_) (fun c_30 => absurd c_30 (by rw [w_1]; decide))
      refine AW.iconst X (pc := 41) (v := 0) (by decide) d_T_readAction_41 ?_
      exact hret 42 _ _ _ d_T_readAction_42 rfl (by rw [show acK (sgA μ) p (wE (sgA μ) 41 p) = 2 by simp [acK, w_0, w_1]]; exact ⟨rfl, rfl⟩)
set_option maxHeartbeats 4000000 in
set_option maxRecDepth 100000 in
theorem c_T_readSpace (K : KTy) (p : Nat) (μ : Mu) (hN : 272 ≤ KN K) (ht : μ 1 1 = nI (tlN μ)) (ht4 : tlN μ ≤ 40) (hp : μ 1 2 = nI p) (hpt : p ≤ tlN μ) : CT K y_T_readSpace (k_T_readSpace :: GT) 1 [.ref 1] μ (fun v μ2 => if sgA μ p = 32 then v = some (.int 1) ∧ μ2 = m_up μ 1 2 (nI (p + 1)) else v = some (.int 0) ∧ μ2 = μ) := by
  refine CT.bool (cc := b_T_readSpace) (maxL := 1) (by decide) rfl rfl (Nat.le_of_ble_eq_true rfl) ?_
  intro G ad N hK X hret
  subst hK
  have hN : 272 ≤ N := hN
  show AW G (rmD 1) 1 (0, 0, ad, N, fb) 0 [(0, .ref 1)] [] μ
  refine AW.aload_n X (pc := 0) 0 rfl rfl d_T_readSpace_0 ?_
  refine AW.aload_n X (pc := 1) 0 rfl rfl d_T_readSpace_1 ?_
  refine AW.get X (pc := 2) (k := 1) (ci := 2) (j := 2) (v := .int (μ 1 2)) (by omega) rfl rfl in_T (by decide) wf_T_19 rfl rfl d_T_readSpace_2 ?_
  refine AW.val (w := .int (nI p)) (congrArg Value.int (hp)) ?_
  refine AW.callV X (pc := 5) (b := 1) (ci := 2) (nA := 1) [.int (nI p)] [] (c_T_signAt (kOf G ad N) p μ hN ht ht4 (by omega)) (gv_V wm_T_60 wi_T_signAt wl_T_signAt wn_T kw_T_signAt) rfl (by decide +kernel) rfl (by omega) rfl rfl ⟨Nat.le_of_ble_eq_true rfl, Nat.le_of_ble_eq_true rfl⟩ ⟨Nat.zero_le _, Nat.zero_le _⟩ (Nat.le_of_ble_eq_true rfl) d_T_readSpace_5 rfl (fun v μ2 hq => ?_)
  obtain ⟨rfl, hm⟩ := hq
  rw [hm]
  clear hm
  show AW G (rmD 1) 1 (0, 0, ad, N, fb) 8 [(0, .ref 1)] [.int (sgA μ p)] μ
  refine AW.bipush X (pc := 8) (v := 32) (by decide) d_T_readSpace_8 ?_
  refine AW.icmp_eq X (pc := 10) 15 d_T_readSpace_10 (by decide) (fun c_10 => ?_) (fun c_10 => ?_)
  · refine AW.aload_n X (pc := 15) 0 rfl rfl d_T_readSpace_15 ?_
    refine AW.dup X (pc := 16) rfl d_T_readSpace_16 ?_
    refine AW.get X (pc := 17) (k := 1) (ci := 2) (j := 2) (v := .int (μ 1 2)) (by omega) rfl rfl in_T (by decide) wf_T_19 rfl rfl d_T_readSpace_17 ?_
    refine AW.val (w := .int (nI p)) (congrArg Value.int (hp)) ?_
    refine AW.iconst X (pc := 20) (v := 1) (by decide) d_T_readSpace_20 ?_
    refine AW.iadd X (pc := 21) d_T_readSpace_21 ?_
    refine AW.val (w := .int (nI (p + 1))) (congrArg Value.int (nI_add p 1)) ?_
    refine AW.put X (pc := 22) (k := 1) (ci := 2) (j := 2) (x := nI (p + 1)) (ty := .int) ft_T (by omega) rfl rfl in_T ft_T_ok n_T (by decide) wf_T_19 rfl rfl rfl rfl rfl d_T_readSpace_22 ?_
    refine AW.iconst X (pc := 25) (v := 1) (by decide) d_T_readSpace_25 ?_
    exact hret 26 _ _ _ d_T_readSpace_26 rfl (by rw [if_pos c_10]; exact ⟨rfl, rfl⟩)
  · refine AW.iconst X (pc := 13) (v := 0) (by decide) d_T_readSpace_13 ?_
    exact hret 14 _ _ _ d_T_readSpace_14 rfl (by rw [if_neg c_10]; exact ⟨rfl, rfl⟩)
