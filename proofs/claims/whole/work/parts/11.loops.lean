set_option maxHeartbeats 4000000 in
set_option maxRecDepth 100000 in
theorem c_R_yearsOn (K : KTy) (r nr : Nat) (on : Int32) (μ : Mu) (hN : 272 ≤ KN K) (hr : r < nr) (hI : CI μ nr) (hKN : KN K = 272 + 3 * nr) : CT K y_R_yearsOn (k_R_yearsOn :: GT) 0 [.ref (272 + 3 * r), .int on] μ (fun v μ2 => v = some (.int (f_years μ r on (ccN μ r))) ∧ μ2 = μ) := by
  refine CT.int (cc := b_R_yearsOn) (maxL := 4) (by decide) rfl rfl (Nat.le_of_ble_eq_true rfl) ?_
  intro G ad N hK X hret
  subst hK
  have hN : 272 ≤ N := hN
  have hKN : N = 272 + 3 * nr := hKN
  have hnr := hI.nr
  show AW G (rmD 0) 4 (0, 0, ad, N, fb) 0 [(0, .ref (272 + 3 * r)), (1, .int on)] [] μ
  have hcc := (hI.cc hr).2
  have key : ∀ (n : Nat) (j : Nat) (x : Int32) (y : Int32), ccN μ r - j < n → (j ≤ ccN μ r) → (x = nI j) → (y = f_years μ r on j) → AW G (rmD 0) 4 (0, 0, ad, N, fb) 7 [(3, .int x), (2, .int y), (0, .ref (272 + 3 * r)), (1, .int on)] [] μ := by
    intro n
    induction n with
    | zero =>
      intro j x y hlt
      exact absurd hlt (Nat.not_lt_zero _)
    | succ n ih =>
      intro j x y hlt hj ex ey
      subst ex
      subst ey
      refine AW.iload_n X (pc := 7) 0 rfl rfl d_R_yearsOn_7 ?_
      refine AW.aload_n X (pc := 8) 2 rfl rfl d_R_yearsOn_8 ?_
      refine AW.get X (pc := 9) (k := 272 + 3 * r) (ci := 1) (j := 5) (v := .int (μ (272 + 3 * r) 5)) (by omega) (sh_r _) rfl in_R (by decide) wf_R_32 rfl rfl d_R_yearsOn_9 ?_
      refine AW.val (w := .int (nI (ccN μ r))) (congrArg Value.int ((hI.cc hr).1)) ?_
      refine AW.icmp_ge X (pc := 12) 43 d_R_yearsOn_12 (by decide) (fun c_12 => ?_) (fun c_12 => ?_)
      · rw [nI_leI (by omega) (by omega)] at c_12
        refine AW.iload_n X (pc := 43) 1 rfl rfl d_R_yearsOn_43 ?_
        exact hret 44 _ _ _ d_R_yearsOn_44 ⟨by rw [show ccN μ r = j by omega], rfl⟩
      · rw [nI_leI (by omega) (by omega)] at c_12
        refine AW.iload_n X (pc := 15) 0 rfl rfl d_R_yearsOn_15 ?_
        refine AW.iconst X (pc := 16) (v := 5) (by decide) d_R_yearsOn_16 ?_
        refine AW.icmp_ge X (pc := 17) 43 d_R_yearsOn_17 (by decide) (fun c_17 => absurd c_17 (by rw [i_le (show (5 : Int32).toInt = 5 by decide) (nI_toInt (show j < 2 ^ 31 by omega))]; omega)) (fun c_17 => ?_)
        refine AW.aload_n X (pc := 20) 2 rfl rfl d_R_yearsOn_20 ?_
        refine AW.get X (pc := 21) (k := 272 + 3 * r) (ci := 1) (j := 3) (v := .ref (272 + 3 * r + 1)) (by omega) (sh_r _) rfl in_R (by decide) wf_R_9 rfl rfl d_R_yearsOn_21 ?_
        refine AW.iload_n X (pc := 24) 0 rfl rfl d_R_yearsOn_24 ?_
        refine AW.ialdN X (pc := 25) (k := 272 + 3 * r + 1) (t := 0) (n := 5) (j := j) (by omega) (sh_rd _) rfl (by omega) (by decide) d_R_yearsOn_25 ?_
        refine AW.iload_n X (pc := 26) 3 rfl rfl d_R_yearsOn_26 ?_
        refine AW.icmp_gt X (pc := 27) 37 d_R_yearsOn_27 (by decide) (fun c_27 => ?_) (fun c_27 => ?_)
        · refine AW.iinc X (pc := 37) (v := nI (j + 1)) (lv2 := [(3, .int (nI (j + 1))), (2, .int (f_years μ r on j)), (0, .ref (272 + 3 * r)), (1, .int on)]) 0 rfl (nI_1 _) d_R_yearsOn_37 (by decide) rfl ?_
          refine AW.goto X (pc := 40) 7 d_R_yearsOn_40 (by decide) ?_
          exact ih (j + 1) _ _ (by omega) (by omega) rfl (by rw [f_years, if_pos c_27])
        · refine AW.aload_n X (pc := 30) 2 rfl rfl d_R_yearsOn_30 ?_
          refine AW.get X (pc := 31) (k := 272 + 3 * r) (ci := 1) (j := 4) (v := .ref (272 + 3 * r + 2)) (by omega) (sh_r _) rfl in_R (by decide) wf_R_15 rfl rfl d_R_yearsOn_31 ?_
          refine AW.iload_n X (pc := 34) 0 rfl rfl d_R_yearsOn_34 ?_
          refine AW.ialdN X (pc := 35) (k := 272 + 3 * r + 2) (t := 0) (n := 5) (j := j) (by omega) (sh_ry _) rfl (by omega) (by decide) d_R_yearsOn_35 ?_
          refine AW.istore_n X (pc := 36) (lv2 := [(2, .int (μ (272 + 3 * r + 2) j)), (3, .int (nI j)), (0, .ref (272 + 3 * r)), (1, .int on)]) rfl d_R_yearsOn_36 (by decide) rfl ?_
          refine AW.iinc X (pc := 37) (v := nI (j + 1)) (lv2 := [(3, .int (nI (j + 1))), (2, .int (μ (272 + 3 * r + 2) j)), (0, .ref (272 + 3 * r)), (1, .int on)]) 1 rfl (nI_1 _) d_R_yearsOn_37 (by decide) rfl ?_
          refine AW.goto X (pc := 40) 7 d_R_yearsOn_40 (by decide) ?_
          exact ih (j + 1) _ _ (by omega) (by omega) rfl (by rw [f_years, if_neg c_27])
  refine AW.aload_n X (pc := 0) 0 rfl rfl d_R_yearsOn_0 ?_
  refine AW.get X (pc := 1) (k := 272 + 3 * r) (ci := 1) (j := 1) (v := .int (μ (272 + 3 * r) 1)) (by omega) (sh_r _) rfl in_R (by decide) wf_R_22 rfl rfl d_R_yearsOn_1 ?_
  refine AW.istore_n X (pc := 4) (lv2 := [(2, .int (μ (272 + 3 * r) 1)), (0, .ref (272 + 3 * r)), (1, .int on)]) rfl d_R_yearsOn_4 (by decide) rfl ?_
  refine AW.iconst X (pc := 5) (v := 0) (by decide) d_R_yearsOn_5 ?_
  refine AW.istore_n X (pc := 6) (lv2 := [(3, .int 0), (2, .int (μ (272 + 3 * r) 1)), (0, .ref (272 + 3 * r)), (1, .int on)]) rfl d_R_yearsOn_6 (by decide) rfl ?_
  exact key (ccN μ r + 1) 0 _ _ (by omega) (Nat.zero_le _) nI_0.symm rfl
set_option maxHeartbeats 4000000 in
set_option maxRecDepth 100000 in
theorem c_R_dueDay (K : KTy) (r nr : Nat) (ev on : Int32) (μ : Mu) (hN : 272 ≤ KN K) (hr : r < nr) (hI : CI μ nr) (hKN : KN K = 272 + 3 * nr) : CT K y_R_dueDay (k_R_dueDay :: GT) 1 [.ref (272 + 3 * r), .int ev, .int on] μ (fun v μ2 => v = some (.int (f_rday μ r ev on)) ∧ μ2 = μ) := by
  refine CT.int (cc := b_R_dueDay) (maxL := 3) (by decide) rfl rfl (Nat.le_of_ble_eq_true rfl) ?_
  intro G ad N hK X hret
  subst hK
  have hN : 272 ≤ N := hN
  have hKN : N = 272 + 3 * nr := hKN
  have hnr := hI.nr
  show AW G (rmD 1) 3 (0, 0, ad, N, fb) 0 [(0, .ref (272 + 3 * r)), (1, .int ev), (2, .int on)] [] μ
  refine AW.iload_n X (pc := 0) 1 rfl rfl d_R_dueDay_0 ?_
  refine AW.iconst X (pc := 1) (v := -1) (by decide) d_R_dueDay_1 ?_
  refine AW.icmp_ne X (pc := 2) 9 d_R_dueDay_2 (by decide) (fun c_2 => ?_) (fun c_2 => ?_)
  · refine AW.iload_n X (pc := 9) 1 rfl rfl d_R_dueDay_9 ?_
    refine AW.aload_n X (pc := 10) 0 rfl rfl d_R_dueDay_10 ?_
    refine AW.iload_n X (pc := 11) 2 rfl rfl d_R_dueDay_11 ?_
    refine AW.callV X (pc := 12) (b := 272 + 3 * r) (ci := 1) (nA := 1) [.int on] [.int ev] (c_R_yearsOn (kOf G ad N) r nr on μ hN hr hI hKN) (gv_V wm_R_35 wi_R_yearsOn wl_R_yearsOn wn_R kw_R_yearsOn) rfl (by decide +kernel) rfl (by omega) (sh_r _) rfl ⟨Nat.le_of_ble_eq_true rfl, Nat.le_of_ble_eq_true rfl⟩ ⟨Nat.zero_le _, Nat.zero_le _⟩ (Nat.le_of_ble_eq_true rfl) d_R_dueDay_12 rfl (fun v μ2 hq => ?_)
    obtain ⟨rfl, hm⟩ := hq
    rw [hm]
    clear hm
    show AW G (rmD 1) 3 (0, 0, ad, N, fb) 15 [(0, .ref (272 + 3 * r)), (1, .int ev), (2, .int on)] [.int (f_years μ r on (ccN μ r)), .int ev] μ
    refine AW.sipush X (pc := 15) (v := 365) (by decide) d_R_dueDay_15 ?_
    refine AW.imul X (pc := 18) d_R_dueDay_18 ?_
    refine AW.iadd X (pc := 19) d_R_dueDay_19 ?_
    exact hret 20 _ _ _ d_R_dueDay_20 ⟨by first | rfl | simp [bi, f_rday, c_2], rfl⟩
  · refine AW.iconst X (pc := 5) (v := -1) (by decide) d_R_dueDay_5 ?_
    refine AW.goto X (pc := 6) 20 d_R_dueDay_6 (by decide) ?_
    exact hret 20 _ _ _ d_R_dueDay_20 ⟨by first | rfl | simp [bi, f_rday, c_2], rfl⟩
set_option maxHeartbeats 4000000 in
set_option maxRecDepth 100000 in
theorem c_R_isChangedFrom (K : KTy) (r nr : Nat) (dd : Int32) (μ : Mu) (hN : 272 ≤ KN K) (hr : r < nr) (hI : CI μ nr) (hKN : KN K = 272 + 3 * nr) : CT K y_R_isChangedFrom (k_R_isChangedFrom :: GT) 0 [.ref (272 + 3 * r), .int dd] μ (fun v μ2 => v = some (.int (bi (decide (0 < ccN μ r ∧ ¬ μ (272 + 3 * r + 1) (ccN μ r - 1) < dd)))) ∧ μ2 = μ) := by
  refine CT.bool (cc := b_R_isChangedFrom) (maxL := 3) (by decide) rfl rfl (Nat.le_of_ble_eq_true rfl) ?_
  intro G ad N hK X hret
  subst hK
  have hN : 272 ≤ N := hN
  have hKN : N = 272 + 3 * nr := hKN
  have hnr := hI.nr
  show AW G (rmD 0) 3 (0, 0, ad, N, fb) 0 [(0, .ref (272 + 3 * r)), (1, .int dd)] [] μ
  have hcc := (hI.cc hr).2
  rcases Nat.eq_zero_or_pos (ccN μ r) with h0 | h0
  · refine AW.aload_n X (pc := 0) 0 rfl rfl d_R_isChangedFrom_0 ?_
    refine AW.get X (pc := 1) (k := 272 + 3 * r) (ci := 1) (j := 5) (v := .int (μ (272 + 3 * r) 5)) (by omega) (sh_r _) rfl in_R (by decide) wf_R_32 rfl rfl d_R_isChangedFrom_1 ?_
    refine AW.val (w := .int 0) (congrArg Value.int ((hI.cc hr).1.trans (by rw [h0] <;> exact nI_0))) ?_
    refine AW.iconst X (pc := 4) (v := 1) (by decide) d_R_isChangedFrom_4 ?_
    refine AW.isub X (pc := 5) d_R_isChangedFrom_5 ?_
    refine AW.istore_n X (pc := 6) (lv2 := [(2, .int (0 - 1)), (0, .ref (272 + 3 * r)), (1, .int dd)]) rfl d_R_isChangedFrom_6 (by decide) rfl ?_
    refine AW.iload_n X (pc := 7) 0 rfl rfl d_R_isChangedFrom_7 ?_
    refine AW.if_lt X (pc := 8) 30 d_R_isChangedFrom_8 (by decide) (fun c_8 => ?_) (fun c_8 => absurd c_8 (by decide))
    refine AW.iconst X (pc := 30) (v := 0) (by decide) d_R_isChangedFrom_30 ?_
    exact hret 31 _ _ _ d_R_isChangedFrom_31 rfl ⟨by simp [bi, h0], rfl⟩
  · refine AW.aload_n X (pc := 0) 0 rfl rfl d_R_isChangedFrom_0 ?_
    refine AW.get X (pc := 1) (k := 272 + 3 * r) (ci := 1) (j := 5) (v := .int (μ (272 + 3 * r) 5)) (by omega) (sh_r _) rfl in_R (by decide) wf_R_32 rfl rfl d_R_isChangedFrom_1 ?_
    refine AW.val (w := .int (nI (ccN μ r))) (congrArg Value.int ((hI.cc hr).1)) ?_
    refine AW.iconst X (pc := 4) (v := 1) (by decide) d_R_isChangedFrom_4 ?_
    refine AW.isub X (pc := 5) d_R_isChangedFrom_5 ?_
    refine AW.val (congrArg Value.int (show nI (ccN μ r) - 1 = nI (ccN μ r - 1) from pk_sub (b := 1) h0)) ?_
    refine AW.istore_n X (pc := 6) (lv2 := [(2, .int (nI (ccN μ r - 1))), (0, .ref (272 + 3 * r)), (1, .int dd)]) rfl d_R_isChangedFrom_6 (by decide) rfl ?_
    refine AW.iload_n X (pc := 7) 0 rfl rfl d_R_isChangedFrom_7 ?_
    refine AW.if_lt X (pc := 8) 30 d_R_isChangedFrom_8 (by decide) (fun c_8 => absurd c_8 (by rw [i_lt (nI_toInt (show ccN μ r - 1 < 2 ^ 31 by omega)) (show (0 : Int32).toInt = 0 by decide)]; omega)) (fun c_8 => ?_)
    refine AW.iload_n X (pc := 11) 0 rfl rfl d_R_isChangedFrom_11 ?_
    refine AW.iconst X (pc := 12) (v := 5) (by decide) d_R_isChangedFrom_12 ?_
    refine AW.icmp_ge X (pc := 13) 30 d_R_isChangedFrom_13 (by decide) (fun c_13 => absurd c_13 (by rw [i_le (show (5 : Int32).toInt = 5 by decide) (nI_toInt (show ccN μ r - 1 < 2 ^ 31 by omega))]; omega)) (fun c_13 => ?_)
    refine AW.aload_n X (pc := 16) 1 rfl rfl d_R_isChangedFrom_16 ?_
    refine AW.get X (pc := 17) (k := 272 + 3 * r) (ci := 1) (j := 3) (v := .ref (272 + 3 * r + 1)) (by omega) (sh_r _) rfl in_R (by decide) wf_R_9 rfl rfl d_R_isChangedFrom_17 ?_
    refine AW.iload_n X (pc := 20) 0 rfl rfl d_R_isChangedFrom_20 ?_
    refine AW.ialdN X (pc := 21) (k := 272 + 3 * r + 1) (t := 0) (n := 5) (j := ccN μ r - 1) (by omega) (sh_rd _) rfl (by omega) (by decide) d_R_isChangedFrom_21 ?_
    refine AW.iload_n X (pc := 22) 2 rfl rfl d_R_isChangedFrom_22 ?_
    refine AW.icmp_lt X (pc := 23) 30 d_R_isChangedFrom_23 (by decide) (fun c_23 => ?_) (fun c_23 => ?_)
    · refine AW.iconst X (pc := 30) (v := 0) (by decide) d_R_isChangedFrom_30 ?_
      exact hret 31 _ _ _ d_R_isChangedFrom_31 rfl ⟨by simp [bi, h0, c_23], rfl⟩
    · refine AW.iconst X (pc := 26) (v := 1) (by decide) d_R_isChangedFrom_26 ?_
      refine AW.goto X (pc := 27) 31 d_R_isChangedFrom_27 (by decide) ?_
      exact hret 31 _ _ _ d_R_isChangedFrom_31 rfl ⟨by simp [bi, h0, c_23], rfl⟩
set_option maxHeartbeats 4000000 in
set_option maxRecDepth 100000 in
theorem c_R_addChange (K : KTy) (r nr : Nat) (yy dd : Int32) (μ : Mu) (hN : 272 ≤ KN K) (hr : r < nr) (hI : CI μ nr) (hKN : KN K = 272 + 3 * nr) : CT K y_R_addChange (k_R_addChange :: GT) 0 [.ref (272 + 3 * r), .int yy, .int dd] μ (fun v μ2 => if ccN μ r < 5 then v = some (.int 1) ∧ μ2 = m_up (m_up (m_up μ (272 + 3 * r + 1) (ccN μ r) dd) (272 + 3 * r + 2) (ccN μ r) yy) (272 + 3 * r) 5 (nI (ccN μ r) + 1) else v = some (.int 0) ∧ μ2 = μ) := by
  refine CT.bool (cc := b_R_addChange) (maxL := 4) (by decide) rfl rfl (Nat.le_of_ble_eq_true rfl) ?_
  intro G ad N hK X hret
  subst hK
  have hN : 272 ≤ N := hN
  have hKN : N = 272 + 3 * nr := hKN
  have hnr := hI.nr
  have hcc := (hI.cc hr).2
  show AW G (rmD 0) 4 (0, 0, ad, N, fb) 0 [(0, .ref (272 + 3 * r)), (1, .int yy), (2, .int dd)] [] μ
  refine AW.aload_n X (pc := 0) 0 rfl rfl d_R_addChange_0 ?_
  refine AW.get X (pc := 1) (k := 272 + 3 * r) (ci := 1) (j := 5) (v := .int (μ (272 + 3 * r) 5)) (by omega) (sh_r _) rfl in_R (by decide) wf_R_32 rfl rfl d_R_addChange_1 ?_
  refine AW.val (w := .int (nI (ccN μ r))) (congrArg Value.int ((hI.cc hr).1)) ?_
  refine AW.istore_n X (pc := 4) (lv2 := [(3, .int (nI (ccN μ r))), (0, .ref (272 + 3 * r)), (1, .int yy), (2, .int dd)]) rfl d_R_addChange_4 (by decide) rfl ?_
  refine AW.iload_n X (pc := 5) 0 rfl rfl d_R_addChange_5 ?_
  refine AW.if_lt X (pc := 6) 14 d_R_addChange_6 (by decide) (fun c_6 => absurd c_6 (by rw [i_lt (nI_toInt (show ccN μ r < 2 ^ 31 by omega)) (show (0 : Int32).toInt = 0 by decide)]; omega)) (fun c_6 => ?_)
  refine AW.iload_n X (pc := 9) 0 rfl rfl d_R_addChange_9 ?_
  refine AW.iconst X (pc := 10) (v := 5) (by decide) d_R_addChange_10 ?_
  refine AW.icmp_lt X (pc := 11) 16 d_R_addChange_11 (by decide) (fun c_11 => ?_) (fun c_11 => ?_)
  · rw [i_lt (nI_toInt (show ccN μ r < 2 ^ 31 by omega)) (show (5 : Int32).toInt = 5 by decide)] at c_11
    have c_11 : ccN μ r < 5 := by omega
    refine AW.aload_n X (pc := 16) 1 rfl rfl d_R_addChange_16 ?_
    refine AW.get X (pc := 17) (k := 272 + 3 * r) (ci := 1) (j := 3) (v := .ref (272 + 3 * r + 1)) (by omega) (sh_r _) rfl in_R (by decide) wf_R_9 rfl rfl d_R_addChange_17 ?_
    refine AW.iload_n X (pc := 20) 0 rfl rfl d_R_addChange_20 ?_
    refine AW.iload_n X (pc := 21) 3 rfl rfl d_R_addChange_21 ?_
    refine AW.iastN X (pc := 22) (k := 272 + 3 * r + 1) (t := 0) (n := 5) (j := ccN μ r) (x := dd) (by omega) (sh_rd _) rfl (by omega) (by decide) d_R_addChange_22 ?_
    refine AW.aload_n X (pc := 23) 1 rfl rfl d_R_addChange_23 ?_
    refine AW.get X (pc := 24) (k := 272 + 3 * r) (ci := 1) (j := 4) (v := .ref (272 + 3 * r + 2)) (by omega) (sh_r _) rfl in_R (by decide) wf_R_15 rfl rfl d_R_addChange_24 ?_
    refine AW.iload_n X (pc := 27) 0 rfl rfl d_R_addChange_27 ?_
    refine AW.iload_n X (pc := 28) 2 rfl rfl d_R_addChange_28 ?_
    refine AW.iastN X (pc := 29) (k := 272 + 3 * r + 2) (t := 0) (n := 5) (j := ccN μ r) (x := yy) (by omega) (sh_ry _) rfl (by omega) (by decide) d_R_addChange_29 ?_
    refine AW.aload_n X (pc := 30) 1 rfl rfl d_R_addChange_30 ?_
    refine AW.iload_n X (pc := 31) 0 rfl rfl d_R_addChange_31 ?_
    refine AW.iconst X (pc := 32) (v := 1) (by decide) d_R_addChange_32 ?_
    refine AW.iadd X (pc := 33) d_R_addChange_33 ?_
    refine AW.put X (pc := 34) (k := 272 + 3 * r) (ci := 1) (j := 5) (x := (nI (ccN μ r)) + 1) (ty := .int) ft_R (by omega) (sh_r _) rfl in_R ft_R_ok n_R (by decide) wf_R_32 rfl rfl rfl rfl rfl d_R_addChange_34 ?_
    refine AW.iconst X (pc := 37) (v := 1) (by decide) d_R_addChange_37 ?_
    exact hret 38 _ _ _ d_R_addChange_38 rfl (by first | (rw [if_pos c_11]; exact ⟨rfl, rfl⟩) | (rw [if_neg c_11]; exact ⟨rfl, rfl⟩))
  · rw [i_lt (nI_toInt (show ccN μ r < 2 ^ 31 by omega)) (show (5 : Int32).toInt = 5 by decide)] at c_11
    have c_11 : ¬ ccN μ r < 5 := by omega
    refine AW.iconst X (pc := 14) (v := 0) (by decide) d_R_addChange_14 ?_
    exact hret 15 _ _ _ d_R_addChange_15 rfl (by first | (rw [if_pos c_11]; exact ⟨rfl, rfl⟩) | (rw [if_neg c_11]; exact ⟨rfl, rfl⟩))
set_option maxHeartbeats 4000000 in
set_option maxRecDepth 100000 in
theorem c_U_isHeld (K : KTy) (i : Nat) (dd : Int32) (μ : Mu) (hN : 272 ≤ KN K) (hi : i < 60) : CT K y_U_isHeld (k_U_isHeld :: GT) 0 [.ref (5 + 4 * i), .int dd] μ (fun v μ2 => v = some (.int (bi (f_held μ i dd))) ∧ μ2 = μ) := by
  refine CT.bool (cc := b_U_isHeld) (maxL := 3) (by decide) rfl rfl (Nat.le_of_ble_eq_true rfl) ?_
  intro G ad N hK X hret
  subst hK
  have hN : 272 ≤ N := hN
  show AW G (rmD 0) 3 (0, 0, ad, N, fb) 0 [(0, .ref (5 + 4 * i)), (1, .int dd)] [] μ
  have key : ∀ (n : Nat) (j : Nat) (x : Int32), 4 - j < n → (j ≤ 4) → (x = nI j) → (∀ q, q < j → (decide (μ (5 + 4 * i + 3) q = -1) || decide (¬ μ (5 + 4 * i + 3) q < dd)) = false) → AW G (rmD 0) 3 (0, 0, ad, N, fb) 2 [(2, .int x), (0, .ref (5 + 4 * i)), (1, .int dd)] [] μ := by
    intro n
    induction n with
    | zero =>
      intro j x hlt
      exact absurd hlt (Nat.not_lt_zero _)
    | succ n ih =>
      intro j x hlt hj ex hp
      subst ex
      refine AW.iload_n X (pc := 2) 0 rfl rfl d_U_isHeld_2 ?_
      refine AW.aload_n X (pc := 3) 1 rfl rfl d_U_isHeld_3 ?_
      refine AW.get X (pc := 4) (k := 5 + 4 * i) (ci := 3) (j := 3) (v := .ref (5 + 4 * i + 3)) (by omega) (sh_u hi) rfl in_U (by decide) wf_U_21 rfl rfl d_U_isHeld_4 ?_
      refine AW.alen X (pc := 7) (k := 5 + 4 * i + 3) (t := 0) (n := 4) (kd := 0) (v := 4) (by omega) (sh_uh hi) rfl (by decide) d_U_isHeld_7 ?_
      refine AW.icmp_ge X (pc := 8) 39 d_U_isHeld_8 (by decide) (fun c_8 => ?_) (fun c_8 => ?_)
      · rw [i_le (show (4 : Int32).toInt = 4 by decide) (nI_toInt (show j < 2 ^ 31 by omega))] at c_8
        refine AW.iconst X (pc := 39) (v := 0) (by decide) d_U_isHeld_39 ?_
        exact hret 40 _ _ _ d_U_isHeld_40 rfl ⟨by rw [f_held, anyB_f (fun q hq => hp q (by omega))]; rfl, rfl⟩
      · rw [i_le (show (4 : Int32).toInt = 4 by decide) (nI_toInt (show j < 2 ^ 31 by omega))] at c_8
        refine AW.aload_n X (pc := 11) 1 rfl rfl d_U_isHeld_11 ?_
        refine AW.get X (pc := 12) (k := 5 + 4 * i) (ci := 3) (j := 3) (v := .ref (5 + 4 * i + 3)) (by omega) (sh_u hi) rfl in_U (by decide) wf_U_21 rfl rfl d_U_isHeld_12 ?_
        refine AW.iload_n X (pc := 15) 0 rfl rfl d_U_isHeld_15 ?_
        refine AW.ialdN X (pc := 16) (k := 5 + 4 * i + 3) (t := 0) (n := 4) (j := j) (by omega) (sh_uh hi) rfl (by omega) (by decide) d_U_isHeld_16 ?_
        refine AW.iconst X (pc := 17) (v := -1) (by decide) d_U_isHeld_17 ?_
        refine AW.icmp_eq X (pc := 18) 31 d_U_isHeld_18 (by decide) (fun c_18 => ?_) (fun c_18 => ?_)
        · refine AW.iconst X (pc := 31) (v := 1) (by decide) d_U_isHeld_31 ?_
          exact hret 32 _ _ _ d_U_isHeld_32 rfl ⟨by rw [f_held, anyB_t (j := j) (by omega) (by simp [c_18])]; rfl, rfl⟩
        · refine AW.aload_n X (pc := 21) 1 rfl rfl d_U_isHeld_21 ?_
          refine AW.get X (pc := 22) (k := 5 + 4 * i) (ci := 3) (j := 3) (v := .ref (5 + 4 * i + 3)) (by omega) (sh_u hi) rfl in_U (by decide) wf_U_21 rfl rfl d_U_isHeld_22 ?_
          refine AW.iload_n X (pc := 25) 0 rfl rfl d_U_isHeld_25 ?_
          refine AW.ialdN X (pc := 26) (k := 5 + 4 * i + 3) (t := 0) (n := 4) (j := j) (by omega) (sh_uh hi) rfl (by omega) (by decide) d_U_isHeld_26 ?_
          refine AW.iload_n X (pc := 27) 2 rfl rfl d_U_isHeld_27 ?_
          refine AW.icmp_lt X (pc := 28) 33 d_U_isHeld_28 (by decide) (fun c_28 => ?_) (fun c_28 => ?_)
          · refine AW.iinc X (pc := 33) (v := nI (j + 1)) (lv2 := [(2, .int (nI (j + 1))), (0, .ref (5 + 4 * i)), (1, .int dd)]) 0 rfl (nI_1 _) d_U_isHeld_33 (by decide) rfl ?_
            refine AW.goto X (pc := 36) 2 d_U_isHeld_36 (by decide) ?_
            exact ih (j + 1) _ (by omega) (by omega) rfl (lt_s hp (by simp [c_18, c_28]))
          · refine AW.iconst X (pc := 31) (v := 1) (by decide) d_U_isHeld_31 ?_
            exact hret 32 _ _ _ d_U_isHeld_32 rfl ⟨by rw [f_held, anyB_t (j := j) (by omega) (by simp [c_18, c_28])]; rfl, rfl⟩
  refine AW.iconst X (pc := 0) (v := 0) (by decide) d_U_isHeld_0 ?_
  refine AW.istore_n X (pc := 1) (lv2 := [(2, .int 0), (0, .ref (5 + 4 * i)), (1, .int dd)]) rfl d_U_isHeld_1 (by decide) rfl ?_
  exact key 5 0 _ (by omega) (Nat.zero_le _) nI_0.symm lt_0
