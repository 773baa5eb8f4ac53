set_option maxHeartbeats 4000000 in
set_option maxRecDepth 100000 in
theorem a_T_eventKind (K : KTy) (n0 : Nat) (μ : Mu) (β : Nat → Nat → Bool) (hKN : KN K = n0) (hn0 : 2 ≤ n0) : CTA K y_T_eventKind (k_T_eventKind :: GT) 0 0 0 β [.ref 1] μ (fun v μ2 β2 N2 => v = some (.int (μ 1 3)) ∧ μ2 = μ ∧ β2 = β ∧ N2 = n0) := by
  refine CTA.int (cc := b_T_eventKind) (maxL := 1) (by decide) rfl rfl (Nat.le_of_ble_eq_true rfl) ?_
  intro G ad N hK X hA0 hnm hret
  subst hK
  obtain rfl : n0 = N := hKN.symm
  show AW G (rmA 0 0 0) 1 (0, 0, ad, n0, β) 0 [(0, .ref 1)] [] μ
  refine AW.aload_n X (pc := 0) 0 rfl rfl d_T_eventKind_0 ?_
  refine AW.get X (pc := 1) (k := 1) (ci := 2) (j := 3) (v := .int (μ 1 3)) (by omega) rfl rfl in_T (by decide) wf_T_35 rfl rfl d_T_eventKind_1 ?_
  exact hret 4 _ _ _ _ _ _ _ _ d_T_eventKind_4 (Nat.le_refl _) (Nat.le_refl _) (fun _ _ => rfl) ⟨rfl, rfl, rfl, rfl⟩
set_option maxHeartbeats 4000000 in
set_option maxRecDepth 100000 in
theorem a_T_years (K : KTy) (n0 : Nat) (μ : Mu) (β : Nat → Nat → Bool) (hKN : KN K = n0) (hn0 : 2 ≤ n0) : CTA K y_T_years (k_T_years :: GT) 0 0 0 β [.ref 1] μ (fun v μ2 β2 N2 => v = some (.int (μ 1 4)) ∧ μ2 = μ ∧ β2 = β ∧ N2 = n0) := by
  refine CTA.int (cc := b_T_years) (maxL := 1) (by decide) rfl rfl (Nat.le_of_ble_eq_true rfl) ?_
  intro G ad N hK X hA0 hnm hret
  subst hK
  obtain rfl : n0 = N := hKN.symm
  show AW G (rmA 0 0 0) 1 (0, 0, ad, n0, β) 0 [(0, .ref 1)] [] μ
  refine AW.aload_n X (pc := 0) 0 rfl rfl d_T_years_0 ?_
  refine AW.get X (pc := 1) (k := 1) (ci := 2) (j := 4) (v := .int (μ 1 4)) (by omega) rfl rfl in_T (by decide) wf_T_38 rfl rfl d_T_years_1 ?_
  exact hret 4 _ _ _ _ _ _ _ _ d_T_years_4 (Nat.le_refl _) (Nat.le_refl _) (fun _ _ => rfl) ⟨rfl, rfl, rfl, rfl⟩
set_option maxHeartbeats 4000000 in
set_option maxRecDepth 100000 in
theorem a_T_action (K : KTy) (n0 : Nat) (μ : Mu) (β : Nat → Nat → Bool) (hKN : KN K = n0) (hn0 : 2 ≤ n0) : CTA K y_T_action (k_T_action :: GT) 0 0 0 β [.ref 1] μ (fun v μ2 β2 N2 => v = some (.int (μ 1 5)) ∧ μ2 = μ ∧ β2 = β ∧ N2 = n0) := by
  refine CTA.int (cc := b_T_action) (maxL := 1) (by decide) rfl rfl (Nat.le_of_ble_eq_true rfl) ?_
  intro G ad N hK X hA0 hnm hret
  subst hK
  obtain rfl : n0 = N := hKN.symm
  show AW G (rmA 0 0 0) 1 (0, 0, ad, n0, β) 0 [(0, .ref 1)] [] μ
  refine AW.aload_n X (pc := 0) 0 rfl rfl d_T_action_0 ?_
  refine AW.get X (pc := 1) (k := 1) (ci := 2) (j := 5) (v := .int (μ 1 5)) (by omega) rfl rfl in_T (by decide) wf_T_41 rfl rfl d_T_action_1 ?_
  exact hret 4 _ _ _ _ _ _ _ _ d_T_action_4 (Nat.le_refl _) (Nat.le_refl _) (fun _ _ => rfl) ⟨rfl, rfl, rfl, rfl⟩
set_option maxHeartbeats 4000000 in
set_option maxRecDepth 100000 in
theorem c_T_clear (K : KTy)  (μ : Mu) (hN : 272 ≤ KN K)  : CT K y_T_clear (k_T_clear :: GT) 0 [.ref 1] μ (fun v μ2 => v = none ∧ μ2 = m_up μ 1 1 0) := by
  refine CT.void (cc := b_T_clear) (maxL := 1) (by decide) rfl rfl (Nat.le_of_ble_eq_true rfl) ?_
  intro G ad N hK X hret
  subst hK
  have hN : 272 ≤ N := hN
  show AW G (rmD 0) 1 (0, 0, ad, N, fb) 0 [(0, .ref 1)] [] μ
  refine AW.aload_n X (pc := 0) 0 rfl rfl d_T_clear_0 ?_
  refine AW.iconst X (pc := 1) (v := 0) (by decide) d_T_clear_1 ?_
  refine AW.put X (pc := 2) (k := 1) (ci := 2) (j := 1) (x := 0) (ty := .int) ft_T (by omega) rfl rfl in_T ft_T_ok n_T (by decide) wf_T_15 rfl rfl rfl rfl rfl d_T_clear_2 ?_
  exact hret 5 _ _ d_T_clear_5 ⟨rfl, rfl⟩
set_option maxHeartbeats 4000000 in
set_option maxRecDepth 100000 in
theorem c_T_place (K : KTy)  (μ : Mu) (hN : 272 ≤ KN K)  : CT K y_T_place (k_T_place :: GT) 0 [.ref 1] μ (fun v μ2 => v = some (.int (μ 1 2)) ∧ μ2 = μ) := by
  refine CT.int (cc := b_T_place) (maxL := 1) (by decide) rfl rfl (Nat.le_of_ble_eq_true rfl) ?_
  intro G ad N hK X hret
  subst hK
  have hN : 272 ≤ N := hN
  show AW G (rmD 0) 1 (0, 0, ad, N, fb) 0 [(0, .ref 1)] [] μ
  refine AW.aload_n X (pc := 0) 0 rfl rfl d_T_place_0 ?_
  refine AW.get X (pc := 1) (k := 1) (ci := 2) (j := 2) (v := .int (μ 1 2)) (by omega) rfl rfl in_T (by decide) wf_T_19 rfl rfl d_T_place_1 ?_
  exact hret 4 _ _ _ d_T_place_4 ⟨by first | rfl | simp [bi], rfl⟩
set_option maxHeartbeats 4000000 in
set_option maxRecDepth 100000 in
theorem c_C_rule (K : KTy) (nr : Nat) (μ : Mu) (β : Nat → Nat → Bool) (hKN : KN K = 272 + 3 * nr) (hβ : β = fb) (hI : CI μ nr) (hz : ∀ k j, 272 + 3 * nr ≤ k → μ k j = 0) : CTA K y_C_rule (k_C_rule :: GT) 7 3 17 β [.ref 0] μ (fun v μ2 β2 N2 => if (rd (sgA μ) (tlN μ)).1 = false then v = some (.int (-10 - nI (rd (sgA μ) (tlN μ)).2.1)) ∧ N2 = 272 + 3 * nr ∧ β2 = fb ∧ ∃ μ1, TS μ μ1 ∧ μ2 = m_up μ1 1 1 0 else if nr = 20 then v = some (.int (-4)) ∧ N2 = 272 + 3 * nr ∧ β2 = fb ∧ ∃ μ1, TS μ μ1 ∧ μ2 = m_up μ1 1 1 0 else v = some (.int (nI nr)) ∧ N2 = 272 + 3 * nr + 3 ∧ β2 = fb ∧ ∃ μ1, TS μ μ1 ∧ μ2 = (m_up (m_up (m_up (m_up (m_up (m_up μ1 1 1 0) (272 + 3 * nr) 0 (nI (rd (sgA μ) (tlN μ)).2.2.1)) (272 + 3 * nr) 1 (rd (sgA μ) (tlN μ)).2.2.2.1) (272 + 3 * nr) 2 (nI (rd (sgA μ) (tlN μ)).2.2.2.2)) 3 nr (nI (272 + 3 * nr + 1))) 0 2 (nI (nr + 1)))) := by
  refine CTA.int (cc := b_C_rule) (maxL := 2) (by decide) rfl rfl (Nat.le_of_ble_eq_true rfl) ?_
  intro G ad N hK X hA0 hnm hret
  subst hK
  obtain rfl : N = 272 + 3 * nr := hKN
  subst hβ
  show AW G (rmA 7 3 17) 2 (0, 0, ad, 272 + 3 * nr, fb) 0 [(0, .ref 0)] [] μ
  have hnr := hI.nr
  have hN : 272 ≤ KN (kOf G ad (272 + 3 * nr)) := Nat.le_add_right _ _
  cases hb : (rd (sgA μ) (tlN μ)).1 with
  | false =>
    refine AW.aload_n X (pc := 0) 0 rfl rfl d_C_rule_0 ?_
    refine AW.get X (pc := 1) (k := 0) (ci := 4) (j := 0) (v := .ref 1) (by omega) rfl rfl in_C (by decide) wf_C_10 rfl rfl d_C_rule_1 ?_
    refine AW.callV X (pc := 4) (b := 1) (ci := 2) (nA := 0) [] [] (c_T_read (kOf G ad (272 + 3 * nr)) μ hN hI.tl.1 hI.tl.2) (gv_V wm_C_44 wi_T_read wl_T_read wn_T kw_T_read) rfl (by decide +kernel) rfl (by omega) rfl rfl ⟨Nat.le_of_ble_eq_true rfl, Nat.le_of_ble_eq_true rfl⟩ ⟨Nat.zero_le _, Nat.zero_le _⟩ (Nat.le_of_ble_eq_true rfl) d_C_rule_4 rfl (fun v μ1 hq => ?_)
    obtain ⟨rfl, hTS, h2, h345⟩ := hq
    show AW G (rmA 7 3 17) 2 (0, 0, ad, 272 + 3 * nr, fb) 7 [(0, .ref 0)] [.int (bi (rd (sgA μ) (tlN μ)).1)] μ1
    refine AW.istore_n X (pc := 7) (lv2 := [(1, .int (bi (rd (sgA μ) (tlN μ)).1)), (0, .ref 0)]) rfl d_C_rule_7 (by decide) rfl ?_
    refine AW.aload_n X (pc := 8) 1 rfl rfl d_C_rule_8 ?_
    refine AW.get X (pc := 9) (k := 0) (ci := 4) (j := 0) (v := .ref 1) (by omega) rfl rfl in_C (by decide) wf_C_10 rfl rfl d_C_rule_9 ?_
    refine AW.callV X (pc := 12) (b := 1) (ci := 2) (nA := 0) [] [] (c_T_clear (kOf G ad (272 + 3 * nr)) μ1 hN) (gv_V wm_C_48 wi_T_clear wl_T_clear wn_T kw_T_clear) rfl (by decide +kernel) rfl (by omega) rfl rfl ⟨Nat.le_of_ble_eq_true rfl, Nat.le_of_ble_eq_true rfl⟩ ⟨Nat.zero_le _, Nat.zero_le _⟩ (Nat.le_of_ble_eq_true rfl) d_C_rule_12 rfl (fun v μ2 hq => ?_)
    obtain ⟨rfl, hm⟩ := hq
    rw [hm]
    clear hm
    show AW G (rmA 7 3 17) 2 (0, 0, ad, 272 + 3 * nr, fb) 15 [(1, .int (bi (rd (sgA μ) (tlN μ)).1)), (0, .ref 0)] [] (m_up μ1 1 1 0)
    refine AW.iload_n X (pc := 15) 0 rfl rfl d_C_rule_15 ?_
    refine AW.if_ne X (pc := 16) 30 d_C_rule_16 (by decide) (fun c_16 => absurd c_16 (by rw [hb]; decide)) (fun c_16 => ?_)
    refine AW.bipush X (pc := 19) (v := -10) (by decide) d_C_rule_19 ?_
    refine AW.aload_n X (pc := 21) 1 rfl rfl d_C_rule_21 ?_
    refine AW.get X (pc := 22) (k := 0) (ci := 4) (j := 0) (v := .ref 1) (by omega) rfl rfl in_C (by decide) wf_C_10 rfl rfl d_C_rule_22 ?_
    refine AW.callV X (pc := 25) (b := 1) (ci := 2) (nA := 0) [] [.int (-10)] (c_T_place (kOf G ad (272 + 3 * nr)) (m_up μ1 1 1 0) hN) (gv_V wm_C_51 wi_T_place wl_T_place wn_T kw_T_place) rfl (by decide +kernel) rfl (by omega) rfl rfl ⟨Nat.le_of_ble_eq_true rfl, Nat.le_of_ble_eq_true rfl⟩ ⟨Nat.zero_le _, Nat.zero_le _⟩ (Nat.le_of_ble_eq_true rfl) d_C_rule_25 rfl (fun v μ2 hq => ?_)
    obtain ⟨rfl, hm⟩ := hq
    rw [hm]
    clear hm
    refine AW.val (w := .int (nI (rd (sgA μ) (tlN μ)).2.1)) (congrArg Value.int ((m_up_ne (by omega)).trans h2)) ?_
    show AW G (rmA 7 3 17) 2 (0, 0, ad, 272 + 3 * nr, fb) 28 [(1, .int (bi (rd (sgA μ) (tlN μ)).1)), (0, .ref 0)] [.int (nI (rd (sgA μ) (tlN μ)).2.1), .int (-10)] (m_up μ1 1 1 0)
    refine AW.isub X (pc := 28) d_C_rule_28 ?_
    exact hret 29 _ _ _ _ _ _ _ _ d_C_rule_29 (Nat.zero_le _) (Nat.zero_le _) (fun _ _ => rfl) (by rw [if_pos hb]; exact ⟨rfl, rfl, rfl, μ1, hTS, rfl⟩)
  | true =>
    refine AW.aload_n X (pc := 0) 0 rfl rfl d_C_rule_0 ?_
    refine AW.get X (pc := 1) (k := 0) (ci := 4) (j := 0) (v := .ref 1) (by omega) rfl rfl in_C (by decide) wf_C_10 rfl rfl d_C_rule_1 ?_
    refine AW.callV X (pc := 4) (b := 1) (ci := 2) (nA := 0) [] [] (c_T_read (kOf G ad (272 + 3 * nr)) μ hN hI.tl.1 hI.tl.2) (gv_V wm_C_44 wi_T_read wl_T_read wn_T kw_T_read) rfl (by decide +kernel) rfl (by omega) rfl rfl ⟨Nat.le_of_ble_eq_true rfl, Nat.le_of_ble_eq_true rfl⟩ ⟨Nat.zero_le _, Nat.zero_le _⟩ (Nat.le_of_ble_eq_true rfl) d_C_rule_4 rfl (fun v μ1 hq => ?_)
    obtain ⟨rfl, hTS, h2, h345⟩ := hq
    show AW G (rmA 7 3 17) 2 (0, 0, ad, 272 + 3 * nr, fb) 7 [(0, .ref 0)] [.int (bi (rd (sgA μ) (tlN μ)).1)] μ1
    refine AW.istore_n X (pc := 7) (lv2 := [(1, .int (bi (rd (sgA μ) (tlN μ)).1)), (0, .ref 0)]) rfl d_C_rule_7 (by decide) rfl ?_
    refine AW.aload_n X (pc := 8) 1 rfl rfl d_C_rule_8 ?_
    refine AW.get X (pc := 9) (k := 0) (ci := 4) (j := 0) (v := .ref 1) (by omega) rfl rfl in_C (by decide) wf_C_10 rfl rfl d_C_rule_9 ?_
    refine AW.callV X (pc := 12) (b := 1) (ci := 2) (nA := 0) [] [] (c_T_clear (kOf G ad (272 + 3 * nr)) μ1 hN) (gv_V wm_C_48 wi_T_clear wl_T_clear wn_T kw_T_clear) rfl (by decide +kernel) rfl (by omega) rfl rfl ⟨Nat.le_of_ble_eq_true rfl, Nat.le_of_ble_eq_true rfl⟩ ⟨Nat.zero_le _, Nat.zero_le _⟩ (Nat.le_of_ble_eq_true rfl) d_C_rule_12 rfl (fun v μ2 hq => ?_)
    obtain ⟨rfl, hm⟩ := hq
    rw [hm]
    clear hm
    show AW G (rmA 7 3 17) 2 (0, 0, ad, 272 + 3 * nr, fb) 15 [(1, .int (bi (rd (sgA μ) (tlN μ)).1)), (0, .ref 0)] [] (m_up μ1 1 1 0)
    refine AW.iload_n X (pc := 15) 0 rfl rfl d_C_rule_15 ?_
    refine AW.if_ne X (pc := 16) 30 d_C_rule_16 (by decide) (fun c_16 => ?_) (fun c_16 => absurd c_16 (by rw [hb]; decide))
    refine AW.aload_n X (pc := 30) 1 rfl rfl d_C_rule_30 ?_
    refine AW.get X (pc := 31) (k := 0) (ci := 4) (j := 2) (v := .int ((m_up μ1 1 1 0) 0 2)) (by omega) rfl rfl in_C (by decide) wf_C_55 rfl rfl d_C_rule_31 ?_
    refine AW.val (w := .int (nI nr)) (congrArg Value.int ((congrFun (m_up_row (by decide)) 2).trans ((hTS 0 2 (Or.inl (by decide))).trans hI.rc))) ?_
    refine AW.if_lt X (pc := 34) 49 d_C_rule_34 (by decide) (fun c_34 => absurd c_34 (by rw [i_lt (nI_toInt (show nr < 2 ^ 31 by omega)) (show (0 : Int32).toInt = 0 by decide)]; omega)) (fun c_34 => ?_)
    refine AW.aload_n X (pc := 37) 1 rfl rfl d_C_rule_37 ?_
    refine AW.get X (pc := 38) (k := 0) (ci := 4) (j := 2) (v := .int ((m_up μ1 1 1 0) 0 2)) (by omega) rfl rfl in_C (by decide) wf_C_55 rfl rfl d_C_rule_38 ?_
    refine AW.val (w := .int (nI nr)) (congrArg Value.int ((congrFun (m_up_row (by decide)) 2).trans ((hTS 0 2 (Or.inl (by decide))).trans hI.rc))) ?_
    refine AW.aload_n X (pc := 41) 1 rfl rfl d_C_rule_41 ?_
    refine AW.get X (pc := 42) (k := 0) (ci := 4) (j := 1) (v := .ref 3) (by omega) rfl rfl in_C (by decide) wf_C_18 rfl rfl d_C_rule_42 ?_
    refine AW.alen X (pc := 45) (k := 3) (t := 2) (n := 20) (kd := 2) (v := 20) (by omega) rfl rfl (by decide) d_C_rule_45 ?_
    refine AW.icmp_lt X (pc := 46) 52 d_C_rule_46 (by decide) (fun c_46 => ?_) (fun c_46 => ?_)
    · rw [i_lt (nI_toInt (show nr < 2 ^ 31 by omega)) (show (20 : Int32).toInt = 20 by decide)] at c_46
      obtain ⟨h3, h4, h5⟩ := h345 hb
      refine AW.aload_n X (pc := 52) 1 rfl rfl d_C_rule_52 ?_
      refine AW.get X (pc := 53) (k := 0) (ci := 4) (j := 1) (v := .ref 3) (by omega) rfl rfl in_C (by decide) wf_C_18 rfl rfl d_C_rule_53 ?_
      refine AW.aload_n X (pc := 56) 1 rfl rfl d_C_rule_56 ?_
      refine AW.get X (pc := 57) (k := 0) (ci := 4) (j := 2) (v := .int ((m_up μ1 1 1 0) 0 2)) (by omega) rfl rfl in_C (by decide) wf_C_55 rfl rfl d_C_rule_57 ?_
      refine AW.val (w := .int (nI nr)) (congrArg Value.int ((congrFun (m_up_row (by decide)) 2).trans ((hTS 0 2 (Or.inl (by decide))).trans hI.rc))) ?_
      have hz1 : ∀ k j, 272 + 3 * nr ≤ k → m_up μ1 1 1 0 k j = 0 := fun k j h => by rw [m_up_row (by omega), hTS k j (Or.inl (by omega))]; exact hz k j h
      refine AW.beta (β2 := fun k _ => decide (k < 272 + 3 * nr)) (fun k ci j o hk _ _ => decide_eq_true hk) ?_
      refine AW.new X (pc := 60) (ci := 1) ft_R (sh_r _) rfl in_R ft_R_ok wk_C_16 wb_R wn_R dv_R ⟨show 272 + 3 * nr < 1000000 by omega, hA0, (fun j => hz1 _ j (by omega)), (fun j => decide_eq_false (by omega)), (List.forall_mem_cons.mpr ⟨trivial, (List.forall_mem_cons.mpr ⟨(Or.inl (show (0 : Nat) < 272 + 3 * nr by omega)), (fun _ h => nomatch h)⟩)⟩), (List.forall_mem_cons.mpr ⟨trivial, (List.forall_mem_cons.mpr ⟨(Or.inl (show (3 : Nat) < 272 + 3 * nr by omega)), (fun _ h => nomatch h)⟩)⟩)⟩ (show (0 : Nat) + 1 ≤ 3 by omega) (show (0 : Nat) + 7 ≤ 17 by omega) d_C_rule_60 (fun q_60 => ?_)
      refine AW.dup X (pc := 63) rfl d_C_rule_63 ?_
      refine AW.aload_n X (pc := 64) 1 rfl rfl d_C_rule_64 ?_
      refine AW.get X (pc := 65) (k := 0) (ci := 4) (j := 0) (v := .ref 1) (by omega) rfl rfl in_C (by decide) wf_C_10 rfl (by rw [decide_eq_true (show 0 < 272 + 3 * nr by omega)]; rfl) d_C_rule_65 ?_
      refine AW.callVA X hA0 (pc := 68) (b := 1) (ci := 2) (nA := 0) (mc := 0) (ms := 0) [] [.ref (272 + 3 * nr), .ref (272 + 3 * nr), .int (nI nr), .ref 3] (a_T_eventKind (kOf G (va_up ad (272 + 3 * nr) q_60) (272 + 3 * nr + 1)) (272 + 3 * nr + 1) (m_up μ1 1 1 0) (fun k _ => decide (k < 272 + 3 * nr)) rfl (by omega)) (gv_V wm_C_59 wi_T_eventKind wl_T_eventKind wn_T kw_T_eventKind) rfl (by decide +kernel) (by omega) rfl rfl rfl ⟨Nat.le_of_ble_eq_true rfl, Nat.le_of_ble_eq_true rfl⟩ ⟨show (1 : Nat) ≤ 3 by omega, show (7 : Nat) ≤ 17 by omega⟩ (Nat.le_of_ble_eq_true rfl) (List.forall_mem_cons.mpr ⟨trivial, (List.forall_mem_cons.mpr ⟨(Or.inl (show (0 : Nat) < 272 + 3 * nr + 1 by omega)), (fun _ h => nomatch h)⟩)⟩) (List.forall_mem_cons.mpr ⟨(Or.inl (show (272 + 3 * nr : Nat) < 272 + 3 * nr + 1 by omega)), (List.forall_mem_cons.mpr ⟨(Or.inl (show (272 + 3 * nr : Nat) < 272 + 3 * nr + 1 by omega)), (List.forall_mem_cons.mpr ⟨trivial, (List.forall_mem_cons.mpr ⟨(Or.inl (show (3 : Nat) < 272 + 3 * nr + 1 by omega)), (fun _ h => nomatch h)⟩)⟩)⟩)⟩) d_C_rule_68 rfl (fun v μ2 β2 ad_68 N2 hq had_68 => ?_)
      obtain ⟨rfl, hm, hb2, hn2⟩ := hq
      rw [hm, hb2, hn2]
      clear hm hb2 hn2
      show AW G (rmA 7 3 17) 2 (1, 7, ad_68, 272 + 3 * nr + 1, (fun k _ => decide (k < 272 + 3 * nr))) 71 [(1, .int (bi (rd (sgA μ) (tlN μ)).1)), (0, .ref 0)] [.int ((m_up μ1 1 1 0) 1 3), .ref (272 + 3 * nr), .ref (272 + 3 * nr), .int (nI nr), .ref 3] (m_up μ1 1 1 0)
      refine AW.val (w := .int (nI (rd (sgA μ) (tlN μ)).2.2.1)) (congrArg Value.int ((m_up_ne (by omega)).trans h3)) ?_
      refine AW.aload_n X (pc := 71) 1 rfl rfl d_C_rule_71 ?_
      refine AW.get X (pc := 72) (k := 0) (ci := 4) (j := 0) (v := .ref 1) (by omega) rfl rfl in_C (by decide) wf_C_10 rfl (by rw [decide_eq_true (show 0 < 272 + 3 * nr by omega)]; rfl) d_C_rule_72 ?_
      refine AW.callVA X hA0 (pc := 75) (b := 1) (ci := 2) (nA := 0) (mc := 0) (ms := 0) [] [.int (nI (rd (sgA μ) (tlN μ)).2.2.1), .ref (272 + 3 * nr), .ref (272 + 3 * nr), .int (nI nr), .ref 3] (a_T_years (kOf G ad_68 (272 + 3 * nr + 1)) (272 + 3 * nr + 1) (m_up μ1 1 1 0) (fun k _ => decide (k < 272 + 3 * nr)) rfl (by omega)) (gv_V wm_C_62 wi_T_years wl_T_years wn_T kw_T_years) rfl (by decide +kernel) (by omega) rfl rfl rfl ⟨Nat.le_of_ble_eq_true rfl, Nat.le_of_ble_eq_true rfl⟩ ⟨show (1 : Nat) ≤ 3 by omega, show (7 : Nat) ≤ 17 by omega⟩ (Nat.le_of_ble_eq_true rfl) (List.forall_mem_cons.mpr ⟨trivial, (List.forall_mem_cons.mpr ⟨(Or.inl (show (0 : Nat) < 272 + 3 * nr + 1 by omega)), (fun _ h => nomatch h)⟩)⟩) (List.forall_mem_cons.mpr ⟨trivial, (List.forall_mem_cons.mpr ⟨(Or.inl (show (272 + 3 * nr : Nat) < 272 + 3 * nr + 1 by omega)), (List.forall_mem_cons.mpr ⟨(Or.inl (show (272 + 3 * nr : Nat) < 272 + 3 * nr + 1 by omega)), (List.forall_mem_cons.mpr ⟨trivial, (List.forall_mem_cons.mpr ⟨(Or.inl (show (3 : Nat) < 272 + 3 * nr + 1 by omega)), (fun _ h => nomatch h)⟩)⟩)⟩)⟩)⟩) d_C_rule_75 rfl (fun v μ2 β2 ad_75 N2 hq had_75 => ?_)
      obtain ⟨rfl, hm, hb2, hn2⟩ := hq
      rw [hm, hb2, hn2]
      clear hm hb2 hn2
      show AW G (rmA 7 3 17) 2 (1, 7, ad_75, 272 + 3 * nr + 1, (fun k _ => decide (k < 272 + 3 * nr))) 78 [(1, .int (bi (rd (sgA μ) (tlN μ)).1)), (0, .ref 0)] [.int ((m_up μ1 1 1 0) 1 4), .int (nI (rd (sgA μ) (tlN μ)).2.2.1), .ref (272 + 3 * nr), .ref (272 + 3 * nr), .int (nI nr), .ref 3] (m_up μ1 1 1 0)
      refine AW.val (w := .int ((rd (sgA μ) (tlN μ)).2.2.2.1)) (congrArg Value.int ((m_up_ne (by omega)).trans h4)) ?_
      refine AW.aload_n X (pc := 78) 1 rfl rfl d_C_rule_78 ?_
      refine AW.get X (pc := 79) (k := 0) (ci := 4) (j := 0) (v := .ref 1) (by omega) rfl rfl in_C (by decide) wf_C_10 rfl (by rw [decide_eq_true (show 0 < 272 + 3 * nr by omega)]; rfl) d_C_rule_79 ?_
      refine AW.callVA X hA0 (pc := 82) (b := 1) (ci := 2) (nA := 0) (mc := 0) (ms := 0) [] [.int ((rd (sgA μ) (tlN μ)).2.2.2.1), .int (nI (rd (sgA μ) (tlN μ)).2.2.1), .ref (272 + 3 * nr), .ref (272 + 3 * nr), .int (nI nr), .ref 3] (a_T_action (kOf G ad_75 (272 + 3 * nr + 1)) (272 + 3 * nr + 1) (m_up μ1 1 1 0) (fun k _ => decide (k < 272 + 3 * nr)) rfl (by omega)) (gv_V wm_C_65 wi_T_action wl_T_action wn_T kw_T_action) rfl (by decide +kernel) (by omega) rfl rfl rfl ⟨Nat.le_of_ble_eq_true rfl, Nat.le_of_ble_eq_true rfl⟩ ⟨show (1 : Nat) ≤ 3 by omega, show (7 : Nat) ≤ 17 by omega⟩ (Nat.le_of_ble_eq_true rfl) (List.forall_mem_cons.mpr ⟨trivial, (List.forall_mem_cons.mpr ⟨(Or.inl (show (0 : Nat) < 272 + 3 * nr + 1 by omega)), (fun _ h => nomatch h)⟩)⟩) (List.forall_mem_cons.mpr ⟨trivial, (List.forall_mem_cons.mpr ⟨trivial, (List.forall_mem_cons.mpr ⟨(Or.inl (show (272 + 3 * nr : Nat) < 272 + 3 * nr + 1 by omega)), (List.forall_mem_cons.mpr ⟨(Or.inl (show (272 + 3 * nr : Nat) < 272 + 3 * nr + 1 by omega)), (List.forall_mem_cons.mpr ⟨trivial, (List.forall_mem_cons.mpr ⟨(Or.inl (show (3 : Nat) < 272 + 3 * nr + 1 by omega)), (fun _ h => nomatch h)⟩)⟩)⟩)⟩)⟩)⟩) d_C_rule_82 rfl (fun v μ2 β2 ad_82 N2 hq had_82 => ?_)
      obtain ⟨rfl, hm, hb2, hn2⟩ := hq
      rw [hm, hb2, hn2]
      clear hm hb2 hn2
      show AW G (rmA 7 3 17) 2 (1, 7, ad_82, 272 + 3 * nr + 1, (fun k _ => decide (k < 272 + 3 * nr))) 85 [(1, .int (bi (rd (sgA μ) (tlN μ)).1)), (0, .ref 0)] [.int ((m_up μ1 1 1 0) 1 5), .int ((rd (sgA μ) (tlN μ)).2.2.2.1), .int (nI (rd (sgA μ) (tlN μ)).2.2.1), .ref (272 + 3 * nr), .ref (272 + 3 * nr), .int (nI nr), .ref 3] (m_up μ1 1 1 0)
      refine AW.val (w := .int (nI (rd (sgA μ) (tlN μ)).2.2.2.2)) (congrArg Value.int ((m_up_ne (by omega)).trans h5)) ?_
      refine AW.callIA X hA0 (pc := 85) (ret := none) (b := 272 + 3 * nr) (nA := 3) [.int (nI (rd (sgA μ) (tlN μ)).2.2.1), .int ((rd (sgA μ) (tlN μ)).2.2.2.1), .int (nI (rd (sgA μ) (tlN μ)).2.2.2.2)] [.ref (272 + 3 * nr), .int (nI nr), .ref 3] (c_R_init (kOf G ad_82 (272 + 3 * nr + 1)) nr (nI (rd (sgA μ) (tlN μ)).2.2.1) (rd (sgA μ) (tlN μ)).2.2.2.1 (nI (rd (sgA μ) (tlN μ)).2.2.2.2) (m_up μ1 1 1 0) (fun k _ => decide (k < 272 + 3 * nr)) rfl (by omega) (fun k j h => hz1 k j (by omega)) (fun k j h => decide_eq_false (by omega))) (gv_I kw_R_init) rfl (by decide +kernel) rfl wn_R wm_C_68 wi_R_init rfl ⟨Nat.le_of_ble_eq_true rfl, Nat.le_of_ble_eq_true rfl⟩ ⟨show (1 : Nat) + 2 ≤ 3 by omega, show (7 : Nat) + 10 ≤ 17 by omega⟩ (Nat.le_of_ble_eq_true rfl) (List.forall_mem_cons.mpr ⟨trivial, (List.forall_mem_cons.mpr ⟨(Or.inl (show (0 : Nat) < 272 + 3 * nr + 1 by omega)), (fun _ h => nomatch h)⟩)⟩) (List.forall_mem_cons.mpr ⟨(Or.inl (show (272 + 3 * nr : Nat) < 272 + 3 * nr + 1 by omega)), (List.forall_mem_cons.mpr ⟨trivial, (List.forall_mem_cons.mpr ⟨(Or.inl (show (3 : Nat) < 272 + 3 * nr + 1 by omega)), (fun _ h => nomatch h)⟩)⟩)⟩) d_C_rule_85 rfl (fun v μ2 β2 adR N2 hq hadR => ?_)
      obtain ⟨rfl, hm, hb2, hn2⟩ := hq
      rw [hm, hb2, hn2]
      clear hm hb2 hn2
      show AW G (rmA 7 3 17) 2 (3, 17, adR, 272 + 3 * nr + 3, (m_bu (m_bu (fun k _ => decide (k < 272 + 3 * nr)) (272 + 3 * nr) 3) (272 + 3 * nr) 4)) 88 [(1, .int (bi (rd (sgA μ) (tlN μ)).1)), (0, .ref 0)] [.ref (272 + 3 * nr), .int (nI nr), .ref 3] (m_up (m_up (m_up (m_up μ1 1 1 0) (272 + 3 * nr) 0 (nI (rd (sgA μ) (tlN μ)).2.2.1)) (272 + 3 * nr) 1 (rd (sgA μ) (tlN μ)).2.2.2.1) (272 + 3 * nr) 2 (nI (rd (sgA μ) (tlN μ)).2.2.2.2))
      refine AW.aastN X (pc := 88) (k := 3) (v := 272 + 3 * nr) (t := 2) (n := 20) (ci := 1) (j := nr) (by omega) (by omega) (by omega) rfl rfl (sh_r _) rfl (by omega) (by decide) d_C_rule_88 ?_
      refine AW.aload_n X (pc := 89) 1 rfl rfl d_C_rule_89 ?_
      refine AW.dup X (pc := 90) rfl d_C_rule_90 ?_
      refine AW.get X (pc := 91) (k := 0) (ci := 4) (j := 2) (v := .int ((m_up (m_up (m_up (m_up (m_up μ1 1 1 0) (272 + 3 * nr) 0 (nI (rd (sgA μ) (tlN μ)).2.2.1)) (272 + 3 * nr) 1 (rd (sgA μ) (tlN μ)).2.2.2.1) (272 + 3 * nr) 2 (nI (rd (sgA μ) (tlN μ)).2.2.2.2)) 3 nr (nI (272 + 3 * nr + 1))) 0 2)) (by omega) rfl rfl in_C (by decide) wf_C_55 rfl rfl d_C_rule_91 ?_
      refine AW.val (w := .int (nI nr)) (congrArg Value.int ((congrFun (m_up_row (by decide)) 2).trans ((congrFun (m_up_row (by omega)) 2).trans ((congrFun (m_up_row (by omega)) 2).trans ((congrFun (m_up_row (by omega)) 2).trans ((congrFun (m_up_row (by decide)) 2).trans ((hTS 0 2 (Or.inl (by decide))).trans hI.rc))))))) ?_
      refine AW.iconst X (pc := 94) (v := 1) (by decide) d_C_rule_94 ?_
      refine AW.iadd X (pc := 95) d_C_rule_95 ?_
      refine AW.val (w := .int (nI (nr + 1))) (congrArg Value.int (nI_add nr 1)) ?_
      refine AW.put X (pc := 96) (k := 0) (ci := 4) (j := 2) (x := nI (nr + 1)) (ty := .int) ft_C (by omega) rfl rfl in_C ft_C_ok n_C (by decide) wf_C_55 rfl rfl rfl rfl rfl d_C_rule_96 ?_
      refine AW.aload_n X (pc := 99) 1 rfl rfl d_C_rule_99 ?_
      refine AW.get X (pc := 100) (k := 0) (ci := 4) (j := 2) (v := .int ((m_up (m_up (m_up (m_up (m_up (m_up μ1 1 1 0) (272 + 3 * nr) 0 (nI (rd (sgA μ) (tlN μ)).2.2.1)) (272 + 3 * nr) 1 (rd (sgA μ) (tlN μ)).2.2.2.1) (272 + 3 * nr) 2 (nI (rd (sgA μ) (tlN μ)).2.2.2.2)) 3 nr (nI (272 + 3 * nr + 1))) 0 2 (nI (nr + 1))) 0 2)) (by omega) rfl rfl in_C (by decide) wf_C_55 rfl rfl d_C_rule_100 ?_
      refine AW.val (w := .int (nI (nr + 1))) (congrArg Value.int (m_up_self _ _ _ _)) ?_
      refine AW.iconst X (pc := 103) (v := 1) (by decide) d_C_rule_103 ?_
      refine AW.isub X (pc := 104) d_C_rule_104 ?_
      refine AW.beta (β2 := fb) (fun k ci j o hk hs hf => ?_) ?_
      · by_cases hkr : k = 272 + 3 * nr
        · subst hkr
          rw [sh_r] at hs
          cases hs
          rcases fk1 hf with rfl | rfl
          · exact ((m_bu_ne (by decide)).trans m_bu_self).symm
          · exact m_bu_self.symm
        · rw [m_bu_row hkr, m_bu_row hkr]
          rcases Nat.lt_or_ge k (272 + 3 * nr) with h | h
          · exact (decide_eq_true h).symm
          · rcases (show k = 272 + 3 * nr + 1 ∨ k = 272 + 3 * nr + 2 by omega) with rfl | rfl
            · rw [sh_rd] at hs; cases hs
            · rw [sh_ry] at hs; cases hs
      exact hret 105 _ _ _ _ _ _ _ _ d_C_rule_105 (Nat.le_of_ble_eq_true rfl) (Nat.le_of_ble_eq_true rfl) (fun k hk => by rw [hadR k (by omega), had_82 k (by omega), had_75 k (by omega), had_68 k (by omega), va_up_ne _ _ (by omega)]) (by rw [if_neg (by rw [hb]; exact b_tf), if_neg (by omega)]; exact ⟨by rw [nI_pred], rfl, rfl, μ1, hTS, rfl⟩)
    · rw [i_lt (nI_toInt (show nr < 2 ^ 31 by omega)) (show (20 : Int32).toInt = 20 by decide)] at c_46
      refine AW.bipush X (pc := 49) (v := -4) (by decide) d_C_rule_49 ?_
      exact hret 51 _ _ _ _ _ _ _ _ d_C_rule_51 (Nat.zero_le _) (Nat.zero_le _) (fun _ _ => rfl) (by rw [if_neg (by rw [hb]; exact b_tf), if_pos (by omega)]; exact ⟨rfl, rfl, rfl, μ1, hTS, rfl⟩)
