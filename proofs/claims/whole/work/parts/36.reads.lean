theorem b_tf : ¬ true = false := by decide
theorem rlN_4 {μ : Mu} {q : Nat} {x : Int32} (h : μ 250 4 = x) : rlN μ q 250 4 = x := (m_up_ne (by omega)).trans h
theorem rlW_4 {μ : Mu} {q nr ek ac : Nat} {yr x : Int32} (h : μ 250 4 = x) : rlW μ q nr ek yr ac 250 4 = x := by
  unfold rlW
  rw [m_up_ne (by omega), m_up_ne (by omega), m_up_ne (by omega), m_up_ne (by omega), m_up_ne (by omega)]
  exact h
theorem rd_le (σ : Mu) (h : tlN σ ≤ 40) : (rd (sgA σ) (tlN σ)).2.1 ≤ 40 := by
  have h1 := wE_tl σ 41 0 (Nat.zero_le _)
  unfold rd
  split
  · exact Nat.zero_le _
  · split
    · show wE (sgA σ) 41 0 ≤ 40
      omega
    · rename_i k2
      have k2 := Decidable.not_not.mp k2
      have h2 : wE (sgA σ) 41 0 + 1 ≤ tlN σ := by
        rcases Nat.lt_or_ge (wE (sgA σ) 41 0) (tlN σ) with q | q
        · exact q
        · rw [sgA_out q] at k2; exact absurd k2 (by decide)
      have h3 := dg_tl σ 3 (wE (sgA σ) 41 0 + 1) 0 h2
      split
      · show wE (sgA σ) 41 0 + 1 ≤ 40
        omega
      · split
        · show (dgR (sgA σ) 3 (wE (sgA σ) 41 0 + 1) 0).1 ≤ 40
          omega
        · rename_i k4
          have k4 := Decidable.not_not.mp k4
          have h4 : (dgR (sgA σ) 3 (wE (sgA σ) 41 0 + 1) 0).1 + 1 ≤ tlN σ := by
            rcases Nat.lt_or_ge (dgR (sgA σ) 3 (wE (sgA σ) 41 0 + 1) 0).1 (tlN σ) with q | q
            · exact q
            · rw [sgA_out q] at k4; exact absurd k4 (by decide)
          have h5 := wE_tl σ 41 _ h4
          split
          · show (dgR (sgA σ) 3 (wE (sgA σ) 41 0 + 1) 0).1 + 1 ≤ 40
            omega
          · split
            · show wE (sgA σ) 41 ((dgR (sgA σ) 3 (wE (sgA σ) 41 0 + 1) 0).1 + 1) ≤ 40
              omega
            · exact h
set_option maxHeartbeats 4000000 in
set_option maxRecDepth 100000 in
theorem c_M_reads (K : KTy) (σ : Mu) (nr : Nat)  (μ : Mu) (hN : 272 ≤ KN K) (hI : CI σ nr) (hM : MR σ μ nr) (hB : BR σ) : CT K y_M_reads (k_M_reads :: GT) 3 [.ref 250] μ (fun v μ2 => if (rd (sgA σ) (tlN σ)).1 = false then v = some (.int (nI (rd (sgA σ) (tlN σ)).2.1)) ∧ ∃ q, μ2 = rlN μ q else v = some (.int (-1)) ∧ ∃ q, μ2 = if nr = 20 then rlN μ q else rlW μ q nr (rd (sgA σ) (tlN σ)).2.2.1 (rd (sgA σ) (tlN σ)).2.2.2.1 (rd (sgA σ) (tlN σ)).2.2.2.2) := by
  refine CT.int (cc := b_M_reads) (maxL := 5) (by decide) rfl rfl (Nat.le_of_ble_eq_true rfl) ?_
  intro G ad N hK X hret
  subst hK
  have hN : 272 ≤ N := hN
  have htl := hI.tl.2
  have hnr := hI.nr
  show AW G (rmD 3) 5 (0, 0, ad, N, fb) 0 [(0, .ref 250)] [] μ
  have hE1 := wE_tl σ 41 0 (Nat.zero_le _)
  have hev := evK_le (sgA σ) 0 (wE (sgA σ) 41 0)
  have hac := acK_le (sgA σ) ((dgR (sgA σ) 3 ((wE (sgA σ) 41 0) + 1) 0).1 + 1) (wE (sgA σ) 41 ((dgR (sgA σ) 3 ((wE (sgA σ) 41 0) + 1) 0).1 + 1))
  obtain ⟨yy, hy9, hyy⟩ := dg_val (sgA σ) ((wE (sgA σ) 41 0) + 1)
  by_cases k1 : evK (sgA σ) 0 (wE (sgA σ) 41 0) = 4
  · refine AW.aload_n X (pc := 0) 0 rfl rfl d_M_reads_0 ?_
    refine AW.iconst X (pc := 1) (v := 0) (by decide) d_M_reads_1 ?_
    refine AW.put X (pc := 2) (k := 250) (ci := 5) (j := 3) (x := 0) (ty := .int) ft_M (by omega) rfl rfl in_M ft_M_ok n_M (by decide) wf_M_87 rfl rfl rfl rfl rfl d_M_reads_2 ?_
    refine AW.aload_n X (pc := 5) 0 rfl rfl d_M_reads_5 ?_
    refine AW.callV X (pc := 6) (b := 250) (ci := 5) (nA := 0) [] [] (c_M_word (kOf G ad N) σ nr 0 (m_up μ 250 3 0) hN hI (hM.at 0) hB ((m_up_self _ _ _ _).trans nI_0.symm) (Nat.zero_le _)) (gv_V wm_M_124 wi_M_word wl_M_word wn_M kw_M_word) rfl (by decide +kernel) rfl (by omega) rfl rfl ⟨Nat.le_of_ble_eq_true rfl, Nat.le_of_ble_eq_true rfl⟩ ⟨Nat.zero_le _, Nat.zero_le _⟩ (Nat.le_of_ble_eq_true rfl) d_M_reads_6 rfl (fun v μ2 hq => ?_)
    obtain ⟨rfl, hm⟩ := hq
    rw [m_up_up] at hm
    rw [hm]
    clear hm
    show AW G (rmD 3) 5 (0, 0, ad, N, fb) 9 [(0, .ref 250)] [.long (hv (sgA σ) 0 ((wE (sgA σ) 41 0) - 0))] (m_up μ 250 3 (nI (wE (sgA σ) 41 0)))
    refine AW.callS X (pc := 9) (nA := 1) [.long (hv (sgA σ) 0 ((wE (sgA σ) 41 0) - 0))] [] (c_M_eventJ (kOf G ad N) (hv (sgA σ) 0 ((wE (sgA σ) 41 0) - 0)) (m_up μ 250 3 (nI (wE (sgA σ) 41 0))) hN) (gv_S wm_M_127 ws_M_eventJ wn_M kw_M_eventJ) rfl (by decide +kernel) rfl ⟨Nat.le_of_ble_eq_true rfl, Nat.le_of_ble_eq_true rfl⟩ ⟨Nat.zero_le _, Nat.zero_le _⟩ (Nat.le_of_ble_eq_true rfl) d_M_reads_9 rfl (fun v μ2 hq => ?_)
    rw [evJ_eq (wE_ge _ _ _) (fun k hk => wE_small 41 0 k hk), if_pos k1] at hq
    obtain ⟨rfl, hm⟩ := hq
    rw [hm]
    clear hm
    show AW G (rmD 3) 5 (0, 0, ad, N, fb) 12 [(0, .ref 250)] [.int (-1)] (m_up μ 250 3 (nI (wE (sgA σ) 41 0)))
    refine AW.istore_n X (pc := 12) (lv2 := [(1, .int (-1)), (0, .ref 250)]) rfl d_M_reads_12 (by decide) rfl ?_
    refine AW.iload_n X (pc := 13) 0 rfl rfl d_M_reads_13 ?_
    refine AW.if_ge X (pc := 14) 19 d_M_reads_14 (by decide) (fun c_14 => absurd c_14 (by rw [i_le (show (0 : Int32).toInt = 0 by decide) (show (-1 : Int32).toInt = -1 by decide)]; omega)) (fun c_14 => ?_)
    refine AW.iconst X (pc := 17) (v := 0) (by decide) d_M_reads_17 ?_
    have hrd : rd (sgA σ) (tlN σ) = (false, 0, 0, 0, 0) := by rw [rd, if_pos k1]
    exact hret 18 _ _ _ d_M_reads_18 (by rw [hrd, if_pos rfl]; exact ⟨by rw [nI_0], _, rfl⟩)
  by_cases k2 : (sgA σ) (wE (sgA σ) 41 0) = 32
  rotate_left
  · refine AW.aload_n X (pc := 0) 0 rfl rfl d_M_reads_0 ?_
    refine AW.iconst X (pc := 1) (v := 0) (by decide) d_M_reads_1 ?_
    refine AW.put X (pc := 2) (k := 250) (ci := 5) (j := 3) (x := 0) (ty := .int) ft_M (by omega) rfl rfl in_M ft_M_ok n_M (by decide) wf_M_87 rfl rfl rfl rfl rfl d_M_reads_2 ?_
    refine AW.aload_n X (pc := 5) 0 rfl rfl d_M_reads_5 ?_
    refine AW.callV X (pc := 6) (b := 250) (ci := 5) (nA := 0) [] [] (c_M_word (kOf G ad N) σ nr 0 (m_up μ 250 3 0) hN hI (hM.at 0) hB ((m_up_self _ _ _ _).trans nI_0.symm) (Nat.zero_le _)) (gv_V wm_M_124 wi_M_word wl_M_word wn_M kw_M_word) rfl (by decide +kernel) rfl (by omega) rfl rfl ⟨Nat.le_of_ble_eq_true rfl, Nat.le_of_ble_eq_true rfl⟩ ⟨Nat.zero_le _, Nat.zero_le _⟩ (Nat.le_of_ble_eq_true rfl) d_M_reads_6 rfl (fun v μ2 hq => ?_)
    obtain ⟨rfl, hm⟩ := hq
    rw [m_up_up] at hm
    rw [hm]
    clear hm
    show AW G (rmD 3) 5 (0, 0, ad, N, fb) 9 [(0, .ref 250)] [.long (hv (sgA σ) 0 ((wE (sgA σ) 41 0) - 0))] (m_up μ 250 3 (nI (wE (sgA σ) 41 0)))
    refine AW.callS X (pc := 9) (nA := 1) [.long (hv (sgA σ) 0 ((wE (sgA σ) 41 0) - 0))] [] (c_M_eventJ (kOf G ad N) (hv (sgA σ) 0 ((wE (sgA σ) 41 0) - 0)) (m_up μ 250 3 (nI (wE (sgA σ) 41 0))) hN) (gv_S wm_M_127 ws_M_eventJ wn_M kw_M_eventJ) rfl (by decide +kernel) rfl ⟨Nat.le_of_ble_eq_true rfl, Nat.le_of_ble_eq_true rfl⟩ ⟨Nat.zero_le _, Nat.zero_le _⟩ (Nat.le_of_ble_eq_true rfl) d_M_reads_9 rfl (fun v μ2 hq => ?_)
    rw [evJ_eq (wE_ge _ _ _) (fun k hk => wE_small 41 0 k hk), if_neg k1] at hq
    obtain ⟨rfl, hm⟩ := hq
    rw [hm]
    clear hm
    show AW G (rmD 3) 5 (0, 0, ad, N, fb) 12 [(0, .ref 250)] [.int (nI (evK (sgA σ) 0 (wE (sgA σ) 41 0)))] (m_up μ 250 3 (nI (wE (sgA σ) 41 0)))
    refine AW.istore_n X (pc := 12) (lv2 := [(1, .int (nI (evK (sgA σ) 0 (wE (sgA σ) 41 0)))), (0, .ref 250)]) rfl d_M_reads_12 (by decide) rfl ?_
    refine AW.iload_n X (pc := 13) 0 rfl rfl d_M_reads_13 ?_
    refine AW.if_ge X (pc := 14) 19 d_M_reads_14 (by decide) (fun c_14 => ?_) (fun c_14 => absurd c_14 (by rw [i_le (show (0 : Int32).toInt = 0 by decide) (nI_toInt (show evK (sgA σ) 0 (wE (sgA σ) 41 0) < 2 ^ 31 by omega))]; omega))
    refine AW.aload_n X (pc := 19) 1 rfl rfl d_M_reads_19 ?_
    refine AW.callV X (pc := 20) (b := 250) (ci := 5) (nA := 0) [] [] (c_M_space (kOf G ad N) σ nr (wE (sgA σ) 41 0) (m_up μ 250 3 (nI (wE (sgA σ) 41 0))) hN hI (hM.at (nI (wE (sgA σ) 41 0))) hB (m_up_self _ _ _ _) hE1) (gv_V wm_M_131 wi_M_space wl_M_space wn_M kw_M_space) rfl (by decide +kernel) rfl (by omega) rfl rfl ⟨Nat.le_of_ble_eq_true rfl, Nat.le_of_ble_eq_true rfl⟩ ⟨Nat.zero_le _, Nat.zero_le _⟩ (Nat.le_of_ble_eq_true rfl) d_M_reads_20 rfl (fun v μ2 hq => ?_)
    rw [if_neg k2] at hq
    obtain ⟨rfl, hm⟩ := hq
    rw [hm]
    clear hm
    show AW G (rmD 3) 5 (0, 0, ad, N, fb) 23 [(1, .int (nI (evK (sgA σ) 0 (wE (sgA σ) 41 0)))), (0, .ref 250)] [.int 0] (m_up μ 250 3 (nI (wE (sgA σ) 41 0)))
    refine AW.if_ne X (pc := 23) 31 d_M_reads_23 (by decide) (fun c_23 => absurd c_23 (by decide)) (fun c_23 => ?_)
    refine AW.aload_n X (pc := 26) 1 rfl rfl d_M_reads_26 ?_
    refine AW.get X (pc := 27) (k := 250) (ci := 5) (j := 3) (v := .int ((m_up μ 250 3 (nI (wE (sgA σ) 41 0))) 250 3)) (by omega) rfl rfl in_M (by decide) wf_M_87 rfl rfl d_M_reads_27 ?_
    refine AW.val (w := .int (nI (wE (sgA σ) 41 0))) (congrArg Value.int (m_up_self _ _ _ _)) ?_
    have hrd : rd (sgA σ) (tlN σ) = (false, (wE (sgA σ) 41 0), 0, 0, 0) := by rw [rd, if_neg k1, if_pos k2]
    exact hret 30 _ _ _ d_M_reads_30 (by rw [hrd, if_pos rfl]; exact ⟨by rfl, _, rfl⟩)
  have hE1s : (wE (sgA σ) 41 0) + 1 ≤ tlN σ := by
    rcases Nat.lt_or_ge (wE (sgA σ) 41 0) (tlN σ) with h | h
    · exact h
    · have q := k2; rw [sgA_out h] at q; exact absurd q (by decide)
  have hDD := dg_tl σ 3 ((wE (sgA σ) 41 0) + 1) 0 hE1s
  by_cases k3 : (dgR (sgA σ) 3 ((wE (sgA σ) 41 0) + 1) 0).1 = (wE (sgA σ) 41 0) + 1
  · refine AW.aload_n X (pc := 0) 0 rfl rfl d_M_reads_0 ?_
    refine AW.iconst X (pc := 1) (v := 0) (by decide) d_M_reads_1 ?_
    refine AW.put X (pc := 2) (k := 250) (ci := 5) (j := 3) (x := 0) (ty := .int) ft_M (by omega) rfl rfl in_M ft_M_ok n_M (by decide) wf_M_87 rfl rfl rfl rfl rfl d_M_reads_2 ?_
    refine AW.aload_n X (pc := 5) 0 rfl rfl d_M_reads_5 ?_
    refine AW.callV X (pc := 6) (b := 250) (ci := 5) (nA := 0) [] [] (c_M_word (kOf G ad N) σ nr 0 (m_up μ 250 3 0) hN hI (hM.at 0) hB ((m_up_self _ _ _ _).trans nI_0.symm) (Nat.zero_le _)) (gv_V wm_M_124 wi_M_word wl_M_word wn_M kw_M_word) rfl (by decide +kernel) rfl (by omega) rfl rfl ⟨Nat.le_of_ble_eq_true rfl, Nat.le_of_ble_eq_true rfl⟩ ⟨Nat.zero_le _, Nat.zero_le _⟩ (Nat.le_of_ble_eq_true rfl) d_M_reads_6 rfl (fun v μ2 hq => ?_)
    obtain ⟨rfl, hm⟩ := hq
    rw [m_up_up] at hm
    rw [hm]
    clear hm
    show AW G (rmD 3) 5 (0, 0, ad, N, fb) 9 [(0, .ref 250)] [.long (hv (sgA σ) 0 ((wE (sgA σ) 41 0) - 0))] (m_up μ 250 3 (nI (wE (sgA σ) 41 0)))
    refine AW.callS X (pc := 9) (nA := 1) [.long (hv (sgA σ) 0 ((wE (sgA σ) 41 0) - 0))] [] (c_M_eventJ (kOf G ad N) (hv (sgA σ) 0 ((wE (sgA σ) 41 0) - 0)) (m_up μ 250 3 (nI (wE (sgA σ) 41 0))) hN) (gv_S wm_M_127 ws_M_eventJ wn_M kw_M_eventJ) rfl (by decide +kernel) rfl ⟨Nat.le_of_ble_eq_true rfl, Nat.le_of_ble_eq_true rfl⟩ ⟨Nat.zero_le _, Nat.zero_le _⟩ (Nat.le_of_ble_eq_true rfl) d_M_reads_9 rfl (fun v μ2 hq => ?_)
    rw [evJ_eq (wE_ge _ _ _) (fun k hk => wE_small 41 0 k hk), if_neg k1] at hq
    obtain ⟨rfl, hm⟩ := hq
    rw [hm]
    clear hm
    show AW G (rmD 3) 5 (0, 0, ad, N, fb) 12 [(0, .ref 250)] [.int (nI (evK (sgA σ) 0 (wE (sgA σ) 41 0)))] (m_up μ 250 3 (nI (wE (sgA σ) 41 0)))
    refine AW.istore_n X (pc := 12) (lv2 := [(1, .int (nI (evK (sgA σ) 0 (wE (sgA σ) 41 0)))), (0, .ref 250)]) rfl d_M_reads_12 (by decide) rfl ?_
    refine AW.iload_n X (pc := 13) 0 rfl rfl d_M_reads_13 ?_
    refine AW.if_ge X (pc := 14) 19 d_M_reads_14 (by decide) (fun c_14 => ?_) (fun c_14 => absurd c_14 (by rw [i_le (show (0 : Int32).toInt = 0 by decide) (nI_toInt (show evK (sgA σ) 0 (wE (sgA σ) 41 0) < 2 ^ 31 by omega))]; omega))
    refine AW.aload_n X (pc := 19) 1 rfl rfl d_M_reads_19 ?_
    refine AW.callV X (pc := 20) (b := 250) (ci := 5) (nA := 0) [] [] (c_M_space (kOf G ad N) σ nr (wE (sgA σ) 41 0) (m_up μ 250 3 (nI (wE (sgA σ) 41 0))) hN hI (hM.at (nI (wE (sgA σ) 41 0))) hB (m_up_self _ _ _ _) hE1) (gv_V wm_M_131 wi_M_space wl_M_space wn_M kw_M_space) rfl (by decide +kernel) rfl (by omega) rfl rfl ⟨Nat.le_of_ble_eq_true rfl, Nat.le_of_ble_eq_true rfl⟩ ⟨Nat.zero_le _, Nat.zero_le _⟩ (Nat.le_of_ble_eq_true rfl) d_M_reads_20 rfl (fun v μ2 hq => ?_)
    rw [if_pos k2] at hq
    obtain ⟨rfl, hm⟩ := hq
    rw [m_up_up] at hm
    rw [hm]
    clear hm
    show AW G (rmD 3) 5 (0, 0, ad, N, fb) 23 [(1, .int (nI (evK (sgA σ) 0 (wE (sgA σ) 41 0)))), (0, .ref 250)] [.int 1] (m_up μ 250 3 (nI ((wE (sgA σ) 41 0) + 1)))
    refine AW.if_ne X (pc := 23) 31 d_M_reads_23 (by decide) (fun c_23 => ?_) (fun c_23 => absurd c_23 (by decide))
    refine AW.aload_n X (pc := 31) 1 rfl rfl d_M_reads_31 ?_
    refine AW.callV X (pc := 32) (b := 250) (ci := 5) (nA := 0) [] [] (c_M_digits (kOf G ad N) σ nr ((wE (sgA σ) 41 0) + 1) (m_up μ 250 3 (nI ((wE (sgA σ) 41 0) + 1))) hN hI (hM.at (nI ((wE (sgA σ) 41 0) + 1))) hB (m_up_self _ _ _ _) hE1s) (gv_V wm_M_134 wi_M_digits wl_M_digits wn_M kw_M_digits) rfl (by decide +kernel) rfl (by omega) rfl rfl ⟨Nat.le_of_ble_eq_true rfl, Nat.le_of_ble_eq_true rfl⟩ ⟨Nat.zero_le _, Nat.zero_le _⟩ (Nat.le_of_ble_eq_true rfl) d_M_reads_32 rfl (fun v μ2 hq => ?_)
    rw [if_pos k3] at hq
    obtain ⟨rfl, hm⟩ := hq
    rw [m_up_up] at hm
    rw [hm]
    clear hm
    show AW G (rmD 3) 5 (0, 0, ad, N, fb) 35 [(1, .int (nI (evK (sgA σ) 0 (wE (sgA σ) 41 0)))), (0, .ref 250)] [.int (-1)] (m_up μ 250 3 (nI (dgR (sgA σ) 3 ((wE (sgA σ) 41 0) + 1) 0).1))
    refine AW.istore_n X (pc := 35) (lv2 := [(2, .int (-1)), (1, .int (nI (evK (sgA σ) 0 (wE (sgA σ) 41 0)))), (0, .ref 250)]) rfl d_M_reads_35 (by decide) rfl ?_
    refine AW.iload_n X (pc := 36) 0 rfl rfl d_M_reads_36 ?_
    refine AW.if_lt X (pc := 37) 47 d_M_reads_37 (by decide) (fun c_37 => ?_) (fun c_37 => absurd c_37 (by rw [i_lt (show (-1 : Int32).toInt = -1 by decide) (show (0 : Int32).toInt = 0 by decide)]; omega))
    refine AW.aload_n X (pc := 47) 2 rfl rfl d_M_reads_47 ?_
    refine AW.get X (pc := 48) (k := 250) (ci := 5) (j := 3) (v := .int ((m_up μ 250 3 (nI (dgR (sgA σ) 3 ((wE (sgA σ) 41 0) + 1) 0).1)) 250 3)) (by omega) rfl rfl in_M (by decide) wf_M_87 rfl rfl d_M_reads_48 ?_
    refine AW.val (w := .int (nI (dgR (sgA σ) 3 ((wE (sgA σ) 41 0) + 1) 0).1)) (congrArg Value.int (m_up_self _ _ _ _)) ?_
    have hrd : rd (sgA σ) (tlN σ) = (false, (wE (sgA σ) 41 0) + 1, 0, 0, 0) := by rw [rd, if_neg k1, if_neg (not_not_intro k2), if_pos k3]
    exact hret 51 _ _ _ d_M_reads_51 (by rw [hrd, if_pos rfl]; exact ⟨by rw [k3], _, rfl⟩)
  by_cases k4 : (sgA σ) (dgR (sgA σ) 3 ((wE (sgA σ) 41 0) + 1) 0).1 = 32
  rotate_left
  · refine AW.aload_n X (pc := 0) 0 rfl rfl d_M_reads_0 ?_
    refine AW.iconst X (pc := 1) (v := 0) (by decide) d_M_reads_1 ?_
    refine AW.put X (pc := 2) (k := 250) (ci := 5) (j := 3) (x := 0) (ty := .int) ft_M (by omega) rfl rfl in_M ft_M_ok n_M (by decide) wf_M_87 rfl rfl rfl rfl rfl d_M_reads_2 ?_
    refine AW.aload_n X (pc := 5) 0 rfl rfl d_M_reads_5 ?_
    refine AW.callV X (pc := 6) (b := 250) (ci := 5) (nA := 0) [] [] (c_M_word (kOf G ad N) σ nr 0 (m_up μ 250 3 0) hN hI (hM.at 0) hB ((m_up_self _ _ _ _).trans nI_0.symm) (Nat.zero_le _)) (gv_V wm_M_124 wi_M_word wl_M_word wn_M kw_M_word) rfl (by decide +kernel) rfl (by omega) rfl rfl ⟨Nat.le_of_ble_eq_true rfl, Nat.le_of_ble_eq_true rfl⟩ ⟨Nat.zero_le _, Nat.zero_le _⟩ (Nat.le_of_ble_eq_true rfl) d_M_reads_6 rfl (fun v μ2 hq => ?_)
    obtain ⟨rfl, hm⟩ := hq
    rw [m_up_up] at hm
    rw [hm]
    clear hm
    show AW G (rmD 3) 5 (0, 0, ad, N, fb) 9 [(0, .ref 250)] [.long (hv (sgA σ) 0 ((wE (sgA σ) 41 0) - 0))] (m_up μ 250 3 (nI (wE (sgA σ) 41 0)))
    refine AW.callS X (pc := 9) (nA := 1) [.long (hv (sgA σ) 0 ((wE (sgA σ) 41 0) - 0))] [] (c_M_eventJ (kOf G ad N) (hv (sgA σ) 0 ((wE (sgA σ) 41 0) - 0)) (m_up μ 250 3 (nI (wE (sgA σ) 41 0))) hN) (gv_S wm_M_127 ws_M_eventJ wn_M kw_M_eventJ) rfl (by decide +kernel) rfl ⟨Nat.le_of_ble_eq_true rfl, Nat.le_of_ble_eq_true rfl⟩ ⟨Nat.zero_le _, Nat.zero_le _⟩ (Nat.le_of_ble_eq_true rfl) d_M_reads_9 rfl (fun v μ2 hq => ?_)
    rw [evJ_eq (wE_ge _ _ _) (fun k hk => wE_small 41 0 k hk), if_neg k1] at hq
    obtain ⟨rfl, hm⟩ := hq
    rw [hm]
    clear hm
    show AW G (rmD 3) 5 (0, 0, ad, N, fb) 12 [(0, .ref 250)] [.int (nI (evK (sgA σ) 0 (wE (sgA σ) 41 0)))] (m_up μ 250 3 (nI (wE (sgA σ) 41 0)))
    refine AW.istore_n X (pc := 12) (lv2 := [(1, .int (nI (evK (sgA σ) 0 (wE (sgA σ) 41 0)))), (0, .ref 250)]) rfl d_M_reads_12 (by decide) rfl ?_
    refine AW.iload_n X (pc := 13) 0 rfl rfl d_M_reads_13 ?_
    refine AW.if_ge X (pc := 14) 19 d_M_reads_14 (by decide) (fun c_14 => ?_) (fun c_14 => absurd c_14 (by rw [i_le (show (0 : Int32).toInt = 0 by decide) (nI_toInt (show evK (sgA σ) 0 (wE (sgA σ) 41 0) < 2 ^ 31 by omega))]; omega))
    refine AW.aload_n X (pc := 19) 1 rfl rfl d_M_reads_19 ?_
    refine AW.callV X (pc := 20) (b := 250) (ci := 5) (nA := 0) [] [] (c_M_space (kOf G ad N) σ nr (wE (sgA σ) 41 0) (m_up μ 250 3 (nI (wE (sgA σ) 41 0))) hN hI (hM.at (nI (wE (sgA σ) 41 0))) hB (m_up_self _ _ _ _) hE1) (gv_V wm_M_131 wi_M_space wl_M_space wn_M kw_M_space) rfl (by decide +kernel) rfl (by omega) rfl rfl ⟨Nat.le_of_ble_eq_true rfl, Nat.le_of_ble_eq_true rfl⟩ ⟨Nat.zero_le _, Nat.zero_le _⟩ (Nat.le_of_ble_eq_true rfl) d_M_reads_20 rfl (fun v μ2 hq => ?_)
    rw [if_pos k2] at hq
    obtain ⟨rfl, hm⟩ := hq
    rw [m_up_up] at hm
    rw [hm]
    clear hm
    show AW G (rmD 3) 5 (0, 0, ad, N, fb) 23 [(1, .int (nI (evK (sgA σ) 0 (wE (sgA σ) 41 0)))), (0, .ref 250)] [.int 1] (m_up μ 250 3 (nI ((wE (sgA σ) 41 0) + 1)))
    refine AW.if_ne X (pc := 23) 31 d_M_reads_23 (by decide) (fun c_23 => ?_) (fun c_23 => absurd c_23 (by decide))
    refine AW.aload_n X (pc := 31) 1 rfl rfl d_M_reads_31 ?_
    refine AW.callV X (pc := 32) (b := 250) (ci := 5) (nA := 0) [] [] (c_M_digits (kOf G ad N) σ nr ((wE (sgA σ) 41 0) + 1) (m_up μ 250 3 (nI ((wE (sgA σ) 41 0) + 1))) hN hI (hM.at (nI ((wE (sgA σ) 41 0) + 1))) hB (m_up_self _ _ _ _) hE1s) (gv_V wm_M_134 wi_M_digits wl_M_digits wn_M kw_M_digits) rfl (by decide +kernel) rfl (by omega) rfl rfl ⟨Nat.le_of_ble_eq_true rfl, Nat.le_of_ble_eq_true rfl⟩ ⟨Nat.zero_le _, Nat.zero_le _⟩ (Nat.le_of_ble_eq_true rfl) d_M_reads_32 rfl (fun v μ2 hq => ?_)
    rw [if_neg k3, hyy] at hq
    obtain ⟨rfl, hm⟩ := hq
    rw [m_up_up] at hm
    rw [hm]
    clear hm
    show AW G (rmD 3) 5 (0, 0, ad, N, fb) 35 [(1, .int (nI (evK (sgA σ) 0 (wE (sgA σ) 41 0)))), (0, .ref 250)] [.int (nI yy)] (m_up μ 250 3 (nI (dgR (sgA σ) 3 ((wE (sgA σ) 41 0) + 1) 0).1))
    refine AW.istore_n X (pc := 35) (lv2 := [(2, .int (nI yy)), (1, .int (nI (evK (sgA σ) 0 (wE (sgA σ) 41 0)))), (0, .ref 250)]) rfl d_M_reads_35 (by decide) rfl ?_
    refine AW.iload_n X (pc := 36) 0 rfl rfl d_M_reads_36 ?_
    refine AW.if_lt X (pc := 37) 47 d_M_reads_37 (by decide) (fun c_37 => absurd c_37 (by rw [i_lt (nI_toInt (show yy < 2 ^ 31 by omega)) (show (0 : Int32).toInt = 0 by decide)]; omega)) (fun c_37 => ?_)
    refine AW.aload_n X (pc := 40) 2 rfl rfl d_M_reads_40 ?_
    refine AW.callV X (pc := 41) (b := 250) (ci := 5) (nA := 0) [] [] (c_M_space (kOf G ad N) σ nr (dgR (sgA σ) 3 ((wE (sgA σ) 41 0) + 1) 0).1 (m_up μ 250 3 (nI (dgR (sgA σ) 3 ((wE (sgA σ) 41 0) + 1) 0).1)) hN hI (hM.at (nI (dgR (sgA σ) 3 ((wE (sgA σ) 41 0) + 1) 0).1)) hB (m_up_self _ _ _ _) hDD) (gv_V wm_M_131 wi_M_space wl_M_space wn_M kw_M_space) rfl (by decide +kernel) rfl (by omega) rfl rfl ⟨Nat.le_of_ble_eq_true rfl, Nat.le_of_ble_eq_true rfl⟩ ⟨Nat.zero_le _, Nat.zero_le _⟩ (Nat.le_of_ble_eq_true rfl) d_M_reads_41 rfl (fun v μ2 hq => ?_)
    rw [if_neg k4] at hq
    obtain ⟨rfl, hm⟩ := hq
    rw [hm]
    clear hm
    show AW G (rmD 3) 5 (0, 0, ad, N, fb) 44 [(2, .int (nI yy)), (1, .int (nI (evK (sgA σ) 0 (wE (sgA σ) 41 0)))), (0, .ref 250)] [.int 0] (m_up μ 250 3 (nI (dgR (sgA σ) 3 ((wE (sgA σ) 41 0) + 1) 0).1))
    refine AW.if_ne X (pc := 44) 52 d_M_reads_44 (by decide) (fun c_44 => absurd c_44 (by decide)) (fun c_44 => ?_)
    refine AW.aload_n X (pc := 47) 2 rfl rfl d_M_reads_47 ?_
    refine AW.get X (pc := 48) (k := 250) (ci := 5) (j := 3) (v := .int ((m_up μ 250 3 (nI (dgR (sgA σ) 3 ((wE (sgA σ) 41 0) + 1) 0).1)) 250 3)) (by omega) rfl rfl in_M (by decide) wf_M_87 rfl rfl d_M_reads_48 ?_
    refine AW.val (w := .int (nI (dgR (sgA σ) 3 ((wE (sgA σ) 41 0) + 1) 0).1)) (congrArg Value.int (m_up_self _ _ _ _)) ?_
    have hrd : rd (sgA σ) (tlN σ) = (false, (dgR (sgA σ) 3 ((wE (sgA σ) 41 0) + 1) 0).1, 0, 0, 0) := by rw [rd, if_neg k1, if_neg (not_not_intro k2), if_neg k3, if_pos k4]
    exact hret 51 _ _ _ d_M_reads_51 (by rw [hrd, if_pos rfl]; exact ⟨by rfl, _, rfl⟩)
  have hP3 : ((dgR (sgA σ) 3 ((wE (sgA σ) 41 0) + 1) 0).1 + 1) ≤ tlN σ := by
    rcases Nat.lt_or_ge (dgR (sgA σ) 3 ((wE (sgA σ) 41 0) + 1) 0).1 (tlN σ) with h | h
    · exact h
    · have q := k4; rw [sgA_out h] at q; exact absurd q (by decide)
  have hE2 := wE_tl σ 41 ((dgR (sgA σ) 3 ((wE (sgA σ) 41 0) + 1) 0).1 + 1) hP3
  by_cases k5 : acK (sgA σ) ((dgR (sgA σ) 3 ((wE (sgA σ) 41 0) + 1) 0).1 + 1) (wE (sgA σ) 41 ((dgR (sgA σ) 3 ((wE (sgA σ) 41 0) + 1) 0).1 + 1)) = 2
  · refine AW.aload_n X (pc := 0) 0 rfl rfl d_M_reads_0 ?_
    refine AW.iconst X (pc := 1) (v := 0) (by decide) d_M_reads_1 ?_
    refine AW.put X (pc := 2) (k := 250) (ci := 5) (j := 3) (x := 0) (ty := .int) ft_M (by omega) rfl rfl in_M ft_M_ok n_M (by decide) wf_M_87 rfl rfl rfl rfl rfl d_M_reads_2 ?_
    refine AW.aload_n X (pc := 5) 0 rfl rfl d_M_reads_5 ?_
    refine AW.callV X (pc := 6) (b := 250) (ci := 5) (nA := 0) [] [] (c_M_word (kOf G ad N) σ nr 0 (m_up μ 250 3 0) hN hI (hM.at 0) hB ((m_up_self _ _ _ _).trans nI_0.symm) (Nat.zero_le _)) (gv_V wm_M_124 wi_M_word wl_M_word wn_M kw_M_word) rfl (by decide +kernel) rfl (by omega) rfl rfl ⟨Nat.le_of_ble_eq_true rfl, Nat.le_of_ble_eq_true rfl⟩ ⟨Nat.zero_le _, Nat.zero_le _⟩ (Nat.le_of_ble_eq_true rfl) d_M_reads_6 rfl (fun v μ2 hq => ?_)
    obtain ⟨rfl, hm⟩ := hq
    rw [m_up_up] at hm
    rw [hm]
    clear hm
    show AW G (rmD 3) 5 (0, 0, ad, N, fb) 9 [(0, .ref 250)] [.long (hv (sgA σ) 0 ((wE (sgA σ) 41 0) - 0))] (m_up μ 250 3 (nI (wE (sgA σ) 41 0)))
    refine AW.callS X (pc := 9) (nA := 1) [.long (hv (sgA σ) 0 ((wE (sgA σ) 41 0) - 0))] [] (c_M_eventJ (kOf G ad N) (hv (sgA σ) 0 ((wE (sgA σ) 41 0) - 0)) (m_up μ 250 3 (nI (wE (sgA σ) 41 0))) hN) (gv_S wm_M_127 ws_M_eventJ wn_M kw_M_eventJ) rfl (by decide +kernel) rfl ⟨Nat.le_of_ble_eq_true rfl, Nat.le_of_ble_eq_true rfl⟩ ⟨Nat.zero_le _, Nat.zero_le _⟩ (Nat.le_of_ble_eq_true rfl) d_M_reads_9 rfl (fun v μ2 hq => ?_)
    rw [evJ_eq (wE_ge _ _ _) (fun k hk => wE_small 41 0 k hk), if_neg k1] at hq
    obtain ⟨rfl, hm⟩ := hq
    rw [hm]
    clear hm
    show AW G (rmD 3) 5 (0, 0, ad, N, fb) 12 [(0, .ref 250)] [.int (nI (evK (sgA σ) 0 (wE (sgA σ) 41 0)))] (m_up μ 250 3 (nI (wE (sgA σ) 41 0)))
    refine AW.istore_n X (pc := 12) (lv2 := [(1, .int (nI (evK (sgA σ) 0 (wE (sgA σ) 41 0)))), (0, .ref 250)]) rfl d_M_reads_12 (by decide) rfl ?_
    refine AW.iload_n X (pc := 13) 0 rfl rfl d_M_reads_13 ?_
    refine AW.if_ge X (pc := 14) 19 d_M_reads_14 (by decide) (fun c_14 => ?_) (fun c_14 => absurd c_14 (by rw [i_le (show (0 : Int32).toInt = 0 by decide) (nI_toInt (show evK (sgA σ) 0 (wE (sgA σ) 41 0) < 2 ^ 31 by omega))]; omega))
    refine AW.aload_n X (pc := 19) 1 rfl rfl d_M_reads_19 ?_
    refine AW.callV X (pc := 20) (b := 250) (ci := 5) (nA := 0) [] [] (c_M_space (kOf G ad N) σ nr (wE (sgA σ) 41 0) (m_up μ 250 3 (nI (wE (sgA σ) 41 0))) hN hI (hM.at (nI (wE (sgA σ) 41 0))) hB (m_up_self _ _ _ _) hE1) (gv_V wm_M_131 wi_M_space wl_M_space wn_M kw_M_space) rfl (by decide +kernel) rfl (by omega) rfl rfl ⟨Nat.le_of_ble_eq_true rfl, Nat.le_of_ble_eq_true rfl⟩ ⟨Nat.zero_le _, Nat.zero_le _⟩ (Nat.le_of_ble_eq_true rfl) d_M_reads_20 rfl (fun v μ2 hq => ?_)
    rw [if_pos k2] at hq
    obtain ⟨rfl, hm⟩ := hq
    rw [m_up_up] at hm
    rw [hm]
    clear hm
    show AW G (rmD 3) 5 (0, 0, ad, N, fb) 23 [(1, .int (nI (evK (sgA σ) 0 (wE (sgA σ) 41 0)))), (0, .ref 250)] [.int 1] (m_up μ 250 3 (nI ((wE (sgA σ) 41 0) + 1)))
    refine AW.if_ne X (pc := 23) 31 d_M_reads_23 (by decide) (fun c_23 => ?_) (fun c_23 => absurd c_23 (by decide))
    refine AW.aload_n X (pc := 31) 1 rfl rfl d_M_reads_31 ?_
    refine AW.callV X (pc := 32) (b := 250) (ci := 5) (nA := 0) [] [] (c_M_digits (kOf G ad N) σ nr ((wE (sgA σ) 41 0) + 1) (m_up μ 250 3 (nI ((wE (sgA σ) 41 0) + 1))) hN hI (hM.at (nI ((wE (sgA σ) 41 0) + 1))) hB (m_up_self _ _ _ _) hE1s) (gv_V wm_M_134 wi_M_digits wl_M_digits wn_M kw_M_digits) rfl (by decide +kernel) rfl (by omega) rfl rfl ⟨Nat.le_of_ble_eq_true rfl, Nat.le_of_ble_eq_true rfl⟩ ⟨Nat.zero_le _, Nat.zero_le _⟩ (Nat.le_of_ble_eq_true rfl) d_M_reads_32 rfl (fun v μ2 hq => ?_)
    rw [if_neg k3, hyy] at hq
    obtain ⟨rfl, hm⟩ := hq
    rw [m_up_up] at hm
    rw [hm]
    clear hm
    show AW G (rmD 3) 5 (0, 0, ad, N, fb) 35 [(1, .int (nI (evK (sgA σ) 0 (wE (sgA σ) 41 0)))), (0, .ref 250)] [.int (nI yy)] (m_up μ 250 3 (nI (dgR (sgA σ) 3 ((wE (sgA σ) 41 0) + 1) 0).1))
    refine AW.istore_n X (pc := 35) (lv2 := [(2, .int (nI yy)), (1, .int (nI (evK (sgA σ) 0 (wE (sgA σ) 41 0)))), (0, .ref 250)]) rfl d_M_reads_35 (by decide) rfl ?_
    refine AW.iload_n X (pc := 36) 0 rfl rfl d_M_reads_36 ?_
    refine AW.if_lt X (pc := 37) 47 d_M_reads_37 (by decide) (fun c_37 => absurd c_37 (by rw [i_lt (nI_toInt (show yy < 2 ^ 31 by omega)) (show (0 : Int32).toInt = 0 by decide)]; omega)) (fun c_37 => ?_)
    refine AW.aload_n X (pc := 40) 2 rfl rfl d_M_reads_40 ?_
    refine AW.callV X (pc := 41) (b := 250) (ci := 5) (nA := 0) [] [] (c_M_space (kOf G ad N) σ nr (dgR (sgA σ) 3 ((wE (sgA σ) 41 0) + 1) 0).1 (m_up μ 250 3 (nI (dgR (sgA σ) 3 ((wE (sgA σ) 41 0) + 1) 0).1)) hN hI (hM.at (nI (dgR (sgA σ) 3 ((wE (sgA σ) 41 0) + 1) 0).1)) hB (m_up_self _ _ _ _) hDD) (gv_V wm_M_131 wi_M_space wl_M_space wn_M kw_M_space) rfl (by decide +kernel) rfl (by omega) rfl rfl ⟨Nat.le_of_ble_eq_true rfl, Nat.le_of_ble_eq_true rfl⟩ ⟨Nat.zero_le _, Nat.zero_le _⟩ (Nat.le_of_ble_eq_true rfl) d_M_reads_41 rfl (fun v μ2 hq => ?_)
    rw [if_pos k4] at hq
    obtain ⟨rfl, hm⟩ := hq
    rw [m_up_up] at hm
    rw [hm]
    clear hm
    show AW G (rmD 3) 5 (0, 0, ad, N, fb) 44 [(2, .int (nI yy)), (1, .int (nI (evK (sgA σ) 0 (wE (sgA σ) 41 0)))), (0, .ref 250)] [.int 1] (m_up μ 250 3 (nI ((dgR (sgA σ) 3 ((wE (sgA σ) 41 0) + 1) 0).1 + 1)))
    refine AW.if_ne X (pc := 44) 52 d_M_reads_44 (by decide) (fun c_44 => ?_) (fun c_44 => absurd c_44 (by decide))
    refine AW.aload_n X (pc := 52) 2 rfl rfl d_M_reads_52 ?_
    refine AW.get X (pc := 53) (k := 250) (ci := 5) (j := 3) (v := .int ((m_up μ 250 3 (nI ((dgR (sgA σ) 3 ((wE (sgA σ) 41 0) + 1) 0).1 + 1))) 250 3)) (by omega) rfl rfl in_M (by decide) wf_M_87 rfl rfl d_M_reads_53 ?_
    refine AW.val (w := .int (nI ((dgR (sgA σ) 3 ((wE (sgA σ) 41 0) + 1) 0).1 + 1))) (congrArg Value.int (m_up_self _ _ _ _)) ?_
    refine AW.istore_n X (pc := 56) (lv2 := [(3, .int (nI ((dgR (sgA σ) 3 ((wE (sgA σ) 41 0) + 1) 0).1 + 1))), (2, .int (nI yy)), (1, .int (nI (evK (sgA σ) 0 (wE (sgA σ) 41 0)))), (0, .ref 250)]) rfl d_M_reads_56 (by decide) rfl ?_
    refine AW.aload_n X (pc := 57) 3 rfl rfl d_M_reads_57 ?_
    refine AW.callV X (pc := 58) (b := 250) (ci := 5) (nA := 0) [] [] (c_M_word (kOf G ad N) σ nr ((dgR (sgA σ) 3 ((wE (sgA σ) 41 0) + 1) 0).1 + 1) (m_up μ 250 3 (nI ((dgR (sgA σ) 3 ((wE (sgA σ) 41 0) + 1) 0).1 + 1))) hN hI (hM.at (nI ((dgR (sgA σ) 3 ((wE (sgA σ) 41 0) + 1) 0).1 + 1))) hB (m_up_self _ _ _ _) hP3) (gv_V wm_M_124 wi_M_word wl_M_word wn_M kw_M_word) rfl (by decide +kernel) rfl (by omega) rfl rfl ⟨Nat.le_of_ble_eq_true rfl, Nat.le_of_ble_eq_true rfl⟩ ⟨Nat.zero_le _, Nat.zero_le _⟩ (Nat.le_of_ble_eq_true rfl) d_M_reads_58 rfl (fun v μ2 hq => ?_)
    obtain ⟨rfl, hm⟩ := hq
    rw [m_up_up] at hm
    rw [hm]
    clear hm
    show AW G (rmD 3) 5 (0, 0, ad, N, fb) 61 [(3, .int (nI ((dgR (sgA σ) 3 ((wE (sgA σ) 41 0) + 1) 0).1 + 1))), (2, .int (nI yy)), (1, .int (nI (evK (sgA σ) 0 (wE (sgA σ) 41 0)))), (0, .ref 250)] [.long (hv (sgA σ) ((dgR (sgA σ) 3 ((wE (sgA σ) 41 0) + 1) 0).1 + 1) ((wE (sgA σ) 41 ((dgR (sgA σ) 3 ((wE (sgA σ) 41 0) + 1) 0).1 + 1)) - ((dgR (sgA σ) 3 ((wE (sgA σ) 41 0) + 1) 0).1 + 1)))] (m_up μ 250 3 (nI (wE (sgA σ) 41 ((dgR (sgA σ) 3 ((wE (sgA σ) 41 0) + 1) 0).1 + 1))))
    refine AW.callS X (pc := 61) (nA := 1) [.long (hv (sgA σ) ((dgR (sgA σ) 3 ((wE (sgA σ) 41 0) + 1) 0).1 + 1) ((wE (sgA σ) 41 ((dgR (sgA σ) 3 ((wE (sgA σ) 41 0) + 1) 0).1 + 1)) - ((dgR (sgA σ) 3 ((wE (sgA σ) 41 0) + 1) 0).1 + 1)))] [] (c_M_actionJ (kOf G ad N) (hv (sgA σ) ((dgR (sgA σ) 3 ((wE (sgA σ) 41 0) + 1) 0).1 + 1) ((wE (sgA σ) 41 ((dgR (sgA σ) 3 ((wE (sgA σ) 41 0) + 1) 0).1 + 1)) - ((dgR (sgA σ) 3 ((wE (sgA σ) 41 0) + 1) 0).1 + 1))) (m_up μ 250 3 (nI (wE (sgA σ) 41 ((dgR (sgA σ) 3 ((wE (sgA σ) 41 0) + 1) 0).1 + 1)))) hN) (gv_S wm_M_137 ws_M_actionJ wn_M kw_M_actionJ) rfl (by decide +kernel) rfl ⟨Nat.le_of_ble_eq_true rfl, Nat.le_of_ble_eq_true rfl⟩ ⟨Nat.zero_le _, Nat.zero_le _⟩ (Nat.le_of_ble_eq_true rfl) d_M_reads_61 rfl (fun v μ2 hq => ?_)
    rw [acJ_eq (wE_ge _ _ _) (fun k hk => wE_small 41 ((dgR (sgA σ) 3 ((wE (sgA σ) 41 0) + 1) 0).1 + 1) k hk), if_pos k5] at hq
    obtain ⟨rfl, hm⟩ := hq
    rw [hm]
    clear hm
    show AW G (rmD 3) 5 (0, 0, ad, N, fb) 64 [(3, .int (nI ((dgR (sgA σ) 3 ((wE (sgA σ) 41 0) + 1) 0).1 + 1))), (2, .int (nI yy)), (1, .int (nI (evK (sgA σ) 0 (wE (sgA σ) 41 0)))), (0, .ref 250)] [.int (-1)] (m_up μ 250 3 (nI (wE (sgA σ) 41 ((dgR (sgA σ) 3 ((wE (sgA σ) 41 0) + 1) 0).1 + 1))))
    refine AW.istore X (pc := 64) (lv2 := [(4, .int (-1)), (3, .int (nI ((dgR (sgA σ) 3 ((wE (sgA σ) 41 0) + 1) 0).1 + 1))), (2, .int (nI yy)), (1, .int (nI (evK (sgA σ) 0 (wE (sgA σ) 41 0)))), (0, .ref 250)]) d_M_reads_64 (by decide) rfl ?_
    refine AW.iload X (pc := 66) 0 rfl d_M_reads_66 ?_
    refine AW.if_ge X (pc := 68) 73 d_M_reads_68 (by decide) (fun c_68 => absurd c_68 (by rw [i_le (show (0 : Int32).toInt = 0 by decide) (show (-1 : Int32).toInt = -1 by decide)]; omega)) (fun c_68 => ?_)
    refine AW.iload_n X (pc := 71) 1 rfl rfl d_M_reads_71 ?_
    have hrd : rd (sgA σ) (tlN σ) = (false, ((dgR (sgA σ) 3 ((wE (sgA σ) 41 0) + 1) 0).1 + 1), 0, 0, 0) := by rw [rd, if_neg k1, if_neg (not_not_intro k2), if_neg k3, if_neg (not_not_intro k4), if_pos k5]
    exact hret 72 _ _ _ d_M_reads_72 (by rw [hrd, if_pos rfl]; exact ⟨by rfl, _, rfl⟩)
  by_cases k6 : (wE (sgA σ) 41 ((dgR (sgA σ) 3 ((wE (sgA σ) 41 0) + 1) 0).1 + 1)) = tlN σ
  rotate_left
  · refine AW.aload_n X (pc := 0) 0 rfl rfl d_M_reads_0 ?_
    refine AW.iconst X (pc := 1) (v := 0) (by decide) d_M_reads_1 ?_
    refine AW.put X (pc := 2) (k := 250) (ci := 5) (j := 3) (x := 0) (ty := .int) ft_M (by omega) rfl rfl in_M ft_M_ok n_M (by decide) wf_M_87 rfl rfl rfl rfl rfl d_M_reads_2 ?_
    refine AW.aload_n X (pc := 5) 0 rfl rfl d_M_reads_5 ?_
    refine AW.callV X (pc := 6) (b := 250) (ci := 5) (nA := 0) [] [] (c_M_word (kOf G ad N) σ nr 0 (m_up μ 250 3 0) hN hI (hM.at 0) hB ((m_up_self _ _ _ _).trans nI_0.symm) (Nat.zero_le _)) (gv_V wm_M_124 wi_M_word wl_M_word wn_M kw_M_word) rfl (by decide +kernel) rfl (by omega) rfl rfl ⟨Nat.le_of_ble_eq_true rfl, Nat.le_of_ble_eq_true rfl⟩ ⟨Nat.zero_le _, Nat.zero_le _⟩ (Nat.le_of_ble_eq_true rfl) d_M_reads_6 rfl (fun v μ2 hq => ?_)
    obtain ⟨rfl, hm⟩ := hq
    rw [m_up_up] at hm
    rw [hm]
    clear hm
    show AW G (rmD 3) 5 (0, 0, ad, N, fb) 9 [(0, .ref 250)] [.long (hv (sgA σ) 0 ((wE (sgA σ) 41 0) - 0))] (m_up μ 250 3 (nI (wE (sgA σ) 41 0)))
    refine AW.callS X (pc := 9) (nA := 1) [.long (hv (sgA σ) 0 ((wE (sgA σ) 41 0) - 0))] [] (c_M_eventJ (kOf G ad N) (hv (sgA σ) 0 ((wE (sgA σ) 41 0) - 0)) (m_up μ 250 3 (nI (wE (sgA σ) 41 0))) hN) (gv_S wm_M_127 ws_M_eventJ wn_M kw_M_eventJ) rfl (by decide +kernel) rfl ⟨Nat.le_of_ble_eq_true rfl, Nat.le_of_ble_eq_true rfl⟩ ⟨Nat.zero_le _, Nat.zero_le _⟩ (Nat.le_of_ble_eq_true rfl) d_M_reads_9 rfl (fun v μ2 hq => ?_)
    rw [evJ_eq (wE_ge _ _ _) (fun k hk => wE_small 41 0 k hk), if_neg k1] at hq
    obtain ⟨rfl, hm⟩ := hq
    rw [hm]
    clear hm
    show AW G (rmD 3) 5 (0, 0, ad, N, fb) 12 [(0, .ref 250)] [.int (nI (evK (sgA σ) 0 (wE (sgA σ) 41 0)))] (m_up μ 250 3 (nI (wE (sgA σ) 41 0)))
    refine AW.istore_n X (pc := 12) (lv2 := [(1, .int (nI (evK (sgA σ) 0 (wE (sgA σ) 41 0)))), (0, .ref 250)]) rfl d_M_reads_12 (by decide) rfl ?_
    refine AW.iload_n X (pc := 13) 0 rfl rfl d_M_reads_13 ?_
    refine AW.if_ge X (pc := 14) 19 d_M_reads_14 (by decide) (fun c_14 => ?_) (fun c_14 => absurd c_14 (by rw [i_le (show (0 : Int32).toInt = 0 by decide) (nI_toInt (show evK (sgA σ) 0 (wE (sgA σ) 41 0) < 2 ^ 31 by omega))]; omega))
    refine AW.aload_n X (pc := 19) 1 rfl rfl d_M_reads_19 ?_
    refine AW.callV X (pc := 20) (b := 250) (ci := 5) (nA := 0) [] [] (c_M_space (kOf G ad N) σ nr (wE (sgA σ) 41 0) (m_up μ 250 3 (nI (wE (sgA σ) 41 0))) hN hI (hM.at (nI (wE (sgA σ) 41 0))) hB (m_up_self _ _ _ _) hE1) (gv_V wm_M_131 wi_M_space wl_M_space wn_M kw_M_space) rfl (by decide +kernel) rfl (by omega) rfl rfl ⟨Nat.le_of_ble_eq_true rfl, Nat.le_of_ble_eq_true rfl⟩ ⟨Nat.zero_le _, Nat.zero_le _⟩ (Nat.le_of_ble_eq_true rfl) d_M_reads_20 rfl (fun v μ2 hq => ?_)
    rw [if_pos k2] at hq
    obtain ⟨rfl, hm⟩ := hq
    rw [m_up_up] at hm
    rw [hm]
    clear hm
    show AW G (rmD 3) 5 (0, 0, ad, N, fb) 23 [(1, .int (nI (evK (sgA σ) 0 (wE (sgA σ) 41 0)))), (0, .ref 250)] [.int 1] (m_up μ 250 3 (nI ((wE (sgA σ) 41 0) + 1)))
    refine AW.if_ne X (pc := 23) 31 d_M_reads_23 (by decide) (fun c_23 => ?_) (fun c_23 => absurd c_23 (by decide))
    refine AW.aload_n X (pc := 31) 1 rfl rfl d_M_reads_31 ?_
    refine AW.callV X (pc := 32) (b := 250) (ci := 5) (nA := 0) [] [] (c_M_digits (kOf G ad N) σ nr ((wE (sgA σ) 41 0) + 1) (m_up μ 250 3 (nI ((wE (sgA σ) 41 0) + 1))) hN hI (hM.at (nI ((wE (sgA σ) 41 0) + 1))) hB (m_up_self _ _ _ _) hE1s) (gv_V wm_M_134 wi_M_digits wl_M_digits wn_M kw_M_digits) rfl (by decide +kernel) rfl (by omega) rfl rfl ⟨Nat.le_of_ble_eq_true rfl, Nat.le_of_ble_eq_true rfl⟩ ⟨Nat.zero_le _, Nat.zero_le _⟩ (Nat.le_of_ble_eq_true rfl) d_M_reads_32 rfl (fun v μ2 hq => ?_)
    rw [if_neg k3, hyy] at hq
    obtain ⟨rfl, hm⟩ := hq
    rw [m_up_up] at hm
    rw [hm]
    clear hm
    show AW G (rmD 3) 5 (0, 0, ad, N, fb) 35 [(1, .int (nI (evK (sgA σ) 0 (wE (sgA σ) 41 0)))), (0, .ref 250)] [.int (nI yy)] (m_up μ 250 3 (nI (dgR (sgA σ) 3 ((wE (sgA σ) 41 0) + 1) 0).1))
    refine AW.istore_n X (pc := 35) (lv2 := [(2, .int (nI yy)), (1, .int (nI (evK (sgA σ) 0 (wE (sgA σ) 41 0)))), (0, .ref 250)]) rfl d_M_reads_35 (by decide) rfl ?_
    refine AW.iload_n X (pc := 36) 0 rfl rfl d_M_reads_36 ?_
    refine AW.if_lt X (pc := 37) 47 d_M_reads_37 (by decide) (fun c_37 => absurd c_37 (by rw [i_lt (nI_toInt (show yy < 2 ^ 31 by omega)) (show (0 : Int32).toInt = 0 by decide)]; omega)) (fun c_37 => ?_)
    refine AW.aload_n X (pc := 40) 2 rfl rfl d_M_reads_40 ?_
    refine AW.callV X (pc := 41) (b := 250) (ci := 5) (nA := 0) [] [] (c_M_space (kOf G ad N) σ nr (dgR (sgA σ) 3 ((wE (sgA σ) 41 0) + 1) 0).1 (m_up μ 250 3 (nI (dgR (sgA σ) 3 ((wE (sgA σ) 41 0) + 1) 0).1)) hN hI (hM.at (nI (dgR (sgA σ) 3 ((wE (sgA σ) 41 0) + 1) 0).1)) hB (m_up_self _ _ _ _) hDD) (gv_V wm_M_131 wi_M_space wl_M_space wn_M kw_M_space) rfl (by decide +kernel) rfl (by omega) rfl rfl ⟨Nat.le_of_ble_eq_true rfl, Nat.le_of_ble_eq_true rfl⟩ ⟨Nat.zero_le _, Nat.zero_le _⟩ (Nat.le_of_ble_eq_true rfl) d_M_reads_41 rfl (fun v μ2 hq => ?_)
    rw [if_pos k4] at hq
    obtain ⟨rfl, hm⟩ := hq
    rw [m_up_up] at hm
    rw [hm]
    clear hm
    show AW G (rmD 3) 5 (0, 0, ad, N, fb) 44 [(2, .int (nI yy)), (1, .int (nI (evK (sgA σ) 0 (wE (sgA σ) 41 0)))), (0, .ref 250)] [.int 1] (m_up μ 250 3 (nI ((dgR (sgA σ) 3 ((wE (sgA σ) 41 0) + 1) 0).1 + 1)))
    refine AW.if_ne X (pc := 44) 52 d_M_reads_44 (by decide) (fun c_44 => ?_) (fun c_44 => absurd c_44 (by decide))
    refine AW.aload_n X (pc := 52) 2 rfl rfl d_M_reads_52 ?_
    refine AW.get X (pc := 53) (k := 250) (ci := 5) (j := 3) (v := .int ((m_up μ 250 3 (nI ((dgR (sgA σ) 3 ((wE (sgA σ) 41 0) + 1) 0).1 + 1))) 250 3)) (by omega) rfl rfl in_M (by decide) wf_M_87 rfl rfl d_M_reads_53 ?_
    refine AW.val (w := .int (nI ((dgR (sgA σ) 3 ((wE (sgA σ) 41 0) + 1) 0).1 + 1))) (congrArg Value.int (m_up_self _ _ _ _)) ?_
    refine AW.istore_n X (pc := 56) (lv2 := [(3, .int (nI ((dgR (sgA σ) 3 ((wE (sgA σ) 41 0) + 1) 0).1 + 1))), (2, .int (nI yy)), (1, .int (nI (evK (sgA σ) 0 (wE (sgA σ) 41 0)))), (0, .ref 250)]) rfl d_M_reads_56 (by decide) rfl ?_
    refine AW.aload_n X (pc := 57) 3 rfl rfl d_M_reads_57 ?_
    refine AW.callV X (pc := 58) (b := 250) (ci := 5) (nA := 0) [] [] (c_M_word (kOf G ad N) σ nr ((dgR (sgA σ) 3 ((wE (sgA σ) 41 0) + 1) 0).1 + 1) (m_up μ 250 3 (nI ((dgR (sgA σ) 3 ((wE (sgA σ) 41 0) + 1) 0).1 + 1))) hN hI (hM.at (nI ((dgR (sgA σ) 3 ((wE (sgA σ) 41 0) + 1) 0).1 + 1))) hB (m_up_self _ _ _ _) hP3) (gv_V wm_M_124 wi_M_word wl_M_word wn_M kw_M_word) rfl (by decide +kernel) rfl (by omega) rfl rfl ⟨Nat.le_of_ble_eq_true rfl, Nat.le_of_ble_eq_true rfl⟩ ⟨Nat.zero_le _, Nat.zero_le _⟩ (Nat.le_of_ble_eq_true rfl) d_M_reads_58 rfl (fun v μ2 hq => ?_)
    obtain ⟨rfl, hm⟩ := hq
    rw [m_up_up] at hm
    rw [hm]
    clear hm
    show AW G (rmD 3) 5 (0, 0, ad, N, fb) 61 [(3, .int (nI ((dgR (sgA σ) 3 ((wE (sgA σ) 41 0) + 1) 0).1 + 1))), (2, .int (nI yy)), (1, .int (nI (evK (sgA σ) 0 (wE (sgA σ) 41 0)))), (0, .ref 250)] [.long (hv (sgA σ) ((dgR (sgA σ) 3 ((wE (sgA σ) 41 0) + 1) 0).1 + 1) ((wE (sgA σ) 41 ((dgR (sgA σ) 3 ((wE (sgA σ) 41 0) + 1) 0).1 + 1)) - ((dgR (sgA σ) 3 ((wE (sgA σ) 41 0) + 1) 0).1 + 1)))] (m_up μ 250 3 (nI (wE (sgA σ) 41 ((dgR (sgA σ) 3 ((wE (sgA σ) 41 0) + 1) 0).1 + 1))))
    refine AW.callS X (pc := 61) (nA := 1) [.long (hv (sgA σ) ((dgR (sgA σ) 3 ((wE (sgA σ) 41 0) + 1) 0).1 + 1) ((wE (sgA σ) 41 ((dgR (sgA σ) 3 ((wE (sgA σ) 41 0) + 1) 0).1 + 1)) - ((dgR (sgA σ) 3 ((wE (sgA σ) 41 0) + 1) 0).1 + 1)))] [] (c_M_actionJ (kOf G ad N) (hv (sgA σ) ((dgR (sgA σ) 3 ((wE (sgA σ) 41 0) + 1) 0).1 + 1) ((wE (sgA σ) 41 ((dgR (sgA σ) 3 ((wE (sgA σ) 41 0) + 1) 0).1 + 1)) - ((dgR (sgA σ) 3 ((wE (sgA σ) 41 0) + 1) 0).1 + 1))) (m_up μ 250 3 (nI (wE (sgA σ) 41 ((dgR (sgA σ) 3 ((wE (sgA σ) 41 0) + 1) 0).1 + 1)))) hN) (gv_S wm_M_137 ws_M_actionJ wn_M kw_M_actionJ) rfl (by decide +kernel) rfl ⟨Nat.le_of_ble_eq_true rfl, Nat.le_of_ble_eq_true rfl⟩ ⟨Nat.zero_le _, Nat.zero_le _⟩ (Nat.le_of_ble_eq_true rfl) d_M_reads_61 rfl (fun v μ2 hq => ?_)
    rw [acJ_eq (wE_ge _ _ _) (fun k hk => wE_small 41 ((dgR (sgA σ) 3 ((wE (sgA σ) 41 0) + 1) 0).1 + 1) k hk), if_neg k5] at hq
    obtain ⟨rfl, hm⟩ := hq
    rw [hm]
    clear hm
    show AW G (rmD 3) 5 (0, 0, ad, N, fb) 64 [(3, .int (nI ((dgR (sgA σ) 3 ((wE (sgA σ) 41 0) + 1) 0).1 + 1))), (2, .int (nI yy)), (1, .int (nI (evK (sgA σ) 0 (wE (sgA σ) 41 0)))), (0, .ref 250)] [.int (nI (acK (sgA σ) ((dgR (sgA σ) 3 ((wE (sgA σ) 41 0) + 1) 0).1 + 1) (wE (sgA σ) 41 ((dgR (sgA σ) 3 ((wE (sgA σ) 41 0) + 1) 0).1 + 1))))] (m_up μ 250 3 (nI (wE (sgA σ) 41 ((dgR (sgA σ) 3 ((wE (sgA σ) 41 0) + 1) 0).1 + 1))))
    refine AW.istore X (pc := 64) (lv2 := [(4, .int (nI (acK (sgA σ) ((dgR (sgA σ) 3 ((wE (sgA σ) 41 0) + 1) 0).1 + 1) (wE (sgA σ) 41 ((dgR (sgA σ) 3 ((wE (sgA σ) 41 0) + 1) 0).1 + 1))))), (3, .int (nI ((dgR (sgA σ) 3 ((wE (sgA σ) 41 0) + 1) 0).1 + 1))), (2, .int (nI yy)), (1, .int (nI (evK (sgA σ) 0 (wE (sgA σ) 41 0)))), (0, .ref 250)]) d_M_reads_64 (by decide) rfl ?_
    refine AW.iload X (pc := 66) 0 rfl d_M_reads_66 ?_
    refine AW.if_ge X (pc := 68) 73 d_M_reads_68 (by decide) (fun c_68 => ?_) (fun c_68 => absurd c_68 (by rw [i_le (show (0 : Int32).toInt = 0 by decide) (nI_toInt (show acK (sgA σ) ((dgR (sgA σ) 3 ((wE (sgA σ) 41 0) + 1) 0).1 + 1) (wE (sgA σ) 41 ((dgR (sgA σ) 3 ((wE (sgA σ) 41 0) + 1) 0).1 + 1)) < 2 ^ 31 by omega))]; omega))
    refine AW.aload_n X (pc := 73) 4 rfl rfl d_M_reads_73 ?_
    refine AW.get X (pc := 74) (k := 250) (ci := 5) (j := 3) (v := .int ((m_up μ 250 3 (nI (wE (sgA σ) 41 ((dgR (sgA σ) 3 ((wE (sgA σ) 41 0) + 1) 0).1 + 1)))) 250 3)) (by omega) rfl rfl in_M (by decide) wf_M_87 rfl rfl d_M_reads_74 ?_
    refine AW.val (w := .int (nI (wE (sgA σ) 41 ((dgR (sgA σ) 3 ((wE (sgA σ) 41 0) + 1) 0).1 + 1)))) (congrArg Value.int (m_up_self _ _ _ _)) ?_
    refine AW.aload_n X (pc := 77) 4 rfl rfl d_M_reads_77 ?_
    refine AW.get X (pc := 78) (k := 250) (ci := 5) (j := 2) (v := .int ((m_up μ 250 3 (nI (wE (sgA σ) 41 ((dgR (sgA σ) 3 ((wE (sgA σ) 41 0) + 1) 0).1 + 1)))) 250 2)) (by omega) rfl rfl in_M (by decide) wf_M_84 rfl rfl d_M_reads_78 ?_
    refine AW.val (w := .int (nI (tlN σ))) (congrArg Value.int ((hM.at _).sz)) ?_
    refine AW.icmp_ge X (pc := 81) 89 d_M_reads_81 (by decide) (fun c_81 => absurd c_81 (by rw [i_le (nI_toInt (show tlN σ < 2 ^ 31 by omega)) (nI_toInt (show wE (sgA σ) 41 ((dgR (sgA σ) 3 ((wE (sgA σ) 41 0) + 1) 0).1 + 1) < 2 ^ 31 by omega))]; omega)) (fun c_81 => ?_)
    refine AW.aload_n X (pc := 84) 4 rfl rfl d_M_reads_84 ?_
    refine AW.get X (pc := 85) (k := 250) (ci := 5) (j := 3) (v := .int ((m_up μ 250 3 (nI (wE (sgA σ) 41 ((dgR (sgA σ) 3 ((wE (sgA σ) 41 0) + 1) 0).1 + 1)))) 250 3)) (by omega) rfl rfl in_M (by decide) wf_M_87 rfl rfl d_M_reads_85 ?_
    refine AW.val (w := .int (nI (wE (sgA σ) 41 ((dgR (sgA σ) 3 ((wE (sgA σ) 41 0) + 1) 0).1 + 1)))) (congrArg Value.int (m_up_self _ _ _ _)) ?_
    have hrd : rd (sgA σ) (tlN σ) = (false, (wE (sgA σ) 41 ((dgR (sgA σ) 3 ((wE (sgA σ) 41 0) + 1) 0).1 + 1)), 0, 0, 0) := by rw [rd, if_neg k1, if_neg (not_not_intro k2), if_neg k3, if_neg (not_not_intro k4), if_neg k5, if_pos k6]
    exact hret 88 _ _ _ d_M_reads_88 (by rw [hrd, if_pos rfl]; exact ⟨by rfl, _, rfl⟩)
  refine AW.aload_n X (pc := 0) 0 rfl rfl d_M_reads_0 ?_
  refine AW.iconst X (pc := 1) (v := 0) (by decide) d_M_reads_1 ?_
  refine AW.put X (pc := 2) (k := 250) (ci := 5) (j := 3) (x := 0) (ty := .int) ft_M (by omega) rfl rfl in_M ft_M_ok n_M (by decide) wf_M_87 rfl rfl rfl rfl rfl d_M_reads_2 ?_
  refine AW.aload_n X (pc := 5) 0 rfl rfl d_M_reads_5 ?_
  refine AW.callV X (pc := 6) (b := 250) (ci := 5) (nA := 0) [] [] (c_M_word (kOf G ad N) σ nr 0 (m_up μ 250 3 0) hN hI (hM.at 0) hB ((m_up_self _ _ _ _).trans nI_0.symm) (Nat.zero_le _)) (gv_V wm_M_124 wi_M_word wl_M_word wn_M kw_M_word) rfl (by decide +kernel) rfl (by omega) rfl rfl ⟨Nat.le_of_ble_eq_true rfl, Nat.le_of_ble_eq_true rfl⟩ ⟨Nat.zero_le _, Nat.zero_le _⟩ (Nat.le_of_ble_eq_true rfl) d_M_reads_6 rfl (fun v μ2 hq => ?_)
  obtain ⟨rfl, hm⟩ := hq
  rw [m_up_up] at hm
  rw [hm]
  clear hm
  show AW G (rmD 3) 5 (0, 0, ad, N, fb) 9 [(0, .ref 250)] [.long (hv (sgA σ) 0 ((wE (sgA σ) 41 0) - 0))] (m_up μ 250 3 (nI (wE (sgA σ) 41 0)))
  refine AW.callS X (pc := 9) (nA := 1) [.long (hv (sgA σ) 0 ((wE (sgA σ) 41 0) - 0))] [] (c_M_eventJ (kOf G ad N) (hv (sgA σ) 0 ((wE (sgA σ) 41 0) - 0)) (m_up μ 250 3 (nI (wE (sgA σ) 41 0))) hN) (gv_S wm_M_127 ws_M_eventJ wn_M kw_M_eventJ) rfl (by decide +kernel) rfl ⟨Nat.le_of_ble_eq_true rfl, Nat.le_of_ble_eq_true rfl⟩ ⟨Nat.zero_le _, Nat.zero_le _⟩ (Nat.le_of_ble_eq_true rfl) d_M_reads_9 rfl (fun v μ2 hq => ?_)
  rw [evJ_eq (wE_ge _ _ _) (fun k hk => wE_small 41 0 k hk), if_neg k1] at hq
  obtain ⟨rfl, hm⟩ := hq
  rw [hm]
  clear hm
  show AW G (rmD 3) 5 (0, 0, ad, N, fb) 12 [(0, .ref 250)] [.int (nI (evK (sgA σ) 0 (wE (sgA σ) 41 0)))] (m_up μ 250 3 (nI (wE (sgA σ) 41 0)))
  refine AW.istore_n X (pc := 12) (lv2 := [(1, .int (nI (evK (sgA σ) 0 (wE (sgA σ) 41 0)))), (0, .ref 250)]) rfl d_M_reads_12 (by decide) rfl ?_
  refine AW.iload_n X (pc := 13) 0 rfl rfl d_M_reads_13 ?_
  refine AW.if_ge X (pc := 14) 19 d_M_reads_14 (by decide) (fun c_14 => ?_) (fun c_14 => absurd c_14 (by rw [i_le (show (0 : Int32).toInt = 0 by decide) (nI_toInt (show evK (sgA σ) 0 (wE (sgA σ) 41 0) < 2 ^ 31 by omega))]; omega))
  refine AW.aload_n X (pc := 19) 1 rfl rfl d_M_reads_19 ?_
  refine AW.callV X (pc := 20) (b := 250) (ci := 5) (nA := 0) [] [] (c_M_space (kOf G ad N) σ nr (wE (sgA σ) 41 0) (m_up μ 250 3 (nI (wE (sgA σ) 41 0))) hN hI (hM.at (nI (wE (sgA σ) 41 0))) hB (m_up_self _ _ _ _) hE1) (gv_V wm_M_131 wi_M_space wl_M_space wn_M kw_M_space) rfl (by decide +kernel) rfl (by omega) rfl rfl ⟨Nat.le_of_ble_eq_true rfl, Nat.le_of_ble_eq_true rfl⟩ ⟨Nat.zero_le _, Nat.zero_le _⟩ (Nat.le_of_ble_eq_true rfl) d_M_reads_20 rfl (fun v μ2 hq => ?_)
  rw [if_pos k2] at hq
  obtain ⟨rfl, hm⟩ := hq
  rw [m_up_up] at hm
  rw [hm]
  clear hm
  show AW G (rmD 3) 5 (0, 0, ad, N, fb) 23 [(1, .int (nI (evK (sgA σ) 0 (wE (sgA σ) 41 0)))), (0, .ref 250)] [.int 1] (m_up μ 250 3 (nI ((wE (sgA σ) 41 0) + 1)))
  refine AW.if_ne X (pc := 23) 31 d_M_reads_23 (by decide) (fun c_23 => ?_) (fun c_23 => absurd c_23 (by decide))
  refine AW.aload_n X (pc := 31) 1 rfl rfl d_M_reads_31 ?_
  refine AW.callV X (pc := 32) (b := 250) (ci := 5) (nA := 0) [] [] (c_M_digits (kOf G ad N) σ nr ((wE (sgA σ) 41 0) + 1) (m_up μ 250 3 (nI ((wE (sgA σ) 41 0) + 1))) hN hI (hM.at (nI ((wE (sgA σ) 41 0) + 1))) hB (m_up_self _ _ _ _) hE1s) (gv_V wm_M_134 wi_M_digits wl_M_digits wn_M kw_M_digits) rfl (by decide +kernel) rfl (by omega) rfl rfl ⟨Nat.le_of_ble_eq_true rfl, Nat.le_of_ble_eq_true rfl⟩ ⟨Nat.zero_le _, Nat.zero_le _⟩ (Nat.le_of_ble_eq_true rfl) d_M_reads_32 rfl (fun v μ2 hq => ?_)
  rw [if_neg k3, hyy] at hq
  obtain ⟨rfl, hm⟩ := hq
  rw [m_up_up] at hm
  rw [hm]
  clear hm
  show AW G (rmD 3) 5 (0, 0, ad, N, fb) 35 [(1, .int (nI (evK (sgA σ) 0 (wE (sgA σ) 41 0)))), (0, .ref 250)] [.int (nI yy)] (m_up μ 250 3 (nI (dgR (sgA σ) 3 ((wE (sgA σ) 41 0) + 1) 0).1))
  refine AW.istore_n X (pc := 35) (lv2 := [(2, .int (nI yy)), (1, .int (nI (evK (sgA σ) 0 (wE (sgA σ) 41 0)))), (0, .ref 250)]) rfl d_M_reads_35 (by decide) rfl ?_
  refine AW.iload_n X (pc := 36) 0 rfl rfl d_M_reads_36 ?_
  refine AW.if_lt X (pc := 37) 47 d_M_reads_37 (by decide) (fun c_37 => absurd c_37 (by rw [i_lt (nI_toInt (show yy < 2 ^ 31 by omega)) (show (0 : Int32).toInt = 0 by decide)]; omega)) (fun c_37 => ?_)
  refine AW.aload_n X (pc := 40) 2 rfl rfl d_M_reads_40 ?_
  refine AW.callV X (pc := 41) (b := 250) (ci := 5) (nA := 0) [] [] (c_M_space (kOf G ad N) σ nr (dgR (sgA σ) 3 ((wE (sgA σ) 41 0) + 1) 0).1 (m_up μ 250 3 (nI (dgR (sgA σ) 3 ((wE (sgA σ) 41 0) + 1) 0).1)) hN hI (hM.at (nI (dgR (sgA σ) 3 ((wE (sgA σ) 41 0) + 1) 0).1)) hB (m_up_self _ _ _ _) hDD) (gv_V wm_M_131 wi_M_space wl_M_space wn_M kw_M_space) rfl (by decide +kernel) rfl (by omega) rfl rfl ⟨Nat.le_of_ble_eq_true rfl, Nat.le_of_ble_eq_true rfl⟩ ⟨Nat.zero_le _, Nat.zero_le _⟩ (Nat.le_of_ble_eq_true rfl) d_M_reads_41 rfl (fun v μ2 hq => ?_)
  rw [if_pos k4] at hq
  obtain ⟨rfl, hm⟩ := hq
  rw [m_up_up] at hm
  rw [hm]
  clear hm
  show AW G (rmD 3) 5 (0, 0, ad, N, fb) 44 [(2, .int (nI yy)), (1, .int (nI (evK (sgA σ) 0 (wE (sgA σ) 41 0)))), (0, .ref 250)] [.int 1] (m_up μ 250 3 (nI ((dgR (sgA σ) 3 ((wE (sgA σ) 41 0) + 1) 0).1 + 1)))
  refine AW.if_ne X (pc := 44) 52 d_M_reads_44 (by decide) (fun c_44 => ?_) (fun c_44 => absurd c_44 (by decide))
  refine AW.aload_n X (pc := 52) 2 rfl rfl d_M_reads_52 ?_
  refine AW.get X (pc := 53) (k := 250) (ci := 5) (j := 3) (v := .int ((m_up μ 250 3 (nI ((dgR (sgA σ) 3 ((wE (sgA σ) 41 0) + 1) 0).1 + 1))) 250 3)) (by omega) rfl rfl in_M (by decide) wf_M_87 rfl rfl d_M_reads_53 ?_
  refine AW.val (w := .int (nI ((dgR (sgA σ) 3 ((wE (sgA σ) 41 0) + 1) 0).1 + 1))) (congrArg Value.int (m_up_self _ _ _ _)) ?_
  refine AW.istore_n X (pc := 56) (lv2 := [(3, .int (nI ((dgR (sgA σ) 3 ((wE (sgA σ) 41 0) + 1) 0).1 + 1))), (2, .int (nI yy)), (1, .int (nI (evK (sgA σ) 0 (wE (sgA σ) 41 0)))), (0, .ref 250)]) rfl d_M_reads_56 (by decide) rfl ?_
  refine AW.aload_n X (pc := 57) 3 rfl rfl d_M_reads_57 ?_
  refine AW.callV X (pc := 58) (b := 250) (ci := 5) (nA := 0) [] [] (c_M_word (kOf G ad N) σ nr ((dgR (sgA σ) 3 ((wE (sgA σ) 41 0) + 1) 0).1 + 1) (m_up μ 250 3 (nI ((dgR (sgA σ) 3 ((wE (sgA σ) 41 0) + 1) 0).1 + 1))) hN hI (hM.at (nI ((dgR (sgA σ) 3 ((wE (sgA σ) 41 0) + 1) 0).1 + 1))) hB (m_up_self _ _ _ _) hP3) (gv_V wm_M_124 wi_M_word wl_M_word wn_M kw_M_word) rfl (by decide +kernel) rfl (by omega) rfl rfl ⟨Nat.le_of_ble_eq_true rfl, Nat.le_of_ble_eq_true rfl⟩ ⟨Nat.zero_le _, Nat.zero_le _⟩ (Nat.le_of_ble_eq_true rfl) d_M_reads_58 rfl (fun v μ2 hq => ?_)
  obtain ⟨rfl, hm⟩ := hq
  rw [m_up_up] at hm
  rw [hm]
  clear hm
  show AW G (rmD 3) 5 (0, 0, ad, N, fb) 61 [(3, .int (nI ((dgR (sgA σ) 3 ((wE (sgA σ) 41 0) + 1) 0).1 + 1))), (2, .int (nI yy)), (1, .int (nI (evK (sgA σ) 0 (wE (sgA σ) 41 0)))), (0, .ref 250)] [.long (hv (sgA σ) ((dgR (sgA σ) 3 ((wE (sgA σ) 41 0) + 1) 0).1 + 1) ((wE (sgA σ) 41 ((dgR (sgA σ) 3 ((wE (sgA σ) 41 0) + 1) 0).1 + 1)) - ((dgR (sgA σ) 3 ((wE (sgA σ) 41 0) + 1) 0).1 + 1)))] (m_up μ 250 3 (nI (wE (sgA σ) 41 ((dgR (sgA σ) 3 ((wE (sgA σ) 41 0) + 1) 0).1 + 1))))
  refine AW.callS X (pc := 61) (nA := 1) [.long (hv (sgA σ) ((dgR (sgA σ) 3 ((wE (sgA σ) 41 0) + 1) 0).1 + 1) ((wE (sgA σ) 41 ((dgR (sgA σ) 3 ((wE (sgA σ) 41 0) + 1) 0).1 + 1)) - ((dgR (sgA σ) 3 ((wE (sgA σ) 41 0) + 1) 0).1 + 1)))] [] (c_M_actionJ (kOf G ad N) (hv (sgA σ) ((dgR (sgA σ) 3 ((wE (sgA σ) 41 0) + 1) 0).1 + 1) ((wE (sgA σ) 41 ((dgR (sgA σ) 3 ((wE (sgA σ) 41 0) + 1) 0).1 + 1)) - ((dgR (sgA σ) 3 ((wE (sgA σ) 41 0) + 1) 0).1 + 1))) (m_up μ 250 3 (nI (wE (sgA σ) 41 ((dgR (sgA σ) 3 ((wE (sgA σ) 41 0) + 1) 0).1 + 1)))) hN) (gv_S wm_M_137 ws_M_actionJ wn_M kw_M_actionJ) rfl (by decide +kernel) rfl ⟨Nat.le_of_ble_eq_true rfl, Nat.le_of_ble_eq_true rfl⟩ ⟨Nat.zero_le _, Nat.zero_le _⟩ (Nat.le_of_ble_eq_true rfl) d_M_reads_61 rfl (fun v μ2 hq => ?_)
  rw [acJ_eq (wE_ge _ _ _) (fun k hk => wE_small 41 ((dgR (sgA σ) 3 ((wE (sgA σ) 41 0) + 1) 0).1 + 1) k hk), if_neg k5] at hq
  obtain ⟨rfl, hm⟩ := hq
  rw [hm]
  clear hm
  show AW G (rmD 3) 5 (0, 0, ad, N, fb) 64 [(3, .int (nI ((dgR (sgA σ) 3 ((wE (sgA σ) 41 0) + 1) 0).1 + 1))), (2, .int (nI yy)), (1, .int (nI (evK (sgA σ) 0 (wE (sgA σ) 41 0)))), (0, .ref 250)] [.int (nI (acK (sgA σ) ((dgR (sgA σ) 3 ((wE (sgA σ) 41 0) + 1) 0).1 + 1) (wE (sgA σ) 41 ((dgR (sgA σ) 3 ((wE (sgA σ) 41 0) + 1) 0).1 + 1))))] (m_up μ 250 3 (nI (wE (sgA σ) 41 ((dgR (sgA σ) 3 ((wE (sgA σ) 41 0) + 1) 0).1 + 1))))
  refine AW.istore X (pc := 64) (lv2 := [(4, .int (nI (acK (sgA σ) ((dgR (sgA σ) 3 ((wE (sgA σ) 41 0) + 1) 0).1 + 1) (wE (sgA σ) 41 ((dgR (sgA σ) 3 ((wE (sgA σ) 41 0) + 1) 0).1 + 1))))), (3, .int (nI ((dgR (sgA σ) 3 ((wE (sgA σ) 41 0) + 1) 0).1 + 1))), (2, .int (nI yy)), (1, .int (nI (evK (sgA σ) 0 (wE (sgA σ) 41 0)))), (0, .ref 250)]) d_M_reads_64 (by decide) rfl ?_
  refine AW.iload X (pc := 66) 0 rfl d_M_reads_66 ?_
  refine AW.if_ge X (pc := 68) 73 d_M_reads_68 (by decide) (fun c_68 => ?_) (fun c_68 => absurd c_68 (by rw [i_le (show (0 : Int32).toInt = 0 by decide) (nI_toInt (show acK (sgA σ) ((dgR (sgA σ) 3 ((wE (sgA σ) 41 0) + 1) 0).1 + 1) (wE (sgA σ) 41 ((dgR (sgA σ) 3 ((wE (sgA σ) 41 0) + 1) 0).1 + 1)) < 2 ^ 31 by omega))]; omega))
  refine AW.aload_n X (pc := 73) 4 rfl rfl d_M_reads_73 ?_
  refine AW.get X (pc := 74) (k := 250) (ci := 5) (j := 3) (v := .int ((m_up μ 250 3 (nI (wE (sgA σ) 41 ((dgR (sgA σ) 3 ((wE (sgA σ) 41 0) + 1) 0).1 + 1)))) 250 3)) (by omega) rfl rfl in_M (by decide) wf_M_87 rfl rfl d_M_reads_74 ?_
  refine AW.val (w := .int (nI (wE (sgA σ) 41 ((dgR (sgA σ) 3 ((wE (sgA σ) 41 0) + 1) 0).1 + 1)))) (congrArg Value.int (m_up_self _ _ _ _)) ?_
  refine AW.aload_n X (pc := 77) 4 rfl rfl d_M_reads_77 ?_
  refine AW.get X (pc := 78) (k := 250) (ci := 5) (j := 2) (v := .int ((m_up μ 250 3 (nI (wE (sgA σ) 41 ((dgR (sgA σ) 3 ((wE (sgA σ) 41 0) + 1) 0).1 + 1)))) 250 2)) (by omega) rfl rfl in_M (by decide) wf_M_84 rfl rfl d_M_reads_78 ?_
  refine AW.val (w := .int (nI (tlN σ))) (congrArg Value.int ((hM.at _).sz)) ?_
  refine AW.icmp_ge X (pc := 81) 89 d_M_reads_81 (by decide) (fun c_81 => ?_) (fun c_81 => absurd c_81 (by rw [i_le (nI_toInt (show tlN σ < 2 ^ 31 by omega)) (nI_toInt (show wE (sgA σ) 41 ((dgR (sgA σ) 3 ((wE (sgA σ) 41 0) + 1) 0).1 + 1) < 2 ^ 31 by omega))]; omega))
  refine AW.aload_n X (pc := 89) 4 rfl rfl d_M_reads_89 ?_
  refine AW.get X (pc := 90) (k := 250) (ci := 5) (j := 4) (v := .int ((m_up μ 250 3 (nI (wE (sgA σ) 41 ((dgR (sgA σ) 3 ((wE (sgA σ) 41 0) + 1) 0).1 + 1)))) 250 4)) (by omega) rfl rfl in_M (by decide) wf_M_81 rfl rfl d_M_reads_90 ?_
  refine AW.val (w := .int (nI nr)) (congrArg Value.int ((hM.at _).1.ru)) ?_
  refine AW.bipush X (pc := 93) (v := 20) (by decide) d_M_reads_93 ?_
  refine AW.icmp_ne X (pc := 95) 100 d_M_reads_95 (by decide) (fun c_95 => ?_) (fun c_95 => ?_)
  · rw [i_eq (nI_toInt (show nr < 2 ^ 31 by omega)) (show (20 : Int32).toInt = 20 by decide)] at c_95
    have h20 : ¬ nr = 20 := by omega
    refine AW.aload_n X (pc := 100) 4 rfl rfl d_M_reads_100 ?_
    refine AW.get X (pc := 101) (k := 250) (ci := 5) (j := 5) (v := .ref 252) (by omega) rfl rfl in_M (by decide) wf_M_13 rfl rfl d_M_reads_101 ?_
    refine AW.aload_n X (pc := 104) 4 rfl rfl d_M_reads_104 ?_
    refine AW.get X (pc := 105) (k := 250) (ci := 5) (j := 4) (v := .int ((m_up μ 250 3 (nI (wE (sgA σ) 41 ((dgR (sgA σ) 3 ((wE (sgA σ) 41 0) + 1) 0).1 + 1)))) 250 4)) (by omega) rfl rfl in_M (by decide) wf_M_81 rfl rfl d_M_reads_105 ?_
    refine AW.val (w := .int (nI nr)) (congrArg Value.int ((hM.at _).1.ru)) ?_
    refine AW.iload_n X (pc := 108) 3 rfl rfl d_M_reads_108 ?_
    refine AW.iastN X (pc := 109) (k := 252) (t := 0) (n := 20) (j := nr) (x := nI (evK (sgA σ) 0 (wE (sgA σ) 41 0))) (by omega) rfl rfl (by omega) (by decide) d_M_reads_109 ?_
    refine AW.aload_n X (pc := 110) 4 rfl rfl d_M_reads_110 ?_
    refine AW.get X (pc := 111) (k := 250) (ci := 5) (j := 9) (v := .ref 256) (by omega) rfl rfl in_M (by decide) wf_M_27 rfl rfl d_M_reads_111 ?_
    refine AW.bipush X (pc := 114) (v := 6) (by decide) d_M_reads_114 ?_
    refine AW.aload_n X (pc := 116) 4 rfl rfl d_M_reads_116 ?_
    refine AW.get X (pc := 117) (k := 250) (ci := 5) (j := 4) (v := .int ((m_up (m_up μ 250 3 (nI (wE (sgA σ) 41 ((dgR (sgA σ) 3 ((wE (sgA σ) 41 0) + 1) 0).1 + 1)))) 252 nr (nI (evK (sgA σ) 0 (wE (sgA σ) 41 0)))) 250 4)) (by omega) rfl rfl in_M (by decide) wf_M_81 rfl rfl d_M_reads_117 ?_
    refine AW.val (w := .int (nI nr)) (congrArg Value.int ((congrFun (m_up_row (by decide)) 4).trans ((hM.at _).1.ru))) ?_
    refine AW.imul X (pc := 120) d_M_reads_120 ?_
    refine AW.val (w := .int (nI (6 * nr))) (congrArg Value.int (pk_mul 6 nr)) ?_
    refine AW.iload_n X (pc := 121) 2 rfl rfl d_M_reads_121 ?_
    refine AW.iastN X (pc := 122) (k := 256) (t := 0) (n := 120) (j := 6 * nr) (x := nI yy) (by omega) rfl rfl (by omega) (by decide) d_M_reads_122 ?_
    refine AW.aload_n X (pc := 123) 4 rfl rfl d_M_reads_123 ?_
    refine AW.get X (pc := 124) (k := 250) (ci := 5) (j := 10) (v := .ref 257) (by omega) rfl rfl in_M (by decide) wf_M_30 rfl rfl d_M_reads_124 ?_
    refine AW.bipush X (pc := 127) (v := 6) (by decide) d_M_reads_127 ?_
    refine AW.aload_n X (pc := 129) 4 rfl rfl d_M_reads_129 ?_
    refine AW.get X (pc := 130) (k := 250) (ci := 5) (j := 4) (v := .int ((m_up (m_up (m_up μ 250 3 (nI (wE (sgA σ) 41 ((dgR (sgA σ) 3 ((wE (sgA σ) 41 0) + 1) 0).1 + 1)))) 252 nr (nI (evK (sgA σ) 0 (wE (sgA σ) 41 0)))) 256 (6 * nr) (nI yy)) 250 4)) (by omega) rfl rfl in_M (by decide) wf_M_81 rfl rfl d_M_reads_130 ?_
    refine AW.val (w := .int (nI nr)) (congrArg Value.int ((congrFun (m_up_row (by decide)) 4).trans ((congrFun (m_up_row (by decide)) 4).trans ((hM.at _).1.ru)))) ?_
    refine AW.imul X (pc := 133) d_M_reads_133 ?_
    refine AW.val (w := .int (nI (6 * nr))) (congrArg Value.int (pk_mul 6 nr)) ?_
    refine AW.iconst X (pc := 134) (v := -1) (by decide) d_M_reads_134 ?_
    refine AW.iastN X (pc := 135) (k := 257) (t := 0) (n := 120) (j := 6 * nr) (x := -1) (by omega) rfl rfl (by omega) (by decide) d_M_reads_135 ?_
    refine AW.aload_n X (pc := 136) 4 rfl rfl d_M_reads_136 ?_
    refine AW.get X (pc := 137) (k := 250) (ci := 5) (j := 6) (v := .ref 253) (by omega) rfl rfl in_M (by decide) wf_M_17 rfl rfl d_M_reads_137 ?_
    refine AW.aload_n X (pc := 140) 4 rfl rfl d_M_reads_140 ?_
    refine AW.get X (pc := 141) (k := 250) (ci := 5) (j := 4) (v := .int ((m_up (m_up (m_up (m_up μ 250 3 (nI (wE (sgA σ) 41 ((dgR (sgA σ) 3 ((wE (sgA σ) 41 0) + 1) 0).1 + 1)))) 252 nr (nI (evK (sgA σ) 0 (wE (sgA σ) 41 0)))) 256 (6 * nr) (nI yy)) 257 (6 * nr) (-1)) 250 4)) (by omega) rfl rfl in_M (by decide) wf_M_81 rfl rfl d_M_reads_141 ?_
    refine AW.val (w := .int (nI nr)) (congrArg Value.int ((congrFun (m_up_row (by decide)) 4).trans ((congrFun (m_up_row (by decide)) 4).trans ((congrFun (m_up_row (by decide)) 4).trans ((hM.at _).1.ru))))) ?_
    refine AW.iload X (pc := 144) 0 rfl d_M_reads_144 ?_
    refine AW.iastN X (pc := 146) (k := 253) (t := 0) (n := 20) (j := nr) (x := nI (acK (sgA σ) ((dgR (sgA σ) 3 ((wE (sgA σ) 41 0) + 1) 0).1 + 1) (wE (sgA σ) 41 ((dgR (sgA σ) 3 ((wE (sgA σ) 41 0) + 1) 0).1 + 1)))) (by omega) rfl rfl (by omega) (by decide) d_M_reads_146 ?_
    refine AW.iconst X (pc := 147) (v := -1) (by decide) d_M_reads_147 ?_
    have hrd : rd (sgA σ) (tlN σ) = (true, tlN σ, evK (sgA σ) 0 (wE (sgA σ) 41 0), (dgR (sgA σ) 3 ((wE (sgA σ) 41 0) + 1) 0).2, acK (sgA σ) ((dgR (sgA σ) 3 ((wE (sgA σ) 41 0) + 1) 0).1 + 1) (wE (sgA σ) 41 ((dgR (sgA σ) 3 ((wE (sgA σ) 41 0) + 1) 0).1 + 1))) := by rw [rd, if_neg k1, if_neg (not_not_intro k2), if_neg k3, if_neg (not_not_intro k4), if_neg k5, if_neg (not_not_intro k6)]
    exact hret 148 _ _ _ d_M_reads_148 (by rw [hrd]; dsimp only; rw [if_neg b_tf]; exact ⟨rfl, _, by rw [if_neg h20, hyy]; rfl⟩)
  · rw [i_eq (nI_toInt (show nr < 2 ^ 31 by omega)) (show (20 : Int32).toInt = 20 by decide)] at c_95
    have h20 : nr = 20 := by omega
    refine AW.iconst X (pc := 98) (v := -1) (by decide) d_M_reads_98 ?_
    have hrd : rd (sgA σ) (tlN σ) = (true, tlN σ, evK (sgA σ) 0 (wE (sgA σ) 41 0), (dgR (sgA σ) 3 ((wE (sgA σ) 41 0) + 1) 0).2, acK (sgA σ) ((dgR (sgA σ) 3 ((wE (sgA σ) 41 0) + 1) 0).1 + 1) (wE (sgA σ) 41 ((dgR (sgA σ) 3 ((wE (sgA σ) 41 0) + 1) 0).1 + 1))) := by rw [rd, if_neg k1, if_neg (not_not_intro k2), if_neg k3, if_neg (not_not_intro k4), if_neg k5, if_neg (not_not_intro k6)]
    exact hret 99 _ _ _ d_M_reads_99 (by rw [hrd]; dsimp only; rw [if_neg b_tf]; exact ⟨rfl, _, by rw [if_pos h20]; rfl⟩)
set_option maxHeartbeats 4000000 in
set_option maxRecDepth 100000 in
theorem c_M_rule (K : KTy) (σ : Mu) (nr : Nat)  (μ : Mu) (hN : 272 ≤ KN K) (hI : CI σ nr) (hM : MR σ μ nr) (hB : BR σ) : CT K y_M_rule (k_M_rule :: GT) 4 [.ref 250] μ (fun v μ2 => if (rd (sgA σ) (tlN σ)).1 = false then v = some (.int (-10 - nI (rd (sgA σ) (tlN σ)).2.1)) ∧ ∃ q, μ2 = m_up (rlN (m_up μ 250 0 0) q) 250 2 0 else if nr = 20 then v = some (.int (-4)) ∧ ∃ q, μ2 = m_up (rlN (m_up μ 250 0 0) q) 250 2 0 else v = some (.int (nI nr)) ∧ ∃ q, μ2 = m_up (m_up (rlW (m_up μ 250 0 0) q nr (rd (sgA σ) (tlN σ)).2.2.1 (rd (sgA σ) (tlN σ)).2.2.2.1 (rd (sgA σ) (tlN σ)).2.2.2.2) 250 2 0) 250 4 (nI (nr + 1))) := by
  refine CT.int (cc := b_M_rule) (maxL := 2) (by decide) rfl rfl (Nat.le_of_ble_eq_true rfl) ?_
  intro G ad N hK X hret
  subst hK
  have hN : 272 ≤ N := hN
  have htl := hI.tl.2
  have hnr := hI.nr
  show AW G (rmD 4) 2 (0, 0, ad, N, fb) 0 [(0, .ref 250)] [] μ
  have hpl : (rd (sgA σ) (tlN σ)).2.1 ≤ 40 := rd_le σ hI.tl.2
  cases hb : (rd (sgA σ) (tlN σ)).1 with
  | false =>
    refine AW.aload_n X (pc := 0) 0 rfl rfl d_M_rule_0 ?_
    refine AW.iconst X (pc := 1) (v := 0) (by decide) d_M_rule_1 ?_
    refine AW.put X (pc := 2) (k := 250) (ci := 5) (j := 0) (x := 0) (ty := .int) ft_M (by omega) rfl rfl in_M ft_M_ok n_M (by decide) wf_M_72 rfl rfl rfl rfl rfl d_M_rule_2 ?_
    refine AW.aload_n X (pc := 5) 0 rfl rfl d_M_rule_5 ?_
    refine AW.callV X (pc := 6) (b := 250) (ci := 5) (nA := 0) [] [] (c_M_reads (kOf G ad N) σ nr (m_up μ 250 0 0) hN hI (hM.thr 0) hB) (gv_V wm_M_139 wi_M_reads wl_M_reads wn_M kw_M_reads) rfl (by decide +kernel) rfl (by omega) rfl rfl ⟨Nat.le_of_ble_eq_true rfl, Nat.le_of_ble_eq_true rfl⟩ ⟨Nat.zero_le _, Nat.zero_le _⟩ (Nat.le_of_ble_eq_true rfl) d_M_rule_6 rfl (fun v μb hq => ?_)
    rw [if_pos hb] at hq
    obtain ⟨rfl, q, hm⟩ := hq
    rw [hm]
    clear hm
    show AW G (rmD 4) 2 (0, 0, ad, N, fb) 9 [(0, .ref 250)] [.int (nI (rd (sgA σ) (tlN σ)).2.1)] (rlN (m_up μ 250 0 0) q)
    refine AW.istore_n X (pc := 9) (lv2 := [(1, .int (nI (rd (sgA σ) (tlN σ)).2.1)), (0, .ref 250)]) rfl d_M_rule_9 (by decide) rfl ?_
    refine AW.aload_n X (pc := 10) 1 rfl rfl d_M_rule_10 ?_
    refine AW.iconst X (pc := 11) (v := 0) (by decide) d_M_rule_11 ?_
    refine AW.put X (pc := 12) (k := 250) (ci := 5) (j := 2) (x := 0) (ty := .int) ft_M (by omega) rfl rfl in_M ft_M_ok n_M (by decide) wf_M_84 rfl rfl rfl rfl rfl d_M_rule_12 ?_
    refine AW.iload_n X (pc := 15) 0 rfl rfl d_M_rule_15 ?_
    refine AW.if_lt X (pc := 16) 24 d_M_rule_16 (by decide) (fun c_16 => absurd c_16 (nI_pos (by omega))) (fun c_16 => ?_)
    refine AW.bipush X (pc := 19) (v := -10) (by decide) d_M_rule_19 ?_
    refine AW.iload_n X (pc := 21) 0 rfl rfl d_M_rule_21 ?_
    refine AW.isub X (pc := 22) d_M_rule_22 ?_
    exact hret 23 _ _ _ d_M_rule_23 (by rw [if_pos hb]; exact ⟨rfl, _, rfl⟩)
  | true =>
    by_cases h20 : nr = 20
    · refine AW.aload_n X (pc := 0) 0 rfl rfl d_M_rule_0 ?_
      refine AW.iconst X (pc := 1) (v := 0) (by decide) d_M_rule_1 ?_
      refine AW.put X (pc := 2) (k := 250) (ci := 5) (j := 0) (x := 0) (ty := .int) ft_M (by omega) rfl rfl in_M ft_M_ok n_M (by decide) wf_M_72 rfl rfl rfl rfl rfl d_M_rule_2 ?_
      refine AW.aload_n X (pc := 5) 0 rfl rfl d_M_rule_5 ?_
      refine AW.callV X (pc := 6) (b := 250) (ci := 5) (nA := 0) [] [] (c_M_reads (kOf G ad N) σ nr (m_up μ 250 0 0) hN hI (hM.thr 0) hB) (gv_V wm_M_139 wi_M_reads wl_M_reads wn_M kw_M_reads) rfl (by decide +kernel) rfl (by omega) rfl rfl ⟨Nat.le_of_ble_eq_true rfl, Nat.le_of_ble_eq_true rfl⟩ ⟨Nat.zero_le _, Nat.zero_le _⟩ (Nat.le_of_ble_eq_true rfl) d_M_rule_6 rfl (fun v μb hq => ?_)
      rw [if_neg (by rw [hb]; exact b_tf)] at hq
      obtain ⟨rfl, q, hm⟩ := hq
      rw [if_pos h20] at hm
      rw [hm]
      clear hm
      show AW G (rmD 4) 2 (0, 0, ad, N, fb) 9 [(0, .ref 250)] [.int (-1)] (rlN (m_up μ 250 0 0) q)
      refine AW.istore_n X (pc := 9) (lv2 := [(1, .int (-1)), (0, .ref 250)]) rfl d_M_rule_9 (by decide) rfl ?_
      refine AW.aload_n X (pc := 10) 1 rfl rfl d_M_rule_10 ?_
      refine AW.iconst X (pc := 11) (v := 0) (by decide) d_M_rule_11 ?_
      refine AW.put X (pc := 12) (k := 250) (ci := 5) (j := 2) (x := 0) (ty := .int) ft_M (by omega) rfl rfl in_M ft_M_ok n_M (by decide) wf_M_84 rfl rfl rfl rfl rfl d_M_rule_12 ?_
      refine AW.iload_n X (pc := 15) 0 rfl rfl d_M_rule_15 ?_
      refine AW.if_lt X (pc := 16) 24 d_M_rule_16 (by decide) (fun c_16 => ?_) (fun c_16 => absurd c_16 (by decide))
      refine AW.aload_n X (pc := 24) 1 rfl rfl d_M_rule_24 ?_
      refine AW.get X (pc := 25) (k := 250) (ci := 5) (j := 4) (v := .int ((m_up (rlN (m_up μ 250 0 0) q) 250 2 0) 250 4)) (by omega) rfl rfl in_M (by decide) wf_M_81 rfl rfl d_M_rule_25 ?_
      refine AW.val (w := .int (nI nr)) (congrArg Value.int ((m_up_ne (by omega)).trans (rlN_4 ((hM.thr 0).1.ru)))) ?_
      refine AW.bipush X (pc := 28) (v := 20) (by decide) d_M_rule_28 ?_
      refine AW.icmp_ne X (pc := 30) 36 d_M_rule_30 (by decide) (fun c_30 => absurd c_30 (by rw [i_eq (nI_toInt (show nr < 2 ^ 31 by omega)) (show (20 : Int32).toInt = 20 by decide)]; omega)) (fun c_30 => ?_)
      refine AW.bipush X (pc := 33) (v := -4) (by decide) d_M_rule_33 ?_
      exact hret 35 _ _ _ d_M_rule_35 (by rw [if_neg (by rw [hb]; exact b_tf), if_pos h20]; exact ⟨rfl, _, rfl⟩)
    · refine AW.aload_n X (pc := 0) 0 rfl rfl d_M_rule_0 ?_
      refine AW.iconst X (pc := 1) (v := 0) (by decide) d_M_rule_1 ?_
      refine AW.put X (pc := 2) (k := 250) (ci := 5) (j := 0) (x := 0) (ty := .int) ft_M (by omega) rfl rfl in_M ft_M_ok n_M (by decide) wf_M_72 rfl rfl rfl rfl rfl d_M_rule_2 ?_
      refine AW.aload_n X (pc := 5) 0 rfl rfl d_M_rule_5 ?_
      refine AW.callV X (pc := 6) (b := 250) (ci := 5) (nA := 0) [] [] (c_M_reads (kOf G ad N) σ nr (m_up μ 250 0 0) hN hI (hM.thr 0) hB) (gv_V wm_M_139 wi_M_reads wl_M_reads wn_M kw_M_reads) rfl (by decide +kernel) rfl (by omega) rfl rfl ⟨Nat.le_of_ble_eq_true rfl, Nat.le_of_ble_eq_true rfl⟩ ⟨Nat.zero_le _, Nat.zero_le _⟩ (Nat.le_of_ble_eq_true rfl) d_M_rule_6 rfl (fun v μb hq => ?_)
      rw [if_neg (by rw [hb]; exact b_tf)] at hq
      obtain ⟨rfl, q, hm⟩ := hq
      rw [if_neg h20] at hm
      rw [hm]
      clear hm
      show AW G (rmD 4) 2 (0, 0, ad, N, fb) 9 [(0, .ref 250)] [.int (-1)] (rlW (m_up μ 250 0 0) q nr (rd (sgA σ) (tlN σ)).2.2.1 (rd (sgA σ) (tlN σ)).2.2.2.1 (rd (sgA σ) (tlN σ)).2.2.2.2)
      refine AW.istore_n X (pc := 9) (lv2 := [(1, .int (-1)), (0, .ref 250)]) rfl d_M_rule_9 (by decide) rfl ?_
      refine AW.aload_n X (pc := 10) 1 rfl rfl d_M_rule_10 ?_
      refine AW.iconst X (pc := 11) (v := 0) (by decide) d_M_rule_11 ?_
      refine AW.put X (pc := 12) (k := 250) (ci := 5) (j := 2) (x := 0) (ty := .int) ft_M (by omega) rfl rfl in_M ft_M_ok n_M (by decide) wf_M_84 rfl rfl rfl rfl rfl d_M_rule_12 ?_
      refine AW.iload_n X (pc := 15) 0 rfl rfl d_M_rule_15 ?_
      refine AW.if_lt X (pc := 16) 24 d_M_rule_16 (by decide) (fun c_16 => ?_) (fun c_16 => absurd c_16 (by decide))
      refine AW.aload_n X (pc := 24) 1 rfl rfl d_M_rule_24 ?_
      refine AW.get X (pc := 25) (k := 250) (ci := 5) (j := 4) (v := .int ((m_up (rlW (m_up μ 250 0 0) q nr (rd (sgA σ) (tlN σ)).2.2.1 (rd (sgA σ) (tlN σ)).2.2.2.1 (rd (sgA σ) (tlN σ)).2.2.2.2) 250 2 0) 250 4)) (by omega) rfl rfl in_M (by decide) wf_M_81 rfl rfl d_M_rule_25 ?_
      refine AW.val (w := .int (nI nr)) (congrArg Value.int ((m_up_ne (by omega)).trans (rlW_4 ((hM.thr 0).1.ru)))) ?_
      refine AW.bipush X (pc := 28) (v := 20) (by decide) d_M_rule_28 ?_
      refine AW.icmp_ne X (pc := 30) 36 d_M_rule_30 (by decide) (fun c_30 => ?_) (fun c_30 => absurd c_30 (by rw [i_eq (nI_toInt (show nr < 2 ^ 31 by omega)) (show (20 : Int32).toInt = 20 by decide)]; omega))
      refine AW.aload_n X (pc := 36) 1 rfl rfl d_M_rule_36 ?_
      refine AW.dup X (pc := 37) rfl d_M_rule_37 ?_
      refine AW.get X (pc := 38) (k := 250) (ci := 5) (j := 4) (v := .int ((m_up (rlW (m_up μ 250 0 0) q nr (rd (sgA σ) (tlN σ)).2.2.1 (rd (sgA σ) (tlN σ)).2.2.2.1 (rd (sgA σ) (tlN σ)).2.2.2.2) 250 2 0) 250 4)) (by omega) rfl rfl in_M (by decide) wf_M_81 rfl rfl d_M_rule_38 ?_
      refine AW.val (w := .int (nI nr)) (congrArg Value.int ((m_up_ne (by omega)).trans (rlW_4 ((hM.thr 0).1.ru)))) ?_
      refine AW.iconst X (pc := 41) (v := 1) (by decide) d_M_rule_41 ?_
      refine AW.iadd X (pc := 42) d_M_rule_42 ?_
      refine AW.val (w := .int (nI (nr + 1))) (congrArg Value.int (nI_add nr 1)) ?_
      refine AW.put X (pc := 43) (k := 250) (ci := 5) (j := 4) (x := nI (nr + 1)) (ty := .int) ft_M (by omega) rfl rfl in_M ft_M_ok n_M (by decide) wf_M_81 rfl rfl rfl rfl rfl d_M_rule_43 ?_
      refine AW.aload_n X (pc := 46) 1 rfl rfl d_M_rule_46 ?_
      refine AW.get X (pc := 47) (k := 250) (ci := 5) (j := 4) (v := .int ((m_up (m_up (rlW (m_up μ 250 0 0) q nr (rd (sgA σ) (tlN σ)).2.2.1 (rd (sgA σ) (tlN σ)).2.2.2.1 (rd (sgA σ) (tlN σ)).2.2.2.2) 250 2 0) 250 4 (nI (nr + 1))) 250 4)) (by omega) rfl rfl in_M (by decide) wf_M_81 rfl rfl d_M_rule_47 ?_
      refine AW.val (w := .int (nI (nr + 1))) (congrArg Value.int (m_up_self _ _ _ _)) ?_
      refine AW.iconst X (pc := 50) (v := 1) (by decide) d_M_rule_50 ?_
      refine AW.isub X (pc := 51) d_M_rule_51 ?_
      exact hret 52 _ _ _ d_M_rule_52 (by rw [if_neg (by rw [hb]; exact b_tf), if_neg h20]; exact ⟨by rw [nI_pred], _, rfl⟩)
