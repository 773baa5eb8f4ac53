set_option maxHeartbeats 4000000 in
set_option maxRecDepth 100000 in
theorem c_T_readYears (K : KTy) (p : Nat) (μ : Mu) (hN : 272 ≤ KN K) (ht : μ 1 1 = nI (tlN μ)) (ht4 : tlN μ ≤ 40) (hp : μ 1 2 = nI p) (hpt : p ≤ tlN μ) : CT K y_T_readYears (k_T_readYears :: GT) 1 [.ref 1] μ (fun v μ2 => v = some (.int (bi (decide (p < (dgR (sgA μ) 3 p 0).1)))) ∧ TS μ μ2 ∧ μ2 1 2 = nI (dgR (sgA μ) 3 p 0).1 ∧ μ2 1 4 = (dgR (sgA μ) 3 p 0).2 ∧ μ2 1 3 = μ 1 3 ∧ μ2 1 5 = μ 1 5) := by
  refine CT.bool (cc := b_T_readYears) (maxL := 2) (by decide) rfl rfl (Nat.le_of_ble_eq_true rfl) ?_
  intro G ad N hK X hret
  subst hK
  have hN : 272 ≤ N := hN
  show AW G (rmD 1) 2 (0, 0, ad, N, fb) 0 [(0, .ref 1)] [] μ
  have key : ∀ (n q : Nat) (x : Int32) (μ1 : Mu), 3 + p - q < n → p ≤ q → q ≤ p + 3 → q ≤ tlN μ → dgR (sgA μ) (3 + p - q) q x = (dgR (sgA μ) 3 p 0) → TS μ μ1 → μ1 1 2 = nI q → μ1 1 4 = x → μ1 1 3 = μ 1 3 ∧ μ1 1 5 = μ 1 5 → AW G (rmD 1) 2 (0, 0, ad, N, fb) 10 [(1, .int (nI p)), (0, .ref 1)] [] μ1 := by
    intro n
    induction n with
    | zero =>
      intro q x μ1 hlt
      exact absurd hlt (Nat.not_lt_zero _)
    | succ n ih =>
      intro q x μ1 hlt hpq hq3 hqt hd hTS h2 h4 h35
      have ht1 : μ1 1 1 = nI (tlN μ1) := by rw [hTS.t1, hTS.tl]; exact ht
      have ht41 : tlN μ1 ≤ 40 := by rw [hTS.tl]; exact ht4
      have hsg := hTS.sg
      refine AW.aload_n X (pc := 10) 1 rfl rfl d_T_readYears_10 ?_
      refine AW.get X (pc := 11) (k := 1) (ci := 2) (j := 2) (v := .int (μ1 1 2)) (by omega) rfl rfl in_T (by decide) wf_T_19 rfl rfl d_T_readYears_11 ?_
      refine AW.val (w := .int (nI q)) (congrArg Value.int (h2)) ?_
      refine AW.iload_n X (pc := 14) 0 rfl rfl d_T_readYears_14 ?_
      refine AW.isub X (pc := 15) d_T_readYears_15 ?_
      refine AW.val (w := .int (nI (q - p))) (congrArg Value.int (pk_sub hpq)) ?_
      refine AW.iconst X (pc := 16) (v := 3) (by decide) d_T_readYears_16 ?_
      refine AW.icmp_ge X (pc := 17) 70 d_T_readYears_17 (by decide) (fun c_17 => ?_) (fun c_17 => ?_)
      · rw [i_le (show (3 : Int32).toInt = 3 by decide) (nI_toInt (show q - p < 2 ^ 31 by omega))] at c_17
        refine AW.aload_n X (pc := 70) 1 rfl rfl d_T_readYears_70 ?_
        refine AW.get X (pc := 71) (k := 1) (ci := 2) (j := 2) (v := .int (μ1 1 2)) (by omega) rfl rfl in_T (by decide) wf_T_19 rfl rfl d_T_readYears_71 ?_
        refine AW.val (w := .int (nI q)) (congrArg Value.int (h2)) ?_
        refine AW.iload_n X (pc := 74) 0 rfl rfl d_T_readYears_74 ?_
        refine AW.icmp_le X (pc := 75) 82 d_T_readYears_75 (by decide) (fun c_75 => ?_) (fun c_75 => ?_)
        · rw [i_le (nI_toInt (show q < 2 ^ 31 by omega)) (nI_toInt (show p < 2 ^ 31 by omega))] at c_75
          refine AW.iconst X (pc := 82) (v := 0) (by decide) d_T_readYears_82 ?_
          have hD : (dgR (sgA μ) 3 p 0) = (q, x) := by rw [← hd, show 3 + p - q = 0 by omega, dgR]
          exact hret 83 _ _ _ d_T_readYears_83 rfl (by rw [hD]; exact ⟨by rw [decide_eq_false (by omega)]; rfl, hTS, h2, h4, h35⟩)
        · rw [i_le (nI_toInt (show q < 2 ^ 31 by omega)) (nI_toInt (show p < 2 ^ 31 by omega))] at c_75
          refine AW.iconst X (pc := 78) (v := 1) (by decide) d_T_readYears_78 ?_
          refine AW.goto X (pc := 79) 83 d_T_readYears_79 (by decide) ?_
          have hD : (dgR (sgA μ) 3 p 0) = (q, x) := by rw [← hd, show 3 + p - q = 0 by omega, dgR]
          exact hret 83 _ _ _ d_T_readYears_83 rfl (by rw [hD]; exact ⟨by rw [decide_eq_true (by omega)]; rfl, hTS, h2, h4, h35⟩)
      · rw [i_le (show (3 : Int32).toInt = 3 by decide) (nI_toInt (show q - p < 2 ^ 31 by omega))] at c_17
        refine AW.aload_n X (pc := 20) 1 rfl rfl d_T_readYears_20 ?_
        refine AW.aload_n X (pc := 21) 1 rfl rfl d_T_readYears_21 ?_
        refine AW.get X (pc := 22) (k := 1) (ci := 2) (j := 2) (v := .int (μ1 1 2)) (by omega) rfl rfl in_T (by decide) wf_T_19 rfl rfl d_T_readYears_22 ?_
        refine AW.val (w := .int (nI q)) (congrArg Value.int (h2)) ?_
        refine AW.callV X (pc := 25) (b := 1) (ci := 2) (nA := 1) [.int (nI q)] [] (c_T_signAt (kOf G ad N) q μ1 hN ht1 ht41 (by omega)) (gv_V wm_T_60 wi_T_signAt wl_T_signAt wn_T kw_T_signAt) rfl (by decide +kernel) rfl (by omega) rfl rfl ⟨Nat.le_of_ble_eq_true rfl, Nat.le_of_ble_eq_true rfl⟩ ⟨Nat.zero_le _, Nat.zero_le _⟩ (Nat.le_of_ble_eq_true rfl) d_T_readYears_25 rfl (fun v μ2 hq => ?_)
        obtain ⟨rfl, hm⟩ := hq
        rw [hm]
        clear hm
        show AW G (rmD 1) 2 (0, 0, ad, N, fb) 28 [(1, .int (nI p)), (0, .ref 1)] [.int (sgA μ1 q)] μ1
        refine AW.callS X (pc := 28) (nA := 1) [.int (sgA μ1 q)] [] (c_T_isDigit (kOf G ad N) (sgA μ1 q) μ1 hN) (gv_S wm_T_64 ws_T_isDigit wn_T kw_T_isDigit) rfl (by decide +kernel) rfl ⟨Nat.le_of_ble_eq_true rfl, Nat.le_of_ble_eq_true rfl⟩ ⟨Nat.zero_le _, Nat.zero_le _⟩ (Nat.le_of_ble_eq_true rfl) d_T_readYears_28 rfl (fun v μ2 hq => ?_)
        obtain ⟨rfl, hm⟩ := hq
        rw [hm]
        clear hm
        show AW G (rmD 1) 2 (0, 0, ad, N, fb) 31 [(1, .int (nI p)), (0, .ref 1)] [.int (bi (dgB (sgA μ1 q)))] μ1
        refine AW.if_eq X (pc := 31) 70 d_T_readYears_31 (by decide) (fun c_31 => ?_) (fun c_31 => ?_)
        · have c_31 := bi_eq.mp c_31
          rw [hsg] at c_31
          refine AW.aload_n X (pc := 70) 1 rfl rfl d_T_readYears_70 ?_
          refine AW.get X (pc := 71) (k := 1) (ci := 2) (j := 2) (v := .int (μ1 1 2)) (by omega) rfl rfl in_T (by decide) wf_T_19 rfl rfl d_T_readYears_71 ?_
          refine AW.val (w := .int (nI q)) (congrArg Value.int (h2)) ?_
          refine AW.iload_n X (pc := 74) 0 rfl rfl d_T_readYears_74 ?_
          refine AW.icmp_le X (pc := 75) 82 d_T_readYears_75 (by decide) (fun c_75 => ?_) (fun c_75 => ?_)
          · rw [i_le (nI_toInt (show q < 2 ^ 31 by omega)) (nI_toInt (show p < 2 ^ 31 by omega))] at c_75
            refine AW.iconst X (pc := 82) (v := 0) (by decide) d_T_readYears_82 ?_
            have hD : (dgR (sgA μ) 3 p 0) = (q, x) := by rw [← hd, show 3 + p - q = (2 + p - q) + 1 by omega, dgR, if_neg (by rw [c_31]; decide)]
            exact hret 83 _ _ _ d_T_readYears_83 rfl (by rw [hD]; exact ⟨by rw [decide_eq_false (by omega)]; rfl, hTS, h2, h4, h35⟩)
          · rw [i_le (nI_toInt (show q < 2 ^ 31 by omega)) (nI_toInt (show p < 2 ^ 31 by omega))] at c_75
            refine AW.iconst X (pc := 78) (v := 1) (by decide) d_T_readYears_78 ?_
            refine AW.goto X (pc := 79) 83 d_T_readYears_79 (by decide) ?_
            have hD : (dgR (sgA μ) 3 p 0) = (q, x) := by rw [← hd, show 3 + p - q = (2 + p - q) + 1 by omega, dgR, if_neg (by rw [c_31]; decide)]
            exact hret 83 _ _ _ d_T_readYears_83 rfl (by rw [hD]; exact ⟨by rw [decide_eq_true (by omega)]; rfl, hTS, h2, h4, h35⟩)
        · have c_31 := bi_ne.mp c_31
          rw [hsg] at c_31
          refine AW.aload_n X (pc := 34) 1 rfl rfl d_T_readYears_34 ?_
          refine AW.aload_n X (pc := 35) 1 rfl rfl d_T_readYears_35 ?_
          refine AW.get X (pc := 36) (k := 1) (ci := 2) (j := 4) (v := .int (μ1 1 4)) (by omega) rfl rfl in_T (by decide) wf_T_38 rfl rfl d_T_readYears_36 ?_
          refine AW.val (w := .int x) (congrArg Value.int (h4)) ?_
          refine AW.bipush X (pc := 39) (v := 10) (by decide) d_T_readYears_39 ?_
          refine AW.imul X (pc := 41) d_T_readYears_41 ?_
          refine AW.aload_n X (pc := 42) 1 rfl rfl d_T_readYears_42 ?_
          refine AW.aload_n X (pc := 43) 1 rfl rfl d_T_readYears_43 ?_
          refine AW.get X (pc := 44) (k := 1) (ci := 2) (j := 2) (v := .int (μ1 1 2)) (by omega) rfl rfl in_T (by decide) wf_T_19 rfl rfl d_T_readYears_44 ?_
          refine AW.val (w := .int (nI q)) (congrArg Value.int (h2)) ?_
          refine AW.callV X (pc := 47) (b := 1) (ci := 2) (nA := 1) [.int (nI q)] [.int (x * 10), .ref 1] (c_T_signAt (kOf G ad N) q μ1 hN ht1 ht41 (by omega)) (gv_V wm_T_60 wi_T_signAt wl_T_signAt wn_T kw_T_signAt) rfl (by decide +kernel) rfl (by omega) rfl rfl ⟨Nat.le_of_ble_eq_true rfl, Nat.le_of_ble_eq_true rfl⟩ ⟨Nat.zero_le _, Nat.zero_le _⟩ (Nat.le_of_ble_eq_true rfl) d_T_readYears_47 rfl (fun v μ2 hq => ?_)
          obtain ⟨rfl, hm⟩ := hq
          rw [hm]
          clear hm
          show AW G (rmD 1) 2 (0, 0, ad, N, fb) 50 [(1, .int (nI p)), (0, .ref 1)] [.int (sgA μ1 q), .int (x * 10), .ref 1] μ1
          refine AW.iadd X (pc := 50) d_T_readYears_50 ?_
          refine AW.bipush X (pc := 51) (v := 48) (by decide) d_T_readYears_51 ?_
          refine AW.isub X (pc := 53) d_T_readYears_53 ?_
          refine AW.put X (pc := 54) (k := 1) (ci := 2) (j := 4) (x := ((x * 10) + (sgA μ1 q)) - 48) (ty := .int) ft_T (by omega) rfl rfl in_T ft_T_ok n_T (by decide) wf_T_38 rfl rfl rfl rfl rfl d_T_readYears_54 ?_
          refine AW.aload_n X (pc := 57) 1 rfl rfl d_T_readYears_57 ?_
          refine AW.dup X (pc := 58) rfl d_T_readYears_58 ?_
          refine AW.get X (pc := 59) (k := 1) (ci := 2) (j := 2) (v := .int ((m_up μ1 1 4 (((x * 10) + (sgA μ1 q)) - 48)) 1 2)) (by omega) rfl rfl in_T (by decide) wf_T_19 rfl rfl d_T_readYears_59 ?_
          refine AW.val (w := .int (nI q)) (congrArg Value.int ((m_up_ne (by omega)).trans h2)) ?_
          refine AW.iconst X (pc := 62) (v := 1) (by decide) d_T_readYears_62 ?_
          refine AW.iadd X (pc := 63) d_T_readYears_63 ?_
          refine AW.val (w := .int (nI (q + 1))) (congrArg Value.int (nI_add q 1)) ?_
          refine AW.put X (pc := 64) (k := 1) (ci := 2) (j := 2) (x := nI (q + 1)) (ty := .int) ft_T (by omega) rfl rfl in_T ft_T_ok n_T (by decide) wf_T_19 rfl rfl rfl rfl rfl d_T_readYears_64 ?_
          refine AW.goto X (pc := 67) 10 d_T_readYears_67 (by decide) ?_
          have hlt2 : q < tlN μ := by
            rcases Nat.lt_or_ge q (tlN μ) with h | h
            · exact h
            · rw [sgA_dg h] at c_31; cases c_31
          exact ih (q + 1) (x * 10 + sgA μ q - 48) _ (by omega) (by omega) (by omega) (by omega) (by rw [← hd, show 3 + p - q = (3 + p - (q + 1)) + 1 by omega, dgR, if_pos c_31]) ((hTS.up (by decide) (by decide)).up (by decide) (by decide)) (m_up_self _ _ _ _) ((m_up_ne (by omega)).trans ((m_up_self _ _ _ _).trans (by rw [hsg]))) ⟨((m_up_ne (by omega)).trans (m_up_ne (by omega))).trans h35.1, ((m_up_ne (by omega)).trans (m_up_ne (by omega))).trans h35.2⟩
  refine AW.aload_n X (pc := 0) 0 rfl rfl d_T_readYears_0 ?_
  refine AW.get X (pc := 1) (k := 1) (ci := 2) (j := 2) (v := .int (μ 1 2)) (by omega) rfl rfl in_T (by decide) wf_T_19 rfl rfl d_T_readYears_1 ?_
  refine AW.val (w := .int (nI p)) (congrArg Value.int (hp)) ?_
  refine AW.istore_n X (pc := 4) (lv2 := [(1, .int (nI p)), (0, .ref 1)]) rfl d_T_readYears_4 (by decide) rfl ?_
  refine AW.aload_n X (pc := 5) 1 rfl rfl d_T_readYears_5 ?_
  refine AW.iconst X (pc := 6) (v := 0) (by decide) d_T_readYears_6 ?_
  refine AW.put X (pc := 7) (k := 1) (ci := 2) (j := 4) (x := 0) (ty := .int) ft_T (by omega) rfl rfl in_T ft_T_ok n_T (by decide) wf_T_38 rfl rfl rfl rfl rfl d_T_readYears_7 ?_
  exact key 4 p 0 _ (by omega) (Nat.le_refl _) (by omega) hpt (by rw [Nat.add_sub_cancel]) ((TS.refl μ).up (by decide) (by decide)) ((m_up_ne (by omega)).trans hp) (m_up_self _ _ _ _) ⟨m_up_ne (by omega), m_up_ne (by omega)⟩
set_option maxHeartbeats 4000000 in
set_option maxRecDepth 100000 in
theorem c_T_read (K : KTy)  (μ : Mu) (hN : 272 ≤ KN K) (ht : μ 1 1 = nI (tlN μ)) (ht4 : tlN μ ≤ 40) : CT K y_T_read (k_T_read :: GT) 6 [.ref 1] μ (fun v μ2 => v = some (.int (bi (rd (sgA μ) (tlN μ)).1)) ∧ TS μ μ2 ∧ μ2 1 2 = nI (rd (sgA μ) (tlN μ)).2.1 ∧ ((rd (sgA μ) (tlN μ)).1 = true → μ2 1 3 = nI (rd (sgA μ) (tlN μ)).2.2.1 ∧ μ2 1 4 = (rd (sgA μ) (tlN μ)).2.2.2.1 ∧ μ2 1 5 = nI (rd (sgA μ) (tlN μ)).2.2.2.2)) := by
  refine CT.bool (cc := b_T_read) (maxL := 1) (by decide) rfl rfl (Nat.le_of_ble_eq_true rfl) ?_
  intro G ad N hK X hret
  subst hK
  have hN : 272 ≤ N := hN
  show AW G (rmD 6) 1 (0, 0, ad, N, fb) 0 [(0, .ref 1)] [] μ
  have hE1 := wE_tl μ 41 0 (Nat.zero_le _)
  have hTSa : TS μ (m_up μ 1 2 0) := (TS.refl μ).up (by decide) (by decide)
  have ha2 : m_up μ 1 2 0 1 2 = nI 0 := (m_up_self _ _ _ _).trans nI_0.symm
  have hta : (m_up μ 1 2 0) 1 1 = nI (tlN (m_up μ 1 2 0)) := by rw [hTSa.t1, hTSa.tl]; exact ht
  have htta : tlN (m_up μ 1 2 0) ≤ 40 := by rw [hTSa.tl]; exact ht4
  by_cases k1 : evK (sgA μ) 0 (wE (sgA μ) 41 0) = 4
  · refine AW.aload_n X (pc := 0) 0 rfl rfl d_T_read_0 ?_
    refine AW.iconst X (pc := 1) (v := 0) (by decide) d_T_read_1 ?_
    refine AW.put X (pc := 2) (k := 1) (ci := 2) (j := 2) (x := 0) (ty := .int) ft_T (by omega) rfl rfl in_T ft_T_ok n_T (by decide) wf_T_19 rfl rfl rfl rfl rfl d_T_read_2 ?_
    refine AW.aload_n X (pc := 5) 0 rfl rfl d_T_read_5 ?_
    refine AW.callV X (pc := 6) (b := 1) (ci := 2) (nA := 0) [] [] (c_T_readEvent (kOf G ad N) 0 (m_up μ 1 2 0) hN hta htta ha2 (Nat.zero_le _)) (gv_V wm_T_22 wi_T_readEvent wl_T_readEvent wn_T kw_T_readEvent) rfl (by decide +kernel) rfl (by omega) rfl rfl ⟨Nat.le_of_ble_eq_true rfl, Nat.le_of_ble_eq_true rfl⟩ ⟨Nat.zero_le _, Nat.zero_le _⟩ (Nat.le_of_ble_eq_true rfl) d_T_read_6 rfl (fun v μb hq => ?_)
    rw [hTSa.sg, if_pos k1] at hq
    obtain ⟨rfl, hmb⟩ := hq
    have hTSb : TS μ μb := by rw [hmb]; exact hTSa
    have hb2 : μb 1 2 = nI 0 := by rw [hmb]; exact ha2
    show AW G (rmD 6) 1 (0, 0, ad, N, fb) 9 [(0, .ref 1)] [.int 0] μb
    refine AW.if_eq X (pc := 9) 55 d_T_read_9 (by decide) (fun c_9 => ?_) (fun c_9 => absurd c_9 (by decide))
    refine AW.iconst X (pc := 55) (v := 0) (by decide) d_T_read_55 ?_
    have hrd : rd (sgA μ) (tlN μ) = (false, 0, 0, 0, 0) := by rw [rd, if_pos k1]
    exact hret 56 _ _ _ d_T_read_56 rfl (by rw [hrd]; exact ⟨rfl, hTSb, hb2, fun h => nomatch h⟩)
  by_cases k2 : (sgA μ) (wE (sgA μ) 41 0) = 32
  rotate_left
  · refine AW.aload_n X (pc := 0) 0 rfl rfl d_T_read_0 ?_
    refine AW.iconst X (pc := 1) (v := 0) (by decide) d_T_read_1 ?_
    refine AW.put X (pc := 2) (k := 1) (ci := 2) (j := 2) (x := 0) (ty := .int) ft_T (by omega) rfl rfl in_T ft_T_ok n_T (by decide) wf_T_19 rfl rfl rfl rfl rfl d_T_read_2 ?_
    refine AW.aload_n X (pc := 5) 0 rfl rfl d_T_read_5 ?_
    refine AW.callV X (pc := 6) (b := 1) (ci := 2) (nA := 0) [] [] (c_T_readEvent (kOf G ad N) 0 (m_up μ 1 2 0) hN hta htta ha2 (Nat.zero_le _)) (gv_V wm_T_22 wi_T_readEvent wl_T_readEvent wn_T kw_T_readEvent) rfl (by decide +kernel) rfl (by omega) rfl rfl ⟨Nat.le_of_ble_eq_true rfl, Nat.le_of_ble_eq_true rfl⟩ ⟨Nat.zero_le _, Nat.zero_le _⟩ (Nat.le_of_ble_eq_true rfl) d_T_read_6 rfl (fun v μb hq => ?_)
    rw [hTSa.sg, if_neg k1] at hq
    obtain ⟨rfl, hmb⟩ := hq
    have hTSb : TS μ μb := by rw [hmb]; exact (hTSa.up (by decide) (by decide)).up (by decide) (by decide)
    have hb2 : μb 1 2 = nI (wE (sgA μ) 41 0) := by rw [hmb]; exact m_up_self _ _ _ _
    have hb3 : μb 1 3 = nI (evK (sgA μ) 0 (wE (sgA μ) 41 0)) := by rw [hmb, m_up_ne (by omega)]; exact m_up_self _ _ _ _
    have htb : μb 1 1 = nI (tlN μb) := by rw [hTSb.t1, hTSb.tl]; exact ht
    have httb : tlN μb ≤ 40 := by rw [hTSb.tl]; exact ht4
    show AW G (rmD 6) 1 (0, 0, ad, N, fb) 9 [(0, .ref 1)] [.int 1] μb
    refine AW.if_eq X (pc := 9) 55 d_T_read_9 (by decide) (fun c_9 => absurd c_9 (by decide)) (fun c_9 => ?_)
    refine AW.aload_n X (pc := 12) 0 rfl rfl d_T_read_12 ?_
    refine AW.callV X (pc := 13) (b := 1) (ci := 2) (nA := 0) [] [] (c_T_readSpace (kOf G ad N) (wE (sgA μ) 41 0) μb hN htb httb hb2 (by rw [hTSb.tl]; exact hE1)) (gv_V wm_T_26 wi_T_readSpace wl_T_readSpace wn_T kw_T_readSpace) rfl (by decide +kernel) rfl (by omega) rfl rfl ⟨Nat.le_of_ble_eq_true rfl, Nat.le_of_ble_eq_true rfl⟩ ⟨Nat.zero_le _, Nat.zero_le _⟩ (Nat.le_of_ble_eq_true rfl) d_T_read_13 rfl (fun v μc hq => ?_)
    rw [hTSb.sg, if_neg k2] at hq
    obtain ⟨rfl, hmc⟩ := hq
    have hTSc : TS μ μc := by rw [hmc]; exact hTSb
    have hc2 : μc 1 2 = nI (wE (sgA μ) 41 0) := by rw [hmc]; exact hb2
    show AW G (rmD 6) 1 (0, 0, ad, N, fb) 16 [(0, .ref 1)] [.int 0] μc
    refine AW.if_eq X (pc := 16) 55 d_T_read_16 (by decide) (fun c_16 => ?_) (fun c_16 => absurd c_16 (by decide))
    refine AW.iconst X (pc := 55) (v := 0) (by decide) d_T_read_55 ?_
    have hrd : rd (sgA μ) (tlN μ) = (false, (wE (sgA μ) 41 0), 0, 0, 0) := by rw [rd, if_neg k1, if_pos k2]
    exact hret 56 _ _ _ d_T_read_56 rfl (by rw [hrd]; exact ⟨rfl, hTSc, hc2, fun h => nomatch h⟩)
  have hE1s : (wE (sgA μ) 41 0) + 1 ≤ tlN μ := by
    rcases Nat.lt_or_ge (wE (sgA μ) 41 0) (tlN μ) with h | h
    · exact h
    · have q := k2; rw [sgA_out h] at q; exact absurd q (by decide)
  have hDD := dg_tl μ 3 ((wE (sgA μ) 41 0) + 1) 0 hE1s
  have hDg := dgR_ge (sgA μ) 3 ((wE (sgA μ) 41 0) + 1) 0
  by_cases k3 : (dgR (sgA μ) 3 ((wE (sgA μ) 41 0) + 1) 0).1 = (wE (sgA μ) 41 0) + 1
  · refine AW.aload_n X (pc := 0) 0 rfl rfl d_T_read_0 ?_
    refine AW.iconst X (pc := 1) (v := 0) (by decide) d_T_read_1 ?_
    refine AW.put X (pc := 2) (k := 1) (ci := 2) (j := 2) (x := 0) (ty := .int) ft_T (by omega) rfl rfl in_T ft_T_ok n_T (by decide) wf_T_19 rfl rfl rfl rfl rfl d_T_read_2 ?_
    refine AW.aload_n X (pc := 5) 0 rfl rfl d_T_read_5 ?_
    refine AW.callV X (pc := 6) (b := 1) (ci := 2) (nA := 0) [] [] (c_T_readEvent (kOf G ad N) 0 (m_up μ 1 2 0) hN hta htta ha2 (Nat.zero_le _)) (gv_V wm_T_22 wi_T_readEvent wl_T_readEvent wn_T kw_T_readEvent) rfl (by decide +kernel) rfl (by omega) rfl rfl ⟨Nat.le_of_ble_eq_true rfl, Nat.le_of_ble_eq_true rfl⟩ ⟨Nat.zero_le _, Nat.zero_le _⟩ (Nat.le_of_ble_eq_true rfl) d_T_read_6 rfl (fun v μb hq => ?_)
    rw [hTSa.sg, if_neg k1] at hq
    obtain ⟨rfl, hmb⟩ := hq
    have hTSb : TS μ μb := by rw [hmb]; exact (hTSa.up (by decide) (by decide)).up (by decide) (by decide)
    have hb2 : μb 1 2 = nI (wE (sgA μ) 41 0) := by rw [hmb]; exact m_up_self _ _ _ _
    have hb3 : μb 1 3 = nI (evK (sgA μ) 0 (wE (sgA μ) 41 0)) := by rw [hmb, m_up_ne (by omega)]; exact m_up_self _ _ _ _
    have htb : μb 1 1 = nI (tlN μb) := by rw [hTSb.t1, hTSb.tl]; exact ht
    have httb : tlN μb ≤ 40 := by rw [hTSb.tl]; exact ht4
    show AW G (rmD 6) 1 (0, 0, ad, N, fb) 9 [(0, .ref 1)] [.int 1] μb
    refine AW.if_eq X (pc := 9) 55 d_T_read_9 (by decide) (fun c_9 => absurd c_9 (by decide)) (fun c_9 => ?_)
    refine AW.aload_n X (pc := 12) 0 rfl rfl d_T_read_12 ?_
    refine AW.callV X (pc := 13) (b := 1) (ci := 2) (nA := 0) [] [] (c_T_readSpace (kOf G ad N) (wE (sgA μ) 41 0) μb hN htb httb hb2 (by rw [hTSb.tl]; exact hE1)) (gv_V wm_T_26 wi_T_readSpace wl_T_readSpace wn_T kw_T_readSpace) rfl (by decide +kernel) rfl (by omega) rfl rfl ⟨Nat.le_of_ble_eq_true rfl, Nat.le_of_ble_eq_true rfl⟩ ⟨Nat.zero_le _, Nat.zero_le _⟩ (Nat.le_of_ble_eq_true rfl) d_T_read_13 rfl (fun v μc hq => ?_)
    rw [hTSb.sg, if_pos k2] at hq
    obtain ⟨rfl, hmc⟩ := hq
    have hTSc : TS μ μc := by rw [hmc]; exact hTSb.up (by decide) (by decide)
    have hc2 : μc 1 2 = nI ((wE (sgA μ) 41 0) + 1) := by rw [hmc]; exact m_up_self _ _ _ _
    have hc3 : μc 1 3 = nI (evK (sgA μ) 0 (wE (sgA μ) 41 0)) := by rw [hmc, m_up_ne (by omega)]; exact hb3
    have htc : μc 1 1 = nI (tlN μc) := by rw [hTSc.t1, hTSc.tl]; exact ht
    have httc : tlN μc ≤ 40 := by rw [hTSc.tl]; exact ht4
    show AW G (rmD 6) 1 (0, 0, ad, N, fb) 16 [(0, .ref 1)] [.int 1] μc
    refine AW.if_eq X (pc := 16) 55 d_T_read_16 (by decide) (fun c_16 => absurd c_16 (by decide)) (fun c_16 => ?_)
    refine AW.aload_n X (pc := 19) 0 rfl rfl d_T_read_19 ?_
    refine AW.callV X (pc := 20) (b := 1) (ci := 2) (nA := 0) [] [] (c_T_readYears (kOf G ad N) ((wE (sgA μ) 41 0) + 1) μc hN htc httc hc2 (by rw [hTSc.tl]; exact hE1s)) (gv_V wm_T_29 wi_T_readYears wl_T_readYears wn_T kw_T_readYears) rfl (by decide +kernel) rfl (by omega) rfl rfl ⟨Nat.le_of_ble_eq_true rfl, Nat.le_of_ble_eq_true rfl⟩ ⟨Nat.zero_le _, Nat.zero_le _⟩ (Nat.le_of_ble_eq_true rfl) d_T_read_20 rfl (fun v μd hq => ?_)
    rw [hTSc.sg] at hq
    obtain ⟨hv, hTSd, hd2, hd4, hd3, -⟩ := hq
    have hTSd : TS μ μd := hTSc.trans hTSd
    have hd3 : μd 1 3 = nI (evK (sgA μ) 0 (wE (sgA μ) 41 0)) := hd3.trans hc3
    have htd : μd 1 1 = nI (tlN μd) := by rw [hTSd.t1, hTSd.tl]; exact ht
    have httd : tlN μd ≤ 40 := by rw [hTSd.tl]; exact ht4
    rw [decide_eq_false (by omega)] at hv
    subst hv
    show AW G (rmD 6) 1 (0, 0, ad, N, fb) 23 [(0, .ref 1)] [.int 0] μd
    refine AW.if_eq X (pc := 23) 55 d_T_read_23 (by decide) (fun c_23 => ?_) (fun c_23 => absurd c_23 (by decide))
    refine AW.iconst X (pc := 55) (v := 0) (by decide) d_T_read_55 ?_
    have hrd : rd (sgA μ) (tlN μ) = (false, (wE (sgA μ) 41 0) + 1, 0, 0, 0) := by rw [rd, if_neg k1, if_neg (not_not_intro k2), if_pos k3]
    exact hret 56 _ _ _ d_T_read_56 rfl (by rw [hrd]; exact ⟨rfl, hTSd, (by rw [hd2, k3]), fun h => nomatch h⟩)
  by_cases k4 : (sgA μ) (dgR (sgA μ) 3 ((wE (sgA μ) 41 0) + 1) 0).1 = 32
  rotate_left
  · refine AW.aload_n X (pc := 0) 0 rfl rfl d_T_read_0 ?_
    refine AW.iconst X (pc := 1) (v := 0) (by decide) d_T_read_1 ?_
    refine AW.put X (pc := 2) (k := 1) (ci := 2) (j := 2) (x := 0) (ty := .int) ft_T (by omega) rfl rfl in_T ft_T_ok n_T (by decide) wf_T_19 rfl rfl rfl rfl rfl d_T_read_2 ?_
    refine AW.aload_n X (pc := 5) 0 rfl rfl d_T_read_5 ?_
    refine AW.callV X (pc := 6) (b := 1) (ci := 2) (nA := 0) [] [] (c_T_readEvent (kOf G ad N) 0 (m_up μ 1 2 0) hN hta htta ha2 (Nat.zero_le _)) (gv_V wm_T_22 wi_T_readEvent wl_T_readEvent wn_T kw_T_readEvent) rfl (by decide +kernel) rfl (by omega) rfl rfl ⟨Nat.le_of_ble_eq_true rfl, Nat.le_of_ble_eq_true rfl⟩ ⟨Nat.zero_le _, Nat.zero_le _⟩ (Nat.le_of_ble_eq_true rfl) d_T_read_6 rfl (fun v μb hq => ?_)
    rw [hTSa.sg, if_neg k1] at hq
    obtain ⟨rfl, hmb⟩ := hq
    have hTSb : TS μ μb := by rw [hmb]; exact (hTSa.up (by decide) (by decide)).up (by decide) (by decide)
    have hb2 : μb 1 2 = nI (wE (sgA μ) 41 0) := by rw [hmb]; exact m_up_self _ _ _ _
    have hb3 : μb 1 3 = nI (evK (sgA μ) 0 (wE (sgA μ) 41 0)) := by rw [hmb, m_up_ne (by omega)]; exact m_up_self _ _ _ _
    have htb : μb 1 1 = nI (tlN μb) := by rw [hTSb.t1, hTSb.tl]; exact ht
    have httb : tlN μb ≤ 40 := by rw [hTSb.tl]; exact ht4
    show AW G (rmD 6) 1 (0, 0, ad, N, fb) 9 [(0, .ref 1)] [.int 1] μb
    refine AW.if_eq X (pc := 9) 55 d_T_read_9 (by decide) (fun c_9 => absurd c_9 (by decide)) (fun c_9 => ?_)
    refine AW.aload_n X (pc := 12) 0 rfl rfl d_T_read_12 ?_
    refine AW.callV X (pc := 13) (b := 1) (ci := 2) (nA := 0) [] [] (c_T_readSpace (kOf G ad N) (wE (sgA μ) 41 0) μb hN htb httb hb2 (by rw [hTSb.tl]; exact hE1)) (gv_V wm_T_26 wi_T_readSpace wl_T_readSpace wn_T kw_T_readSpace) rfl (by decide +kernel) rfl (by omega) rfl rfl ⟨Nat.le_of_ble_eq_true rfl, Nat.le_of_ble_eq_true rfl⟩ ⟨Nat.zero_le _, Nat.zero_le _⟩ (Nat.le_of_ble_eq_true rfl) d_T_read_13 rfl (fun v μc hq => ?_)
    rw [hTSb.sg, if_pos k2] at hq
    obtain ⟨rfl, hmc⟩ := hq
    have hTSc : TS μ μc := by rw [hmc]; exact hTSb.up (by decide) (by decide)
    have hc2 : μc 1 2 = nI ((wE (sgA μ) 41 0) + 1) := by rw [hmc]; exact m_up_self _ _ _ _
    have hc3 : μc 1 3 = nI (evK (sgA μ) 0 (wE (sgA μ) 41 0)) := by rw [hmc, m_up_ne (by omega)]; exact hb3
    have htc : μc 1 1 = nI (tlN μc) := by rw [hTSc.t1, hTSc.tl]; exact ht
    have httc : tlN μc ≤ 40 := by rw [hTSc.tl]; exact ht4
    show AW G (rmD 6) 1 (0, 0, ad, N, fb) 16 [(0, .ref 1)] [.int 1] μc
    refine AW.if_eq X (pc := 16) 55 d_T_read_16 (by decide) (fun c_16 => absurd c_16 (by decide)) (fun c_16 => ?_)
    refine AW.aload_n X (pc := 19) 0 rfl rfl d_T_read_19 ?_
    refine AW.callV X (pc := 20) (b := 1) (ci := 2) (nA := 0) [] [] (c_T_readYears (kOf G ad N) ((wE (sgA μ) 41 0) + 1) μc hN htc httc hc2 (by rw [hTSc.tl]; exact hE1s)) (gv_V wm_T_29 wi_T_readYears wl_T_readYears wn_T kw_T_readYears) rfl (by decide +kernel) rfl (by omega) rfl rfl ⟨Nat.le_of_ble_eq_true rfl, Nat.le_of_ble_eq_true rfl⟩ ⟨Nat.zero_le _, Nat.zero_le _⟩ (Nat.le_of_ble_eq_true rfl) d_T_read_20 rfl (fun v μd hq => ?_)
    rw [hTSc.sg] at hq
    obtain ⟨hv, hTSd, hd2, hd4, hd3, -⟩ := hq
    have hTSd : TS μ μd := hTSc.trans hTSd
    have hd3 : μd 1 3 = nI (evK (sgA μ) 0 (wE (sgA μ) 41 0)) := hd3.trans hc3
    have htd : μd 1 1 = nI (tlN μd) := by rw [hTSd.t1, hTSd.tl]; exact ht
    have httd : tlN μd ≤ 40 := by rw [hTSd.tl]; exact ht4
    rw [decide_eq_true (by omega)] at hv
    subst hv
    show AW G (rmD 6) 1 (0, 0, ad, N, fb) 23 [(0, .ref 1)] [.int 1] μd
    refine AW.if_eq X (pc := 23) 55 d_T_read_23 (by decide) (fun c_23 => absurd c_23 (by decide)) (fun c_23 => ?_)
    refine AW.aload_n X (pc := 26) 0 rfl rfl d_T_read_26 ?_
    refine AW.callV X (pc := 27) (b := 1) (ci := 2) (nA := 0) [] [] (c_T_readSpace (kOf G ad N) (dgR (sgA μ) 3 ((wE (sgA μ) 41 0) + 1) 0).1 μd hN htd httd hd2 (by rw [hTSd.tl]; exact hDD)) (gv_V wm_T_26 wi_T_readSpace wl_T_readSpace wn_T kw_T_readSpace) rfl (by decide +kernel) rfl (by omega) rfl rfl ⟨Nat.le_of_ble_eq_true rfl, Nat.le_of_ble_eq_true rfl⟩ ⟨Nat.zero_le _, Nat.zero_le _⟩ (Nat.le_of_ble_eq_true rfl) d_T_read_27 rfl (fun v μe hq => ?_)
    rw [hTSd.sg, if_neg k4] at hq
    obtain ⟨rfl, hme⟩ := hq
    have hTSe : TS μ μe := by rw [hme]; exact hTSd
    have he2 : μe 1 2 = nI (dgR (sgA μ) 3 ((wE (sgA μ) 41 0) + 1) 0).1 := by rw [hme]; exact hd2
    show AW G (rmD 6) 1 (0, 0, ad, N, fb) 30 [(0, .ref 1)] [.int 0] μe
    refine AW.if_eq X (pc := 30) 55 d_T_read_30 (by decide) (fun c_30 => ?_) (fun c_30 => absurd c_30 (by decide))
    refine AW.iconst X (pc := 55) (v := 0) (by decide) d_T_read_55 ?_
    have hrd : rd (sgA μ) (tlN μ) = (false, (dgR (sgA μ) 3 ((wE (sgA μ) 41 0) + 1) 0).1, 0, 0, 0) := by rw [rd, if_neg k1, if_neg (not_not_intro k2), if_neg k3, if_pos k4]
    exact hret 56 _ _ _ d_T_read_56 rfl (by rw [hrd]; exact ⟨rfl, hTSe, he2, fun h => nomatch h⟩)
  have hP3 : ((dgR (sgA μ) 3 ((wE (sgA μ) 41 0) + 1) 0).1 + 1) ≤ tlN μ := by
    rcases Nat.lt_or_ge (dgR (sgA μ) 3 ((wE (sgA μ) 41 0) + 1) 0).1 (tlN μ) with h | h
    · exact h
    · have q := k4; rw [sgA_out h] at q; exact absurd q (by decide)
  have hE2 := wE_tl μ 41 ((dgR (sgA μ) 3 ((wE (sgA μ) 41 0) + 1) 0).1 + 1) hP3
  by_cases k5 : acK (sgA μ) ((dgR (sgA μ) 3 ((wE (sgA μ) 41 0) + 1) 0).1 + 1) (wE (sgA μ) 41 ((dgR (sgA μ) 3 ((wE (sgA μ) 41 0) + 1) 0).1 + 1)) = 2
  · refine AW.aload_n X (pc := 0) 0 rfl rfl d_T_read_0 ?_
    refine AW.iconst X (pc := 1) (v := 0) (by decide) d_T_read_1 ?_
    refine AW.put X (pc := 2) (k := 1) (ci := 2) (j := 2) (x := 0) (ty := .int) ft_T (by omega) rfl rfl in_T ft_T_ok n_T (by decide) wf_T_19 rfl rfl rfl rfl rfl d_T_read_2 ?_
    refine AW.aload_n X (pc := 5) 0 rfl rfl d_T_read_5 ?_
    refine AW.callV X (pc := 6) (b := 1) (ci := 2) (nA := 0) [] [] (c_T_readEvent (kOf G ad N) 0 (m_up μ 1 2 0) hN hta htta ha2 (Nat.zero_le _)) (gv_V wm_T_22 wi_T_readEvent wl_T_readEvent wn_T kw_T_readEvent) rfl (by decide +kernel) rfl (by omega) rfl rfl ⟨Nat.le_of_ble_eq_true rfl, Nat.le_of_ble_eq_true rfl⟩ ⟨Nat.zero_le _, Nat.zero_le _⟩ (Nat.le_of_ble_eq_true rfl) d_T_read_6 rfl (fun v μb hq => ?_)
    rw [hTSa.sg, if_neg k1] at hq
    obtain ⟨rfl, hmb⟩ := hq
    have hTSb : TS μ μb := by rw [hmb]; exact (hTSa.up (by decide) (by decide)).up (by decide) (by decide)
    have hb2 : μb 1 2 = nI (wE (sgA μ) 41 0) := by rw [hmb]; exact m_up_self _ _ _ _
    have hb3 : μb 1 3 = nI (evK (sgA μ) 0 (wE (sgA μ) 41 0)) := by rw [hmb, m_up_ne (by omega)]; exact m_up_self _ _ _ _
    have htb : μb 1 1 = nI (tlN μb) := by rw [hTSb.t1, hTSb.tl]; exact ht
    have httb : tlN μb ≤ 40 := by rw [hTSb.tl]; exact ht4
    show AW G (rmD 6) 1 (0, 0, ad, N, fb) 9 [(0, .ref 1)] [.int 1] μb
    refine AW.if_eq X (pc := 9) 55 d_T_read_9 (by decide) (fun c_9 => absurd c_9 (by decide)) (fun c_9 => ?_)
    refine AW.aload_n X (pc := 12) 0 rfl rfl d_T_read_12 ?_
    refine AW.callV X (pc := 13) (b := 1) (ci := 2) (nA := 0) [] [] (c_T_readSpace (kOf G ad N) (wE (sgA μ) 41 0) μb hN htb httb hb2 (by rw [hTSb.tl]; exact hE1)) (gv_V wm_T_26 wi_T_readSpace wl_T_readSpace wn_T kw_T_readSpace) rfl (by decide +kernel) rfl (by omega) rfl rfl ⟨Nat.le_of_ble_eq_true rfl, Nat.le_of_ble_eq_true rfl⟩ ⟨Nat.zero_le _, Nat.zero_le _⟩ (Nat.le_of_ble_eq_true rfl) d_T_read_13 rfl (fun v μc hq => ?_)
    rw [hTSb.sg, if_pos k2] at hq
    obtain ⟨rfl, hmc⟩ := hq
    have hTSc : TS μ μc := by rw [hmc]; exact hTSb.up (by decide) (by decide)
    have hc2 : μc 1 2 = nI ((wE (sgA μ) 41 0) + 1) := by rw [hmc]; exact m_up_self _ _ _ _
    have hc3 : μc 1 3 = nI (evK (sgA μ) 0 (wE (sgA μ) 41 0)) := by rw [hmc, m_up_ne (by omega)]; exact hb3
    have htc : μc 1 1 = nI (tlN μc) := by rw [hTSc.t1, hTSc.tl]; exact ht
    have httc : tlN μc ≤ 40 := by rw [hTSc.tl]; exact ht4
    show AW G (rmD 6) 1 (0, 0, ad, N, fb) 16 [(0, .ref 1)] [.int 1] μc
    refine AW.if_eq X (pc := 16) 55 d_T_read_16 (by decide) (fun c_16 => absurd c_16 (by decide)) (fun c_16 => ?_)
    refine AW.aload_n X (pc := 19) 0 rfl rfl d_T_read_19 ?_
    refine AW.callV X (pc := 20) (b := 1) (ci := 2) (nA := 0) [] [] (c_T_readYears (kOf G ad N) ((wE (sgA μ) 41 0) + 1) μc hN htc httc hc2 (by rw [hTSc.tl]; exact hE1s)) (gv_V wm_T_29 wi_T_readYears wl_T_readYears wn_T kw_T_readYears) rfl (by decide +kernel) rfl (by omega) rfl rfl ⟨Nat.le_of_ble_eq_true rfl, Nat.le_of_ble_eq_true rfl⟩ ⟨Nat.zero_le _, Nat.zero_le _⟩ (Nat.le_of_ble_eq_true rfl) d_T_read_20 rfl (fun v μd hq => ?_)
    rw [hTSc.sg] at hq
    obtain ⟨hv, hTSd, hd2, hd4, hd3, -⟩ := hq
    have hTSd : TS μ μd := hTSc.trans hTSd
    have hd3 : μd 1 3 = nI (evK (sgA μ) 0 (wE (sgA μ) 41 0)) := hd3.trans hc3
    have htd : μd 1 1 = nI (tlN μd) := by rw [hTSd.t1, hTSd.tl]; exact ht
    have httd : tlN μd ≤ 40 := by rw [hTSd.tl]; exact ht4
    rw [decide_eq_true (by omega)] at hv
    subst hv
    show AW G (rmD 6) 1 (0, 0, ad, N, fb) 23 [(0, .ref 1)] [.int 1] μd
    refine AW.if_eq X (pc := 23) 55 d_T_read_23 (by decide) (fun c_23 => absurd c_23 (by decide)) (fun c_23 => ?_)
    refine AW.aload_n X (pc := 26) 0 rfl rfl d_T_read_26 ?_
    refine AW.callV X (pc := 27) (b := 1) (ci := 2) (nA := 0) [] [] (c_T_readSpace (kOf G ad N) (dgR (sgA μ) 3 ((wE (sgA μ) 41 0) + 1) 0).1 μd hN htd httd hd2 (by rw [hTSd.tl]; exact hDD)) (gv_V wm_T_26 wi_T_readSpace wl_T_readSpace wn_T kw_T_readSpace) rfl (by decide +kernel) rfl (by omega) rfl rfl ⟨Nat.le_of_ble_eq_true rfl, Nat.le_of_ble_eq_true rfl⟩ ⟨Nat.zero_le _, Nat.zero_le _⟩ (Nat.le_of_ble_eq_true rfl) d_T_read_27 rfl (fun v μe hq => ?_)
    rw [hTSd.sg, if_pos k4] at hq
    obtain ⟨rfl, hme⟩ := hq
    have hTSe : TS μ μe := by rw [hme]; exact hTSd.up (by decide) (by decide)
    have he2 : μe 1 2 = nI ((dgR (sgA μ) 3 ((wE (sgA μ) 41 0) + 1) 0).1 + 1) := by rw [hme]; exact m_up_self _ _ _ _
    have he3 : μe 1 3 = nI (evK (sgA μ) 0 (wE (sgA μ) 41 0)) := by rw [hme, m_up_ne (by omega)]; exact hd3
    have he4 : μe 1 4 = (dgR (sgA μ) 3 ((wE (sgA μ) 41 0) + 1) 0).2 := by rw [hme, m_up_ne (by omega)]; exact hd4
    have hte : μe 1 1 = nI (tlN μe) := by rw [hTSe.t1, hTSe.tl]; exact ht
    have htte : tlN μe ≤ 40 := by rw [hTSe.tl]; exact ht4
    show AW G (rmD 6) 1 (0, 0, ad, N, fb) 30 [(0, .ref 1)] [.int 1] μe
    refine AW.if_eq X (pc := 30) 55 d_T_read_30 (by decide) (fun c_30 => absurd c_30 (by decide)) (fun c_30 => ?_)
    refine AW.aload_n X (pc := 33) 0 rfl rfl d_T_read_33 ?_
    refine AW.callV X (pc := 34) (b := 1) (ci := 2) (nA := 0) [] [] (c_T_readAction (kOf G ad N) ((dgR (sgA μ) 3 ((wE (sgA μ) 41 0) + 1) 0).1 + 1) μe hN hte htte he2 (by rw [hTSe.tl]; exact hP3)) (gv_V wm_T_32 wi_T_readAction wl_T_readAction wn_T kw_T_readAction) rfl (by decide +kernel) rfl (by omega) rfl rfl ⟨Nat.le_of_ble_eq_true rfl, Nat.le_of_ble_eq_true rfl⟩ ⟨Nat.zero_le _, Nat.zero_le _⟩ (Nat.le_of_ble_eq_true rfl) d_T_read_34 rfl (fun v μf hq => ?_)
    rw [hTSe.sg, if_pos k5] at hq
    obtain ⟨rfl, hmf⟩ := hq
    have hTSf : TS μ μf := by rw [hmf]; exact hTSe
    have hf2 : μf 1 2 = nI ((dgR (sgA μ) 3 ((wE (sgA μ) 41 0) + 1) 0).1 + 1) := by rw [hmf]; exact he2
    show AW G (rmD 6) 1 (0, 0, ad, N, fb) 37 [(0, .ref 1)] [.int 0] μf
    refine AW.if_eq X (pc := 37) 55 d_T_read_37 (by decide) (fun c_37 => ?_) (fun c_37 => absurd c_37 (by decide))
    refine AW.iconst X (pc := 55) (v := 0) (by decide) d_T_read_55 ?_
    have hrd : rd (sgA μ) (tlN μ) = (false, ((dgR (sgA μ) 3 ((wE (sgA μ) 41 0) + 1) 0).1 + 1), 0, 0, 0) := by rw [rd, if_neg k1, if_neg (not_not_intro k2), if_neg k3, if_neg (not_not_intro k4), if_pos k5]
    exact hret 56 _ _ _ d_T_read_56 rfl (by rw [hrd]; exact ⟨rfl, hTSf, hf2, fun h => nomatch h⟩)
  by_cases k6 : (wE (sgA μ) 41 ((dgR (sgA μ) 3 ((wE (sgA μ) 41 0) + 1) 0).1 + 1)) = tlN μ
  rotate_left
  · refine AW.aload_n X (pc := 0) 0 rfl rfl d_T_read_0 ?_
    refine AW.iconst X (pc := 1) (v := 0) (by decide) d_T_read_1 ?_
    refine AW.put X (pc := 2) (k := 1) (ci := 2) (j := 2) (x := 0) (ty := .int) ft_T (by omega) rfl rfl in_T ft_T_ok n_T (by decide) wf_T_19 rfl rfl rfl rfl rfl d_T_read_2 ?_
    refine AW.aload_n X (pc := 5) 0 rfl rfl d_T_read_5 ?_
    refine AW.callV X (pc := 6) (b := 1) (ci := 2) (nA := 0) [] [] (c_T_readEvent (kOf G ad N) 0 (m_up μ 1 2 0) hN hta htta ha2 (Nat.zero_le _)) (gv_V wm_T_22 wi_T_readEvent wl_T_readEvent wn_T kw_T_readEvent) rfl (by decide +kernel) rfl (by omega) rfl rfl ⟨Nat.le_of_ble_eq_true rfl, Nat.le_of_ble_eq_true rfl⟩ ⟨Nat.zero_le _, Nat.zero_le _⟩ (Nat.le_of_ble_eq_true rfl) d_T_read_6 rfl (fun v μb hq => ?_)
    rw [hTSa.sg, if_neg k1] at hq
    obtain ⟨rfl, hmb⟩ := hq
    have hTSb : TS μ μb := by rw [hmb]; exact (hTSa.up (by decide) (by decide)).up (by decide) (by decide)
    have hb2 : μb 1 2 = nI (wE (sgA μ) 41 0) := by rw [hmb]; exact m_up_self _ _ _ _
    have hb3 : μb 1 3 = nI (evK (sgA μ) 0 (wE (sgA μ) 41 0)) := by rw [hmb, m_up_ne (by omega)]; exact m_up_self _ _ _ _
    have htb : μb 1 1 = nI (tlN μb) := by rw [hTSb.t1, hTSb.tl]; exact ht
    have httb : tlN μb ≤ 40 := by rw [hTSb.tl]; exact ht4
    show AW G (rmD 6) 1 (0, 0, ad, N, fb) 9 [(0, .ref 1)] [.int 1] μb
    refine AW.if_eq X (pc := 9) 55 d_T_read_9 (by decide) (fun c_9 => absurd c_9 (by decide)) (fun c_9 => ?_)
    refine AW.aload_n X (pc := 12) 0 rfl rfl d_T_read_12 ?_
    refine AW.callV X (pc := 13) (b := 1) (ci := 2) (nA := 0) [] [] (c_T_readSpace (kOf G ad N) (wE (sgA μ) 41 0) μb hN htb httb hb2 (by rw [hTSb.tl]; exact hE1)) (gv_V wm_T_26 wi_T_readSpace wl_T_readSpace wn_T kw_T_readSpace) rfl (by decide +kernel) rfl (by omega) rfl rfl ⟨Nat.le_of_ble_eq_true rfl, Nat.le_of_ble_eq_true rfl⟩ ⟨Nat.zero_le _, Nat.zero_le _⟩ (Nat.le_of_ble_eq_true rfl) d_T_read_13 rfl (fun v μc hq => ?_)
    rw [hTSb.sg, if_pos k2] at hq
    obtain ⟨rfl, hmc⟩ := hq
    have hTSc : TS μ μc := by rw [hmc]; exact hTSb.up (by decide) (by decide)
    have hc2 : μc 1 2 = nI ((wE (sgA μ) 41 0) + 1) := by rw [hmc]; exact m_up_self _ _ _ _
    have hc3 : μc 1 3 = nI (evK (sgA μ) 0 (wE (sgA μ) 41 0)) := by rw [hmc, m_up_ne (by omega)]; exact hb3
    have htc : μc 1 1 = nI (tlN μc) := by rw [hTSc.t1, hTSc.tl]; exact ht
    have httc : tlN μc ≤ 40 := by rw [hTSc.tl]; exact ht4
    show AW G (rmD 6) 1 (0, 0, ad, N, fb) 16 [(0, .ref 1)] [.int 1] μc
    refine AW.if_eq X (pc := 16) 55 d_T_read_16 (by decide) (fun c_16 => absurd c_16 (by decide)) (fun c_16 => ?_)
    refine AW.aload_n X (pc := 19) 0 rfl rfl d_T_read_19 ?_
    refine AW.callV X (pc := 20) (b := 1) (ci := 2) (nA := 0) [] [] (c_T_readYears (kOf G ad N) ((wE (sgA μ) 41 0) + 1) μc hN htc httc hc2 (by rw [hTSc.tl]; exact hE1s)) (gv_V wm_T_29 wi_T_readYears wl_T_readYears wn_T kw_T_readYears) rfl (by decide +kernel) rfl (by omega) rfl rfl ⟨Nat.le_of_ble_eq_true rfl, Nat.le_of_ble_eq_true rfl⟩ ⟨Nat.zero_le _, Nat.zero_le _⟩ (Nat.le_of_ble_eq_true rfl) d_T_read_20 rfl (fun v μd hq => ?_)
    rw [hTSc.sg] at hq
    obtain ⟨hv, hTSd, hd2, hd4, hd3, -⟩ := hq
    have hTSd : TS μ μd := hTSc.trans hTSd
    have hd3 : μd 1 3 = nI (evK (sgA μ) 0 (wE (sgA μ) 41 0)) := hd3.trans hc3
    have htd : μd 1 1 = nI (tlN μd) := by rw [hTSd.t1, hTSd.tl]; exact ht
    have httd : tlN μd ≤ 40 := by rw [hTSd.tl]; exact ht4
    rw [decide_eq_true (by omega)] at hv
    subst hv
    show AW G (rmD 6) 1 (0, 0, ad, N, fb) 23 [(0, .ref 1)] [.int 1] μd
    refine AW.if_eq X (pc := 23) 55 d_T_read_23 (by decide) (fun c_23 => absurd c_23 (by decide)) (fun c_23 => ?_)
    refine AW.aload_n X (pc := 26) 0 rfl rfl d_T_read_26 ?_
    refine AW.callV X (pc := 27) (b := 1) (ci := 2) (nA := 0) [] [] (c_T_readSpace (kOf G ad N) (dgR (sgA μ) 3 ((wE (sgA μ) 41 0) + 1) 0).1 μd hN htd httd hd2 (by rw [hTSd.tl]; exact hDD)) (gv_V wm_T_26 wi_T_readSpace wl_T_readSpace wn_T kw_T_readSpace) rfl (by decide +kernel) rfl (by omega) rfl rfl ⟨Nat.le_of_ble_eq_true rfl, Nat.le_of_ble_eq_true rfl⟩ ⟨Nat.zero_le _, Nat.zero_le _⟩ (Nat.le_of_ble_eq_true rfl) d_T_read_27 rfl (fun v μe hq => ?_)
    rw [hTSd.sg, if_pos k4] at hq
    obtain ⟨rfl, hme⟩ := hq
    have hTSe : TS μ μe := by rw [hme]; exact hTSd.up (by decide) (by decide)
    have he2 : μe 1 2 = nI ((dgR (sgA μ) 3 ((wE (sgA μ) 41 0) + 1) 0).1 + 1) := by rw [hme]; exact m_up_self _ _ _ _
    have he3 : μe 1 3 = nI (evK (sgA μ) 0 (wE (sgA μ) 41 0)) := by rw [hme, m_up_ne (by omega)]; exact hd3
    have he4 : μe 1 4 = (dgR (sgA μ) 3 ((wE (sgA μ) 41 0) + 1) 0).2 := by rw [hme, m_up_ne (by omega)]; exact hd4
    have hte : μe 1 1 = nI (tlN μe) := by rw [hTSe.t1, hTSe.tl]; exact ht
    have htte : tlN μe ≤ 40 := by rw [hTSe.tl]; exact ht4
    show AW G (rmD 6) 1 (0, 0, ad, N, fb) 30 [(0, .ref 1)] [.int 1] μe
    refine AW.if_eq X (pc := 30) 55 d_T_read_30 (by decide) (fun c_30 => absurd c_30 (by decide)) (fun c_30 => ?_)
    refine AW.aload_n X (pc := 33) 0 rfl rfl d_T_read_33 ?_
    refine AW.callV X (pc := 34) (b := 1) (ci := 2) (nA := 0) [] [] (c_T_readAction (kOf G ad N) ((dgR (sgA μ) 3 ((wE (sgA μ) 41 0) + 1) 0).1 + 1) μe hN hte htte he2 (by rw [hTSe.tl]; exact hP3)) (gv_V wm_T_32 wi_T_readAction wl_T_readAction wn_T kw_T_readAction) rfl (by decide +kernel) rfl (by omega) rfl rfl ⟨Nat.le_of_ble_eq_true rfl, Nat.le_of_ble_eq_true rfl⟩ ⟨Nat.zero_le _, Nat.zero_le _⟩ (Nat.le_of_ble_eq_true rfl) d_T_read_34 rfl (fun v μf hq => ?_)
    rw [hTSe.sg, if_neg k5] at hq
    obtain ⟨rfl, hmf⟩ := hq
    have hTSf : TS μ μf := by rw [hmf]; exact (hTSe.up (by decide) (by decide)).up (by decide) (by decide)
    have hf2 : μf 1 2 = nI (wE (sgA μ) 41 ((dgR (sgA μ) 3 ((wE (sgA μ) 41 0) + 1) 0).1 + 1)) := by rw [hmf]; exact m_up_self _ _ _ _
    have hf3 : μf 1 3 = nI (evK (sgA μ) 0 (wE (sgA μ) 41 0)) := by rw [hmf, m_up_ne (by omega), m_up_ne (by omega)]; exact he3
    have hf4 : μf 1 4 = (dgR (sgA μ) 3 ((wE (sgA μ) 41 0) + 1) 0).2 := by rw [hmf, m_up_ne (by omega), m_up_ne (by omega)]; exact he4
    have hf5 : μf 1 5 = nI (acK (sgA μ) ((dgR (sgA μ) 3 ((wE (sgA μ) 41 0) + 1) 0).1 + 1) (wE (sgA μ) 41 ((dgR (sgA μ) 3 ((wE (sgA μ) 41 0) + 1) 0).1 + 1))) := by rw [hmf, m_up_ne (by omega)]; exact m_up_self _ _ _ _
    have htf : μf 1 1 = nI (tlN μf) := by rw [hTSf.t1, hTSf.tl]; exact ht
    have httf : tlN μf ≤ 40 := by rw [hTSf.tl]; exact ht4
    show AW G (rmD 6) 1 (0, 0, ad, N, fb) 37 [(0, .ref 1)] [.int 1] μf
    refine AW.if_eq X (pc := 37) 55 d_T_read_37 (by decide) (fun c_37 => absurd c_37 (by decide)) (fun c_37 => ?_)
    refine AW.aload_n X (pc := 40) 0 rfl rfl d_T_read_40 ?_
    refine AW.get X (pc := 41) (k := 1) (ci := 2) (j := 2) (v := .int (μf 1 2)) (by omega) rfl rfl in_T (by decide) wf_T_19 rfl rfl d_T_read_41 ?_
    refine AW.val (w := .int (nI (wE (sgA μ) 41 ((dgR (sgA μ) 3 ((wE (sgA μ) 41 0) + 1) 0).1 + 1)))) (congrArg Value.int (hf2)) ?_
    refine AW.aload_n X (pc := 44) 0 rfl rfl d_T_read_44 ?_
    refine AW.get X (pc := 45) (k := 1) (ci := 2) (j := 1) (v := .int (μf 1 1)) (by omega) rfl rfl in_T (by decide) wf_T_15 rfl rfl d_T_read_45 ?_
    refine AW.val (w := .int (nI (tlN μ))) (congrArg Value.int (hTSf.t1.trans ht)) ?_
    refine AW.icmp_ne X (pc := 48) 55 d_T_read_48 (by decide) (fun c_48 => ?_) (fun c_48 => absurd ((nI_eq (by omega) (by omega)).mp c_48) k6)
    refine AW.iconst X (pc := 55) (v := 0) (by decide) d_T_read_55 ?_
    have hrd : rd (sgA μ) (tlN μ) = (false, (wE (sgA μ) 41 ((dgR (sgA μ) 3 ((wE (sgA μ) 41 0) + 1) 0).1 + 1)), 0, 0, 0) := by rw [rd, if_neg k1, if_neg (not_not_intro k2), if_neg k3, if_neg (not_not_intro k4), if_neg k5, if_pos k6]
    exact hret 56 _ _ _ d_T_read_56 rfl (by rw [hrd]; exact ⟨rfl, hTSf, hf2, fun h => nomatch h⟩)
  refine AW.aload_n X (pc := 0) 0 rfl rfl d_T_read_0 ?_
  refine AW.iconst X (pc := 1) (v := 0) (by decide) d_T_read_1 ?_
  refine AW.put X (pc := 2) (k := 1) (ci := 2) (j := 2) (x := 0) (ty := .int) ft_T (by omega) rfl rfl in_T ft_T_ok n_T (by decide) wf_T_19 rfl rfl rfl rfl rfl d_T_read_2 ?_
  refine AW.aload_n X (pc := 5) 0 rfl rfl d_T_read_5 ?_
  refine AW.callV X (pc := 6) (b := 1) (ci := 2) (nA := 0) [] [] (c_T_readEvent (kOf G ad N) 0 (m_up μ 1 2 0) hN hta htta ha2 (Nat.zero_le _)) (gv_V wm_T_22 wi_T_readEvent wl_T_readEvent wn_T kw_T_readEvent) rfl (by decide +kernel) rfl (by omega) rfl rfl ⟨Nat.le_of_ble_eq_true rfl, Nat.le_of_ble_eq_true rfl⟩ ⟨Nat.zero_le _, Nat.zero_le _⟩ (Nat.le_of_ble_eq_true rfl) d_T_read_6 rfl (fun v μb hq => ?_)
  rw [hTSa.sg, if_neg k1] at hq
  obtain ⟨rfl, hmb⟩ := hq
  have hTSb : TS μ μb := by rw [hmb]; exact (hTSa.up (by decide) (by decide)).up (by decide) (by decide)
  have hb2 : μb 1 2 = nI (wE (sgA μ) 41 0) := by rw [hmb]; exact m_up_self _ _ _ _
  have hb3 : μb 1 3 = nI (evK (sgA μ) 0 (wE (sgA μ) 41 0)) := by rw [hmb, m_up_ne (by omega)]; exact m_up_self _ _ _ _
  have htb : μb 1 1 = nI (tlN μb) := by rw [hTSb.t1, hTSb.tl]; exact ht
  have httb : tlN μb ≤ 40 := by rw [hTSb.tl]; exact ht4
  show AW G (rmD 6) 1 (0, 0, ad, N, fb) 9 [(0, .ref 1)] [.int 1] μb
  refine AW.if_eq X (pc := 9) 55 d_T_read_9 (by decide) (fun c_9 => absurd c_9 (by decide)) (fun c_9 => ?_)
  refine AW.aload_n X (pc := 12) 0 rfl rfl d_T_read_12 ?_
  refine AW.callV X (pc := 13) (b := 1) (ci := 2) (nA := 0) [] [] (c_T_readSpace (kOf G ad N) (wE (sgA μ) 41 0) μb hN htb httb hb2 (by rw [hTSb.tl]; exact hE1)) (gv_V wm_T_26 wi_T_readSpace wl_T_readSpace wn_T kw_T_readSpace) rfl (by decide +kernel) rfl (by omega) rfl rfl ⟨Nat.le_of_ble_eq_true rfl, Nat.le_of_ble_eq_true rfl⟩ ⟨Nat.zero_le _, Nat.zero_le _⟩ (Nat.le_of_ble_eq_true rfl) d_T_read_13 rfl (fun v μc hq => ?_)
  rw [hTSb.sg, if_pos k2] at hq
  obtain ⟨rfl, hmc⟩ := hq
  have hTSc : TS μ μc := by rw [hmc]; exact hTSb.up (by decide) (by decide)
  have hc2 : μc 1 2 = nI ((wE (sgA μ) 41 0) + 1) := by rw [hmc]; exact m_up_self _ _ _ _
  have hc3 : μc 1 3 = nI (evK (sgA μ) 0 (wE (sgA μ) 41 0)) := by rw [hmc, m_up_ne (by omega)]; exact hb3
  have htc : μc 1 1 = nI (tlN μc) := by rw [hTSc.t1, hTSc.tl]; exact ht
  have httc : tlN μc ≤ 40 := by rw [hTSc.tl]; exact ht4
  show AW G (rmD 6) 1 (0, 0, ad, N, fb) 16 [(0, .ref 1)] [.int 1] μc
  refine AW.if_eq X (pc := 16) 55 d_T_read_16 (by decide) (fun c_16 => absurd c_16 (by decide)) (fun c_16 => ?_)
  refine AW.aload_n X (pc := 19) 0 rfl rfl d_T_read_19 ?_
  refine AW.callV X (pc := 20) (b := 1) (ci := 2) (nA := 0) [] [] (c_T_readYears (kOf G ad N) ((wE (sgA μ) 41 0) + 1) μc hN htc httc hc2 (by rw [hTSc.tl]; exact hE1s)) (gv_V wm_T_29 wi_T_readYears wl_T_readYears wn_T kw_T_readYears) rfl (by decide +kernel) rfl (by omega) rfl rfl ⟨Nat.le_of_ble_eq_true rfl, Nat.le_of_ble_eq_true rfl⟩ ⟨Nat.zero_le _, Nat.zero_le _⟩ (Nat.le_of_ble_eq_true rfl) d_T_read_20 rfl (fun v μd hq => ?_)
  rw [hTSc.sg] at hq
  obtain ⟨hv, hTSd, hd2, hd4, hd3, -⟩ := hq
  have hTSd : TS μ μd := hTSc.trans hTSd
  have hd3 : μd 1 3 = nI (evK (sgA μ) 0 (wE (sgA μ) 41 0)) := hd3.trans hc3
  have htd : μd 1 1 = nI (tlN μd) := by rw [hTSd.t1, hTSd.tl]; exact ht
  have httd : tlN μd ≤ 40 := by rw [hTSd.tl]; exact ht4
  rw [decide_eq_true (by omega)] at hv
  subst hv
  show AW G (rmD 6) 1 (0, 0, ad, N, fb) 23 [(0, .ref 1)] [.int 1] μd
  refine AW.if_eq X (pc := 23) 55 d_T_read_23 (by decide) (fun c_23 => absurd c_23 (by decide)) (fun c_23 => ?_)
  refine AW.aload_n X (pc := 26) 0 rfl rfl d_T_read_26 ?_
  refine AW.callV X (pc := 27) (b := 1) (ci := 2) (nA := 0) [] [] (c_T_readSpace (kOf G ad N) (dgR (sgA μ) 3 ((wE (sgA μ) 41 0) + 1) 0).1 μd hN htd httd hd2 (by rw [hTSd.tl]; exact hDD)) (gv_V wm_T_26 wi_T_readSpace wl_T_readSpace wn_T kw_T_readSpace) rfl (by decide +kernel) rfl (by omega) rfl rfl ⟨Nat.le_of_ble_eq_true rfl, Nat.le_of_ble_eq_true rfl⟩ ⟨Nat.zero_le _, Nat.zero_le _⟩ (Nat.le_of_ble_eq_true rfl) d_T_read_27 rfl (fun v μe hq => ?_)
  rw [hTSd.sg, if_pos k4] at hq
  obtain ⟨rfl, hme⟩ := hq
  have hTSe : TS μ μe := by rw [hme]; exact hTSd.up (by decide) (by decide)
  have he2 : μe 1 2 = nI ((dgR (sgA μ) 3 ((wE (sgA μ) 41 0) + 1) 0).1 + 1) := by rw [hme]; exact m_up_self _ _ _ _
  have he3 : μe 1 3 = nI (evK (sgA μ) 0 (wE (sgA μ) 41 0)) := by rw [hme, m_up_ne (by omega)]; exact hd3
  have he4 : μe 1 4 = (dgR (sgA μ) 3 ((wE (sgA μ) 41 0) + 1) 0).2 := by rw [hme, m_up_ne (by omega)]; exact hd4
  have hte : μe 1 1 = nI (tlN μe) := by rw [hTSe.t1, hTSe.tl]; exact ht
  have htte : tlN μe ≤ 40 := by rw [hTSe.tl]; exact ht4
  show AW G (rmD 6) 1 (0, 0, ad, N, fb) 30 [(0, .ref 1)] [.int 1] μe
  refine AW.if_eq X (pc := 30) 55 d_T_read_30 (by decide) (fun c_30 => absurd c_30 (by decide)) (fun c_30 => ?_)
  refine AW.aload_n X (pc := 33) 0 rfl rfl d_T_read_33 ?_
  refine AW.callV X (pc := 34) (b := 1) (ci := 2) (nA := 0) [] [] (c_T_readAction (kOf G ad N) ((dgR (sgA μ) 3 ((wE (sgA μ) 41 0) + 1) 0).1 + 1) μe hN hte htte he2 (by rw [hTSe.tl]; exact hP3)) (gv_V wm_T_32 wi_T_readAction wl_T_readAction wn_T kw_T_readAction) rfl (by decide +kernel) rfl (by omega) rfl rfl ⟨Nat.le_of_ble_eq_true rfl, Nat.le_of_ble_eq_true rfl⟩ ⟨Nat.zero_le _, Nat.zero_le _⟩ (Nat.le_of_ble_eq_true rfl) d_T_read_34 rfl (fun v μf hq => ?_)
  rw [hTSe.sg, if_neg k5] at hq
  obtain ⟨rfl, hmf⟩ := hq
  have hTSf : TS μ μf := by rw [hmf]; exact (hTSe.up (by decide) (by decide)).up (by decide) (by decide)
  have hf2 : μf 1 2 = nI (wE (sgA μ) 41 ((dgR (sgA μ) 3 ((wE (sgA μ) 41 0) + 1) 0).1 + 1)) := by rw [hmf]; exact m_up_self _ _ _ _
  have hf3 : μf 1 3 = nI (evK (sgA μ) 0 (wE (sgA μ) 41 0)) := by rw [hmf, m_up_ne (by omega), m_up_ne (by omega)]; exact he3
  have hf4 : μf 1 4 = (dgR (sgA μ) 3 ((wE (sgA μ) 41 0) + 1) 0).2 := by rw [hmf, m_up_ne (by omega), m_up_ne (by omega)]; exact he4
  have hf5 : μf 1 5 = nI (acK (sgA μ) ((dgR (sgA μ) 3 ((wE (sgA μ) 41 0) + 1) 0).1 + 1) (wE (sgA μ) 41 ((dgR (sgA μ) 3 ((wE (sgA μ) 41 0) + 1) 0).1 + 1))) := by rw [hmf, m_up_ne (by omega)]; exact m_up_self _ _ _ _
  have htf : μf 1 1 = nI (tlN μf) := by rw [hTSf.t1, hTSf.tl]; exact ht
  have httf : tlN μf ≤ 40 := by rw [hTSf.tl]; exact ht4
  show AW G (rmD 6) 1 (0, 0, ad, N, fb) 37 [(0, .ref 1)] [.int 1] μf
  refine AW.if_eq X (pc := 37) 55 d_T_read_37 (by decide) (fun c_37 => absurd c_37 (by decide)) (fun c_37 => ?_)
  refine AW.aload_n X (pc := 40) 0 rfl rfl d_T_read_40 ?_
  refine AW.get X (pc := 41) (k := 1) (ci := 2) (j := 2) (v := .int (μf 1 2)) (by omega) rfl rfl in_T (by decide) wf_T_19 rfl rfl d_T_read_41 ?_
  refine AW.val (w := .int (nI (wE (sgA μ) 41 ((dgR (sgA μ) 3 ((wE (sgA μ) 41 0) + 1) 0).1 + 1)))) (congrArg Value.int (hf2)) ?_
  refine AW.aload_n X (pc := 44) 0 rfl rfl d_T_read_44 ?_
  refine AW.get X (pc := 45) (k := 1) (ci := 2) (j := 1) (v := .int (μf 1 1)) (by omega) rfl rfl in_T (by decide) wf_T_15 rfl rfl d_T_read_45 ?_
  refine AW.val (w := .int (nI (tlN μ))) (congrArg Value.int (hTSf.t1.trans ht)) ?_
  refine AW.icmp_ne X (pc := 48) 55 d_T_read_48 (by decide) (fun c_48 => absurd (by rw [k6]) c_48) (fun c_48 => ?_)
  refine AW.iconst X (pc := 51) (v := 1) (by decide) d_T_read_51 ?_
  refine AW.goto X (pc := 52) 56 d_T_read_52 (by decide) ?_
  have hrd : rd (sgA μ) (tlN μ) = (true, tlN μ, evK (sgA μ) 0 (wE (sgA μ) 41 0), (dgR (sgA μ) 3 ((wE (sgA μ) 41 0) + 1) 0).2, acK (sgA μ) ((dgR (sgA μ) 3 ((wE (sgA μ) 41 0) + 1) 0).1 + 1) (wE (sgA μ) 41 ((dgR (sgA μ) 3 ((wE (sgA μ) 41 0) + 1) 0).1 + 1))) := by rw [rd, if_neg k1, if_neg (not_not_intro k2), if_neg k3, if_neg (not_not_intro k4), if_neg k5, if_neg (not_not_intro k6)]
  exact hret 56 _ _ _ d_T_read_56 rfl (by rw [hrd]; exact ⟨rfl, hTSf, (by rw [hf2, k6]), fun _ => ⟨hf3, hf4, hf5⟩⟩)
