set_option maxHeartbeats 4000000 in
set_option maxRecDepth 100000 in
theorem c_M_look (K : KTy) (σ : Mu) (nr : Nat) (p : Nat) (μ : Mu) (hN : 272 ≤ KN K) (hI : CI σ nr) (hM : MR σ μ nr) (hB : BR σ) (h3 : μ 250 3 = nI p) (hp : p ≤ tlN σ) : CT K y_M_look (k_M_look :: GT) 0 [.ref 250] μ (fun v μ2 => v = some (.int (tbA σ p)) ∧ μ2 = μ) := by
  refine CT.int (cc := b_M_look) (maxL := 1) (by decide) rfl rfl (Nat.le_of_ble_eq_true rfl) ?_
  intro G ad N hK X hret
  subst hK
  have hN : 272 ≤ N := hN
  have htl := hI.tl.2
  show AW G (rmD 0) 1 (0, 0, ad, N, fb) 0 [(0, .ref 250)] [] μ
  refine AW.aload_n X (pc := 0) 0 rfl rfl d_M_look_0 ?_
  refine AW.get X (pc := 1) (k := 250) (ci := 5) (j := 3) (v := .int (μ 250 3)) (by omega) rfl rfl in_M (by decide) wf_M_87 rfl rfl d_M_look_1 ?_
  refine AW.val (w := .int (nI p)) (congrArg Value.int (h3)) ?_
  refine AW.aload_n X (pc := 4) 0 rfl rfl d_M_look_4 ?_
  refine AW.get X (pc := 5) (k := 250) (ci := 5) (j := 2) (v := .int (μ 250 2)) (by omega) rfl rfl in_M (by decide) wf_M_84 rfl rfl d_M_look_5 ?_
  refine AW.val (w := .int (nI (tlN σ))) (congrArg Value.int (hM.sz)) ?_
  refine AW.icmp_ge X (pc := 8) 23 d_M_look_8 (by decide) (fun c_8 => ?_) (fun c_8 => ?_)
  · rw [i_le (nI_toInt (show tlN σ < 2 ^ 31 by omega)) (nI_toInt (show p < 2 ^ 31 by omega))] at c_8
    refine AW.iconst X (pc := 23) (v := -1) (by decide) d_M_look_23 ?_
    exact hret 24 _ _ _ d_M_look_24 ⟨by rw [tbA, if_neg (by omega)], rfl⟩
  · rw [i_le (nI_toInt (show tlN σ < 2 ^ 31 by omega)) (nI_toInt (show p < 2 ^ 31 by omega))] at c_8
    refine AW.aload_n X (pc := 11) 0 rfl rfl d_M_look_11 ?_
    refine AW.get X (pc := 12) (k := 250) (ci := 5) (j := 1) (v := .ref 251) (by omega) rfl rfl in_M (by decide) wf_M_7 rfl rfl d_M_look_12 ?_
    refine AW.aload_n X (pc := 15) 0 rfl rfl d_M_look_15 ?_
    refine AW.get X (pc := 16) (k := 250) (ci := 5) (j := 3) (v := .int (μ 250 3)) (by omega) rfl rfl in_M (by decide) wf_M_87 rfl rfl d_M_look_16 ?_
    refine AW.val (w := .int (nI p)) (congrArg Value.int (h3)) ?_
    refine AW.baldN X (pc := 19) (k := 251) (t := 4) (n := 40) (j := p) (by omega) rfl rfl (by omega) (by decide) d_M_look_19 ?_
    refine AW.val (w := .int ((σ 2 p).toInt8.toInt32)) (congrArg Value.int (hM.tx (by omega))) ?_
    refine AW.goto X (pc := 20) 24 d_M_look_20 (by decide) ?_
    exact hret 24 _ _ _ d_M_look_24 ⟨by rw [tbA, if_pos (by omega)], rfl⟩
set_option maxHeartbeats 4000000 in
set_option maxRecDepth 100000 in
theorem c_M_isSmall (K : KTy) (σ : Mu) (nr : Nat) (p : Nat) (μ : Mu) (hN : 272 ≤ KN K) (hI : CI σ nr) (hM : MR σ μ nr) (hB : BR σ) (h3 : μ 250 3 = nI p) (hp : p ≤ tlN σ) : CT K y_M_isSmall (k_M_isSmall :: GT) 1 [.ref 250] μ (fun v μ2 => v = some (.int (bi (smB (sgA σ p)))) ∧ μ2 = μ) := by
  refine CT.bool (cc := b_M_isSmall) (maxL := 1) (by decide) rfl rfl (Nat.le_of_ble_eq_true rfl) ?_
  intro G ad N hK X hret
  subst hK
  have hN : 272 ≤ N := hN
  have htl := hI.tl.2
  show AW G (rmD 1) 1 (0, 0, ad, N, fb) 0 [(0, .ref 250)] [] μ
  refine AW.aload_n X (pc := 0) 0 rfl rfl d_M_isSmall_0 ?_
  refine AW.callV X (pc := 1) (b := 250) (ci := 5) (nA := 0) [] [] (c_M_look (kOf G ad N) σ nr p μ hN hI hM hB h3 hp) (gv_V wm_M_90 wi_M_look wl_M_look wn_M kw_M_look) rfl (by decide +kernel) rfl (by omega) rfl rfl ⟨Nat.le_of_ble_eq_true rfl, Nat.le_of_ble_eq_true rfl⟩ ⟨Nat.zero_le _, Nat.zero_le _⟩ (Nat.le_of_ble_eq_true rfl) d_M_isSmall_1 rfl (fun v μ2 hq => ?_)
  obtain ⟨rfl, hm⟩ := hq
  rw [hm]
  clear hm
  show AW G (rmD 1) 1 (0, 0, ad, N, fb) 4 [(0, .ref 250)] [.int (tbA σ p)] μ
  refine AW.bipush X (pc := 4) (v := 97) (by decide) d_M_isSmall_4 ?_
  refine AW.icmp_lt X (pc := 6) 22 d_M_isSmall_6 (by decide) (fun c_6 => ?_) (fun c_6 => ?_)
  · refine AW.iconst X (pc := 22) (v := 0) (by decide) d_M_isSmall_22 ?_
    exact hret 23 _ _ _ d_M_isSmall_23 rfl ⟨by rw [← (tb_all hB p).1]; simp [bi, smB, c_6], rfl⟩
  · refine AW.aload_n X (pc := 9) 0 rfl rfl d_M_isSmall_9 ?_
    refine AW.callV X (pc := 10) (b := 250) (ci := 5) (nA := 0) [] [] (c_M_look (kOf G ad N) σ nr p μ hN hI hM hB h3 hp) (gv_V wm_M_90 wi_M_look wl_M_look wn_M kw_M_look) rfl (by decide +kernel) rfl (by omega) rfl rfl ⟨Nat.le_of_ble_eq_true rfl, Nat.le_of_ble_eq_true rfl⟩ ⟨Nat.zero_le _, Nat.zero_le _⟩ (Nat.le_of_ble_eq_true rfl) d_M_isSmall_10 rfl (fun v μ2 hq => ?_)
    obtain ⟨rfl, hm⟩ := hq
    rw [hm]
    clear hm
    show AW G (rmD 1) 1 (0, 0, ad, N, fb) 13 [(0, .ref 250)] [.int (tbA σ p)] μ
    refine AW.bipush X (pc := 13) (v := 122) (by decide) d_M_isSmall_13 ?_
    refine AW.icmp_gt X (pc := 15) 22 d_M_isSmall_15 (by decide) (fun c_15 => ?_) (fun c_15 => ?_)
    · refine AW.iconst X (pc := 22) (v := 0) (by decide) d_M_isSmall_22 ?_
      exact hret 23 _ _ _ d_M_isSmall_23 rfl ⟨by rw [← (tb_all hB p).1]; simp [bi, smB, c_6, c_15], rfl⟩
    · refine AW.iconst X (pc := 18) (v := 1) (by decide) d_M_isSmall_18 ?_
      refine AW.goto X (pc := 19) 23 d_M_isSmall_19 (by decide) ?_
      exact hret 23 _ _ _ d_M_isSmall_23 rfl ⟨by rw [← (tb_all hB p).1]; simp [bi, smB, c_6, c_15], rfl⟩
set_option maxHeartbeats 4000000 in
set_option maxRecDepth 100000 in
theorem c_M_word (K : KTy) (σ : Mu) (nr : Nat) (p : Nat) (μ : Mu) (hN : 272 ≤ KN K) (hI : CI σ nr) (hM : MR σ μ nr) (hB : BR σ) (h3 : μ 250 3 = nI p) (hp : p ≤ tlN σ) : CT K y_M_word (k_M_word :: GT) 2 [.ref 250] μ (fun v μ2 => v = some (.long (hv (sgA σ) p ((wE (sgA σ) 41 p) - p))) ∧ μ2 = m_up μ 250 3 (nI (wE (sgA σ) 41 p))) := by
  refine CT.long (cc := b_M_word) (maxL := 4) (by decide) rfl rfl (Nat.le_of_ble_eq_true rfl) ?_
  intro G ad N hK X hret
  subst hK
  have hN : 272 ≤ N := hN
  have htl := hI.tl.2
  show AW G (rmD 2) 4 (0, 0, ad, N, fb) 0 [(0, .ref 250)] [] μ
  have key : ∀ (n e : Nat) (x : Int64) (y : Int32), tlN σ - e < n → p ≤ e → e ≤ tlN σ → wE (sgA σ) (41 + p - e) e = (wE (sgA σ) 41 p) → (∀ k, p + k < e → smB (sgA σ (p + k)) = true) → x = hv (sgA σ) p (e - p) → y = nv (e - p) → AW G (rmD 2) 4 (0, 0, ad, N, fb) 4 [(3, .int y), (1, .long x), (0, .ref 250)] [] (m_up μ 250 3 (nI e)) := by
    intro n
    induction n with
    | zero =>
      intro e x y hlt
      exact absurd hlt (Nat.not_lt_zero _)
    | succ n ih =>
      intro e x y hlt hpe het he hs ex ey
      subst ex
      subst ey
      have hM1 := hM.at (nI e)
      have h31 : (m_up μ 250 3 (nI e)) 250 3 = nI e := m_up_self _ _ _ _
      refine AW.aload_n X (pc := 4) 2 rfl rfl d_M_word_4 ?_
      refine AW.callV X (pc := 5) (b := 250) (ci := 5) (nA := 0) [] [] (c_M_isSmall (kOf G ad N) σ nr e (m_up μ 250 3 (nI e)) hN hI hM1 hB h31 het) (gv_V wm_M_94 wi_M_isSmall wl_M_isSmall wn_M kw_M_isSmall) rfl (by decide +kernel) rfl (by omega) rfl rfl ⟨Nat.le_of_ble_eq_true rfl, Nat.le_of_ble_eq_true rfl⟩ ⟨Nat.zero_le _, Nat.zero_le _⟩ (Nat.le_of_ble_eq_true rfl) d_M_word_5 rfl (fun v μ2 hq => ?_)
      obtain ⟨rfl, hm⟩ := hq
      rw [hm]
      clear hm
      show AW G (rmD 2) 4 (0, 0, ad, N, fb) 8 [(3, .int (nv (e - p))), (1, .long (hv (sgA σ) p (e - p))), (0, .ref 250)] [.int (bi (smB (sgA σ e)))] (m_up μ 250 3 (nI e))
      refine AW.if_eq X (pc := 8) 69 d_M_word_8 (by decide) (fun c_8 => ?_) (fun c_8 => ?_)
      · have c_8 := bi_eq.mp c_8
        refine AW.lload_n X (pc := 69) 1 rfl rfl d_M_word_69 ?_
        have hE : (wE (sgA σ) 41 p) = e := by rw [← he, show 41 + p - e = (40 + p - e) + 1 by omega, wE, if_neg (by rw [c_8]; decide)]
        exact hret 70 _ _ _ d_M_word_70 (by rw [hE]; exact ⟨rfl, rfl⟩)
      · have c_8 := bi_ne.mp c_8
        have het2 : e < tlN σ := by
          rcases Nat.lt_or_ge e (tlN σ) with h | h
          · exact h
          · rw [sgA_sm h] at c_8; cases c_8
        have hpk : sgA σ (p + (e - p)) = sgA σ e := by rw [Nat.add_sub_cancel' hpe]
        have htb : tbA σ e = sgA σ e := (tb_all hB e).2.2.2.1 c_8
        refine AW.iload_n X (pc := 11) 0 rfl rfl d_M_word_11 ?_
        refine AW.bipush X (pc := 12) (v := 9) (by decide) d_M_word_12 ?_
        refine AW.icmp_ge X (pc := 14) 37 d_M_word_14 (by decide) (fun c_14 => ?_) (fun c_14 => ?_)
        · have c_14 : ¬ e - p < 9 := by
            intro q
            rw [nv, if_pos (by omega), i_le (show (9 : Int32).toInt = 9 by decide) (nI_toInt (show e - p < 2 ^ 31 by omega))] at c_14
            omega
          refine AW.ldc2 X (pc := 37) (v := -1) wc_M_102 d_M_word_37 ?_
          refine AW.val (w := .long (hv (sgA σ) p (e - p + 1))) (congrArg Value.long (by rw [hv, if_neg (by omega)])) ?_
          refine AW.lstore_n X (pc := 40) (lv2 := [(1, .long (hv (sgA σ) p (e - p + 1))), (3, .int (nv (e - p))), (0, .ref 250)]) rfl d_M_word_40 (by decide) rfl ?_
          refine AW.lload_n X (pc := 41) 0 rfl rfl d_M_word_41 ?_
          refine AW.lconst X (pc := 42) (v := 0) (by decide) d_M_word_42 ?_
          refine AW.lcmp X (pc := 43) d_M_word_43 ?_
          refine AW.if_ge X (pc := 44) 52 d_M_word_44 (by decide) (fun c_44 => absurd c_44 (by rw [hv, if_neg (by omega)]; decide)) (fun c_44 => ?_)
          refine AW.bipush X (pc := 47) (v := 9) (by decide) d_M_word_47 ?_
          refine AW.goto X (pc := 49) 55 d_M_word_49 (by decide) ?_
          refine AW.istore_n X (pc := 55) (lv2 := [(3, .int 9), (1, .long (hv (sgA σ) p (e - p + 1))), (0, .ref 250)]) rfl d_M_word_55 (by decide) rfl ?_
          refine AW.aload_n X (pc := 56) 2 rfl rfl d_M_word_56 ?_
          refine AW.dup X (pc := 57) rfl d_M_word_57 ?_
          refine AW.get X (pc := 58) (k := 250) (ci := 5) (j := 3) (v := .int ((m_up μ 250 3 (nI e)) 250 3)) (by omega) rfl rfl in_M (by decide) wf_M_87 rfl rfl d_M_word_58 ?_
          refine AW.val (w := .int (nI e)) (congrArg Value.int (h31)) ?_
          refine AW.iconst X (pc := 61) (v := 1) (by decide) d_M_word_61 ?_
          refine AW.iadd X (pc := 62) d_M_word_62 ?_
          refine AW.val (w := .int (nI (e + 1))) (congrArg Value.int (nI_add e 1)) ?_
          refine AW.put X (pc := 63) (k := 250) (ci := 5) (j := 3) (x := nI (e + 1)) (ty := .int) ft_M (by omega) rfl rfl in_M ft_M_ok n_M (by decide) wf_M_87 rfl rfl rfl rfl rfl d_M_word_63 ?_
          refine AW.goto X (pc := 66) 4 d_M_word_66 (by decide) ?_
          refine AW.locs (lv2 := [(3, .int 9), (1, .long (hv (sgA σ) p (e - p + 1))), (0, .ref 250)]) [0, 1, 2] rfl ?_
          rw [m_up_up]
          exact ih (e + 1) _ _ (by omega) (by omega) (by omega) (by rw [← he, show 41 + p - e = (41 + p - (e + 1)) + 1 by omega, wE, if_pos c_8]) (fun k hk => by rcases Nat.lt_succ_iff_lt_or_eq.mp hk with h | h; exact hs k h; rw [h]; exact c_8) (by rw [show e + 1 - p = e - p + 1 by omega]) (by rw [nv]; split; exact (show (9 : Int32) = nI 9 by decide).trans (congrArg nI (by omega)); rfl)
        · have c_14 : e - p < 9 := by
            refine Decidable.by_contra (fun q => c_14 ?_)
            rw [nv]
            split
            · rw [show e - p = 9 by omega]; decide
            · decide
          refine AW.lload_n X (pc := 17) 1 rfl rfl d_M_word_17 ?_
          refine AW.ldc2 X (pc := 18) (v := 27) wc_M_98 d_M_word_18 ?_
          refine AW.lmul X (pc := 21) d_M_word_21 ?_
          refine AW.aload_n X (pc := 22) 2 rfl rfl d_M_word_22 ?_
          refine AW.callV X (pc := 23) (b := 250) (ci := 5) (nA := 0) [] [.long ((hv (sgA σ) p (e - p)) * 27)] (c_M_look (kOf G ad N) σ nr e (m_up μ 250 3 (nI e)) hN hI hM1 hB h31 het) (gv_V wm_M_90 wi_M_look wl_M_look wn_M kw_M_look) rfl (by decide +kernel) rfl (by omega) rfl rfl ⟨Nat.le_of_ble_eq_true rfl, Nat.le_of_ble_eq_true rfl⟩ ⟨Nat.zero_le _, Nat.zero_le _⟩ (Nat.le_of_ble_eq_true rfl) d_M_word_23 rfl (fun v μ2 hq => ?_)
          obtain ⟨rfl, hm⟩ := hq
          rw [hm]
          clear hm
          show AW G (rmD 2) 4 (0, 0, ad, N, fb) 26 [(3, .int (nv (e - p))), (1, .long (hv (sgA σ) p (e - p))), (0, .ref 250)] [.int (tbA σ e), .long ((hv (sgA σ) p (e - p)) * 27)] (m_up μ 250 3 (nI e))
          refine AW.i2l X (pc := 26) d_M_word_26 ?_
          refine AW.ladd X (pc := 27) d_M_word_27 ?_
          refine AW.ldc2 X (pc := 28) (v := 97) wc_M_100 d_M_word_28 ?_
          refine AW.lsub X (pc := 31) d_M_word_31 ?_
          refine AW.lconst X (pc := 32) (v := 1) (by decide) d_M_word_32 ?_
          refine AW.ladd X (pc := 33) d_M_word_33 ?_
          refine AW.goto X (pc := 34) 40 d_M_word_34 (by decide) ?_
          refine AW.val (w := .long (hv (sgA σ) p (e - p + 1))) (congrArg Value.long ((show _ = _ by rw [htb, ← hpk]).trans (hv_step c_14 (by rw [hpk]; exact c_8)))) ?_
          refine AW.lstore_n X (pc := 40) (lv2 := [(1, .long (hv (sgA σ) p (e - p + 1))), (3, .int (nv (e - p))), (0, .ref 250)]) rfl d_M_word_40 (by decide) rfl ?_
          refine AW.lload_n X (pc := 41) 0 rfl rfl d_M_word_41 ?_
          refine AW.lconst X (pc := 42) (v := 0) (by decide) d_M_word_42 ?_
          refine AW.lcmp X (pc := 43) d_M_word_43 ?_
          refine AW.if_ge X (pc := 44) 52 d_M_word_44 (by decide) (fun c_44 => ?_) (fun c_44 => absurd (lg_ge (by rw [hv, if_pos (by omega)]; exact lN_ge0 (hN_lt (fun k hk => by rcases Nat.lt_succ_iff_lt_or_eq.mp hk with h | h; exact hs k (by omega); rw [h, hpk]; exact c_8) (by omega)))) c_44)
          refine AW.iload_n X (pc := 52) 1 rfl rfl d_M_word_52 ?_
          refine AW.iconst X (pc := 53) (v := 1) (by decide) d_M_word_53 ?_
          refine AW.iadd X (pc := 54) d_M_word_54 ?_
          refine AW.istore_n X (pc := 55) (lv2 := [(3, .int ((nv (e - p)) + 1)), (1, .long (hv (sgA σ) p (e - p + 1))), (0, .ref 250)]) rfl d_M_word_55 (by decide) rfl ?_
          refine AW.aload_n X (pc := 56) 2 rfl rfl d_M_word_56 ?_
          refine AW.dup X (pc := 57) rfl d_M_word_57 ?_
          refine AW.get X (pc := 58) (k := 250) (ci := 5) (j := 3) (v := .int ((m_up μ 250 3 (nI e)) 250 3)) (by omega) rfl rfl in_M (by decide) wf_M_87 rfl rfl d_M_word_58 ?_
          refine AW.val (w := .int (nI e)) (congrArg Value.int (h31)) ?_
          refine AW.iconst X (pc := 61) (v := 1) (by decide) d_M_word_61 ?_
          refine AW.iadd X (pc := 62) d_M_word_62 ?_
          refine AW.val (w := .int (nI (e + 1))) (congrArg Value.int (nI_add e 1)) ?_
          refine AW.put X (pc := 63) (k := 250) (ci := 5) (j := 3) (x := nI (e + 1)) (ty := .int) ft_M (by omega) rfl rfl in_M ft_M_ok n_M (by decide) wf_M_87 rfl rfl rfl rfl rfl d_M_word_63 ?_
          refine AW.goto X (pc := 66) 4 d_M_word_66 (by decide) ?_
          refine AW.locs (lv2 := [(3, .int ((nv (e - p)) + 1)), (1, .long (hv (sgA σ) p (e - p + 1))), (0, .ref 250)]) [0, 1, 2] rfl ?_
          rw [m_up_up]
          exact ih (e + 1) _ _ (by omega) (by omega) (by omega) (by rw [← he, show 41 + p - e = (41 + p - (e + 1)) + 1 by omega, wE, if_pos c_8]) (fun k hk => by rcases Nat.lt_succ_iff_lt_or_eq.mp hk with h | h; exact hs k h; rw [h]; exact c_8) (by rw [show e + 1 - p = e - p + 1 by omega]) (by rw [nv, nv, if_pos (by omega), if_pos (by omega), show e + 1 - p = e - p + 1 by omega]; exact nI_1 _)
  refine AW.lconst X (pc := 0) (v := 0) (by decide) d_M_word_0 ?_
  refine AW.lstore_n X (pc := 1) (lv2 := [(1, .long 0), (0, .ref 250)]) rfl d_M_word_1 (by decide) rfl ?_
  refine AW.iconst X (pc := 2) (v := 0) (by decide) d_M_word_2 ?_
  refine AW.istore_n X (pc := 3) (lv2 := [(3, .int 0), (1, .long 0), (0, .ref 250)]) rfl d_M_word_3 (by decide) rfl ?_
  have hmm : m_up μ 250 3 (nI p) = μ := by funext a b; unfold m_up; split; (rename_i h; rw [h.1, h.2, h3]); rfl
  have q := key (tlN σ + 1) p 0 0 (by omega) (Nat.le_refl _) hp (by rw [Nat.add_sub_cancel]) (fun k hk => by omega) (by rw [Nat.sub_self]; rfl) (by rw [Nat.sub_self]; rfl)
  rw [hmm] at q
  exact q
set_option maxHeartbeats 4000000 in
set_option maxRecDepth 100000 in
theorem c_M_word4_256721 (K : KTy)  (μ : Mu) (hN : 272 ≤ KN K)  : CT K y_M_word4 (k_M_word4 :: GT) 0 [.int 13, .int 1, .int 4, .int 5] μ (fun v μ2 => v = some (.long 256721) ∧ μ2 = μ) := by
  refine CT.long (cc := b_M_word4) (maxL := 4) (by decide) rfl rfl (Nat.le_of_ble_eq_true rfl) ?_
  intro G ad N hK X hret
  subst hK
  have hN : 272 ≤ N := hN
  show AW G (rmD 0) 4 (0, 0, ad, N, fb) 0 [(0, .int 13), (1, .int 1), (2, .int 4), (3, .int 5)] [] μ
  refine AW.iload_n X (pc := 0) 0 rfl rfl d_M_word4_0 ?_
  refine AW.i2l X (pc := 1) d_M_word4_1 ?_
  refine AW.ldc2 X (pc := 2) (v := 27) wc_M_98 d_M_word4_2 ?_
  refine AW.lmul X (pc := 5) d_M_word4_5 ?_
  refine AW.iload_n X (pc := 6) 1 rfl rfl d_M_word4_6 ?_
  refine AW.i2l X (pc := 7) d_M_word4_7 ?_
  refine AW.ladd X (pc := 8) d_M_word4_8 ?_
  refine AW.ldc2 X (pc := 9) (v := 27) wc_M_98 d_M_word4_9 ?_
  refine AW.lmul X (pc := 12) d_M_word4_12 ?_
  refine AW.iload_n X (pc := 13) 2 rfl rfl d_M_word4_13 ?_
  refine AW.i2l X (pc := 14) d_M_word4_14 ?_
  refine AW.ladd X (pc := 15) d_M_word4_15 ?_
  refine AW.ldc2 X (pc := 16) (v := 27) wc_M_98 d_M_word4_16 ?_
  refine AW.lmul X (pc := 19) d_M_word4_19 ?_
  refine AW.iload_n X (pc := 20) 3 rfl rfl d_M_word4_20 ?_
  refine AW.i2l X (pc := 21) d_M_word4_21 ?_
  refine AW.ladd X (pc := 22) d_M_word4_22 ?_
  exact hret 23 _ _ _ d_M_word4_23 ⟨by decide, rfl⟩
set_option maxHeartbeats 4000000 in
set_option maxRecDepth 100000 in
theorem c_M_word4_427333 (K : KTy)  (μ : Mu) (hN : 272 ≤ KN K)  : CT K y_M_word4 (k_M_word4 :: GT) 0 [.int 21, .int 19, .int 5, .int 4] μ (fun v μ2 => v = some (.long 427333) ∧ μ2 = μ) := by
  refine CT.long (cc := b_M_word4) (maxL := 4) (by decide) rfl rfl (Nat.le_of_ble_eq_true rfl) ?_
  intro G ad N hK X hret
  subst hK
  have hN : 272 ≤ N := hN
  show AW G (rmD 0) 4 (0, 0, ad, N, fb) 0 [(0, .int 21), (1, .int 19), (2, .int 5), (3, .int 4)] [] μ
  refine AW.iload_n X (pc := 0) 0 rfl rfl d_M_word4_0 ?_
  refine AW.i2l X (pc := 1) d_M_word4_1 ?_
  refine AW.ldc2 X (pc := 2) (v := 27) wc_M_98 d_M_word4_2 ?_
  refine AW.lmul X (pc := 5) d_M_word4_5 ?_
  refine AW.iload_n X (pc := 6) 1 rfl rfl d_M_word4_6 ?_
  refine AW.i2l X (pc := 7) d_M_word4_7 ?_
  refine AW.ladd X (pc := 8) d_M_word4_8 ?_
  refine AW.ldc2 X (pc := 9) (v := 27) wc_M_98 d_M_word4_9 ?_
  refine AW.lmul X (pc := 12) d_M_word4_12 ?_
  refine AW.iload_n X (pc := 13) 2 rfl rfl d_M_word4_13 ?_
  refine AW.i2l X (pc := 14) d_M_word4_14 ?_
  refine AW.ladd X (pc := 15) d_M_word4_15 ?_
  refine AW.ldc2 X (pc := 16) (v := 27) wc_M_98 d_M_word4_16 ?_
  refine AW.lmul X (pc := 19) d_M_word4_19 ?_
  refine AW.iload_n X (pc := 20) 3 rfl rfl d_M_word4_20 ?_
  refine AW.i2l X (pc := 21) d_M_word4_21 ?_
  refine AW.ladd X (pc := 22) d_M_word4_22 ?_
  exact hret 23 _ _ _ d_M_word4_23 ⟨by decide, rfl⟩
set_option maxHeartbeats 4000000 in
set_option maxRecDepth 100000 in
theorem c_M_word4_68221 (K : KTy)  (μ : Mu) (hN : 272 ≤ KN K)  : CT K y_M_word4 (k_M_word4 :: GT) 0 [.int 3, .int 12, .int 15, .int 19] μ (fun v μ2 => v = some (.long 68221) ∧ μ2 = μ) := by
  refine CT.long (cc := b_M_word4) (maxL := 4) (by decide) rfl rfl (Nat.le_of_ble_eq_true rfl) ?_
  intro G ad N hK X hret
  subst hK
  have hN : 272 ≤ N := hN
  show AW G (rmD 0) 4 (0, 0, ad, N, fb) 0 [(0, .int 3), (1, .int 12), (2, .int 15), (3, .int 19)] [] μ
  refine AW.iload_n X (pc := 0) 0 rfl rfl d_M_word4_0 ?_
  refine AW.i2l X (pc := 1) d_M_word4_1 ?_
  refine AW.ldc2 X (pc := 2) (v := 27) wc_M_98 d_M_word4_2 ?_
  refine AW.lmul X (pc := 5) d_M_word4_5 ?_
  refine AW.iload_n X (pc := 6) 1 rfl rfl d_M_word4_6 ?_
  refine AW.i2l X (pc := 7) d_M_word4_7 ?_
  refine AW.ladd X (pc := 8) d_M_word4_8 ?_
  refine AW.ldc2 X (pc := 9) (v := 27) wc_M_98 d_M_word4_9 ?_
  refine AW.lmul X (pc := 12) d_M_word4_12 ?_
  refine AW.iload_n X (pc := 13) 2 rfl rfl d_M_word4_13 ?_
  refine AW.i2l X (pc := 14) d_M_word4_14 ?_
  refine AW.ladd X (pc := 15) d_M_word4_15 ?_
  refine AW.ldc2 X (pc := 16) (v := 27) wc_M_98 d_M_word4_16 ?_
  refine AW.lmul X (pc := 19) d_M_word4_19 ?_
  refine AW.iload_n X (pc := 20) 3 rfl rfl d_M_word4_20 ?_
  refine AW.i2l X (pc := 21) d_M_word4_21 ?_
  refine AW.ladd X (pc := 22) d_M_word4_22 ?_
  exact hret 23 _ _ _ d_M_word4_23 ⟨by decide, rfl⟩
set_option maxHeartbeats 4000000 in
set_option maxRecDepth 100000 in
theorem c_M_word4_82424 (K : KTy)  (μ : Mu) (hN : 272 ≤ KN K)  : CT K y_M_word4 (k_M_word4 :: GT) 0 [.int 4, .int 5, .int 1, .int 20] μ (fun v μ2 => v = some (.long 82424) ∧ μ2 = μ) := by
  refine CT.long (cc := b_M_word4) (maxL := 4) (by decide) rfl rfl (Nat.le_of_ble_eq_true rfl) ?_
  intro G ad N hK X hret
  subst hK
  have hN : 272 ≤ N := hN
  show AW G (rmD 0) 4 (0, 0, ad, N, fb) 0 [(0, .int 4), (1, .int 5), (2, .int 1), (3, .int 20)] [] μ
  refine AW.iload_n X (pc := 0) 0 rfl rfl d_M_word4_0 ?_
  refine AW.i2l X (pc := 1) d_M_word4_1 ?_
  refine AW.ldc2 X (pc := 2) (v := 27) wc_M_98 d_M_word4_2 ?_
  refine AW.lmul X (pc := 5) d_M_word4_5 ?_
  refine AW.iload_n X (pc := 6) 1 rfl rfl d_M_word4_6 ?_
  refine AW.i2l X (pc := 7) d_M_word4_7 ?_
  refine AW.ladd X (pc := 8) d_M_word4_8 ?_
  refine AW.ldc2 X (pc := 9) (v := 27) wc_M_98 d_M_word4_9 ?_
  refine AW.lmul X (pc := 12) d_M_word4_12 ?_
  refine AW.iload_n X (pc := 13) 2 rfl rfl d_M_word4_13 ?_
  refine AW.i2l X (pc := 14) d_M_word4_14 ?_
  refine AW.ladd X (pc := 15) d_M_word4_15 ?_
  refine AW.ldc2 X (pc := 16) (v := 27) wc_M_98 d_M_word4_16 ?_
  refine AW.lmul X (pc := 19) d_M_word4_19 ?_
  refine AW.iload_n X (pc := 20) 3 rfl rfl d_M_word4_20 ?_
  refine AW.i2l X (pc := 21) d_M_word4_21 ?_
  refine AW.ladd X (pc := 22) d_M_word4_22 ?_
  exact hret 23 _ _ _ d_M_word4_23 ⟨by decide, rfl⟩
set_option maxHeartbeats 4000000 in
set_option maxRecDepth 100000 in
theorem c_M_word4_82910 (K : KTy)  (μ : Mu) (hN : 272 ≤ KN K)  : CT K y_M_word4 (k_M_word4 :: GT) 0 [.int 4, .int 5, .int 19, .int 20] μ (fun v μ2 => v = some (.long 82910) ∧ μ2 = μ) := by
  refine CT.long (cc := b_M_word4) (maxL := 4) (by decide) rfl rfl (Nat.le_of_ble_eq_true rfl) ?_
  intro G ad N hK X hret
  subst hK
  have hN : 272 ≤ N := hN
  show AW G (rmD 0) 4 (0, 0, ad, N, fb) 0 [(0, .int 4), (1, .int 5), (2, .int 19), (3, .int 20)] [] μ
  refine AW.iload_n X (pc := 0) 0 rfl rfl d_M_word4_0 ?_
  refine AW.i2l X (pc := 1) d_M_word4_1 ?_
  refine AW.ldc2 X (pc := 2) (v := 27) wc_M_98 d_M_word4_2 ?_
  refine AW.lmul X (pc := 5) d_M_word4_5 ?_
  refine AW.iload_n X (pc := 6) 1 rfl rfl d_M_word4_6 ?_
  refine AW.i2l X (pc := 7) d_M_word4_7 ?_
  refine AW.ladd X (pc := 8) d_M_word4_8 ?_
  refine AW.ldc2 X (pc := 9) (v := 27) wc_M_98 d_M_word4_9 ?_
  refine AW.lmul X (pc := 12) d_M_word4_12 ?_
  refine AW.iload_n X (pc := 13) 2 rfl rfl d_M_word4_13 ?_
  refine AW.i2l X (pc := 14) d_M_word4_14 ?_
  refine AW.ladd X (pc := 15) d_M_word4_15 ?_
  refine AW.ldc2 X (pc := 16) (v := 27) wc_M_98 d_M_word4_16 ?_
  refine AW.lmul X (pc := 19) d_M_word4_19 ?_
  refine AW.iload_n X (pc := 20) 3 rfl rfl d_M_word4_20 ?_
  refine AW.i2l X (pc := 21) d_M_word4_21 ?_
  refine AW.ladd X (pc := 22) d_M_word4_22 ?_
  exact hret 23 _ _ _ d_M_word4_23 ⟨by decide, rfl⟩
set_option maxHeartbeats 4000000 in
set_option maxRecDepth 100000 in
theorem c_M_word4_406823 (K : KTy)  (μ : Mu) (hN : 272 ≤ KN K)  : CT K y_M_word4 (k_M_word4 :: GT) 0 [.int 20, .int 18, .int 1, .int 14] μ (fun v μ2 => v = some (.long 406823) ∧ μ2 = μ) := by
  refine CT.long (cc := b_M_word4) (maxL := 4) (by decide) rfl rfl (Nat.le_of_ble_eq_true rfl) ?_
  intro G ad N hK X hret
  subst hK
  have hN : 272 ≤ N := hN
  show AW G (rmD 0) 4 (0, 0, ad, N, fb) 0 [(0, .int 20), (1, .int 18), (2, .int 1), (3, .int 14)] [] μ
  refine AW.iload_n X (pc := 0) 0 rfl rfl d_M_word4_0 ?_
  refine AW.i2l X (pc := 1) d_M_word4_1 ?_
  refine AW.ldc2 X (pc := 2) (v := 27) wc_M_98 d_M_word4_2 ?_
  refine AW.lmul X (pc := 5) d_M_word4_5 ?_
  refine AW.iload_n X (pc := 6) 1 rfl rfl d_M_word4_6 ?_
  refine AW.i2l X (pc := 7) d_M_word4_7 ?_
  refine AW.ladd X (pc := 8) d_M_word4_8 ?_
  refine AW.ldc2 X (pc := 9) (v := 27) wc_M_98 d_M_word4_9 ?_
  refine AW.lmul X (pc := 12) d_M_word4_12 ?_
  refine AW.iload_n X (pc := 13) 2 rfl rfl d_M_word4_13 ?_
  refine AW.i2l X (pc := 14) d_M_word4_14 ?_
  refine AW.ladd X (pc := 15) d_M_word4_15 ?_
  refine AW.ldc2 X (pc := 16) (v := 27) wc_M_98 d_M_word4_16 ?_
  refine AW.lmul X (pc := 19) d_M_word4_19 ?_
  refine AW.iload_n X (pc := 20) 3 rfl rfl d_M_word4_20 ?_
  refine AW.i2l X (pc := 21) d_M_word4_21 ?_
  refine AW.ladd X (pc := 22) d_M_word4_22 ?_
  exact hret 23 _ _ _ d_M_word4_23 ⟨by decide, rfl⟩
set_option maxHeartbeats 4000000 in
set_option maxRecDepth 100000 in
theorem c_M_eventJ (K : KTy) (w : Int64) (μ : Mu) (hN : 272 ≤ KN K)  : CT K y_M_eventJ (k_M_eventJ :: GT) 1 [.long w] μ (fun v μ2 => v = some (.int (evJ w)) ∧ μ2 = μ) := by
  refine CT.int (cc := b_M_eventJ) (maxL := 2) (by decide) rfl rfl (Nat.le_of_ble_eq_true rfl) ?_
  intro G ad N hK X hret
  subst hK
  have hN : 272 ≤ N := hN
  show AW G (rmD 1) 2 (0, 0, ad, N, fb) 0 [(0, .long w)] [] μ
  refine AW.lload_n X (pc := 0) 0 rfl rfl d_M_eventJ_0 ?_
  refine AW.bipush X (pc := 1) (v := 13) (by decide) d_M_eventJ_1 ?_
  refine AW.iconst X (pc := 3) (v := 1) (by decide) d_M_eventJ_3 ?_
  refine AW.iconst X (pc := 4) (v := 4) (by decide) d_M_eventJ_4 ?_
  refine AW.iconst X (pc := 5) (v := 5) (by decide) d_M_eventJ_5 ?_
  refine AW.callS X (pc := 6) (nA := 4) [.int 13, .int 1, .int 4, .int 5] [.long w] (c_M_word4_256721 (kOf G ad N) μ hN) (gv_S wm_M_104 ws_M_word4 wn_M kw_M_word4) rfl (by decide +kernel) rfl ⟨Nat.le_of_ble_eq_true rfl, Nat.le_of_ble_eq_true rfl⟩ ⟨Nat.zero_le _, Nat.zero_le _⟩ (Nat.le_of_ble_eq_true rfl) d_M_eventJ_6 rfl (fun v μ2 hq => ?_)
  obtain ⟨rfl, hm⟩ := hq
  rw [hm]
  clear hm
  show AW G (rmD 1) 2 (0, 0, ad, N, fb) 9 [(0, .long w)] [.long 256721, .long w] μ
  refine AW.lcmp X (pc := 9) d_M_eventJ_9 ?_
  refine AW.if_ne X (pc := 10) 15 d_M_eventJ_10 (by decide) (fun c_10 => ?_) (fun c_10 => ?_)
  · have c_10 : ¬ w = lN (cI 0) := fun q => c_10 ((lg_eq _ _).mpr (q.trans (by decide +kernel)))
    refine AW.lload_n X (pc := 15) 0 rfl rfl d_M_eventJ_15 ?_
    refine AW.bipush X (pc := 16) (v := 21) (by decide) d_M_eventJ_16 ?_
    refine AW.bipush X (pc := 18) (v := 19) (by decide) d_M_eventJ_18 ?_
    refine AW.iconst X (pc := 20) (v := 5) (by decide) d_M_eventJ_20 ?_
    refine AW.iconst X (pc := 21) (v := 4) (by decide) d_M_eventJ_21 ?_
    refine AW.callS X (pc := 22) (nA := 4) [.int 21, .int 19, .int 5, .int 4] [.long w] (c_M_word4_427333 (kOf G ad N) μ hN) (gv_S wm_M_104 ws_M_word4 wn_M kw_M_word4) rfl (by decide +kernel) rfl ⟨Nat.le_of_ble_eq_true rfl, Nat.le_of_ble_eq_true rfl⟩ ⟨Nat.zero_le _, Nat.zero_le _⟩ (Nat.le_of_ble_eq_true rfl) d_M_eventJ_22 rfl (fun v μ2 hq => ?_)
    obtain ⟨rfl, hm⟩ := hq
    rw [hm]
    clear hm
    show AW G (rmD 1) 2 (0, 0, ad, N, fb) 25 [(0, .long w)] [.long 427333, .long w] μ
    refine AW.lcmp X (pc := 25) d_M_eventJ_25 ?_
    refine AW.if_ne X (pc := 26) 31 d_M_eventJ_26 (by decide) (fun c_26 => ?_) (fun c_26 => ?_)
    · have c_26 : ¬ w = lN (cI 1) := fun q => c_26 ((lg_eq _ _).mpr (q.trans (by decide +kernel)))
      refine AW.lload_n X (pc := 31) 0 rfl rfl d_M_eventJ_31 ?_
      refine AW.iconst X (pc := 32) (v := 3) (by decide) d_M_eventJ_32 ?_
      refine AW.bipush X (pc := 33) (v := 12) (by decide) d_M_eventJ_33 ?_
      refine AW.bipush X (pc := 35) (v := 15) (by decide) d_M_eventJ_35 ?_
      refine AW.bipush X (pc := 37) (v := 19) (by decide) d_M_eventJ_37 ?_
      refine AW.callS X (pc := 39) (nA := 4) [.int 3, .int 12, .int 15, .int 19] [.long w] (c_M_word4_68221 (kOf G ad N) μ hN) (gv_S wm_M_104 ws_M_word4 wn_M kw_M_word4) rfl (by decide +kernel) rfl ⟨Nat.le_of_ble_eq_true rfl, Nat.le_of_ble_eq_true rfl⟩ ⟨Nat.zero_le _, Nat.zero_le _⟩ (Nat.le_of_ble_eq_true rfl) d_M_eventJ_39 rfl (fun v μ2 hq => ?_)
      obtain ⟨rfl, hm⟩ := hq
      rw [hm]
      clear hm
      show AW G (rmD 1) 2 (0, 0, ad, N, fb) 42 [(0, .long w)] [.long 68221, .long w] μ
      refine AW.ldc2 X (pc := 42) (v := 27) wc_M_98 d_M_eventJ_42 ?_
      refine AW.lmul X (pc := 45) d_M_eventJ_45 ?_
      refine AW.ldc2 X (pc := 46) (v := 5) wc_M_108 d_M_eventJ_46 ?_
      refine AW.ladd X (pc := 49) d_M_eventJ_49 ?_
      refine AW.ldc2 X (pc := 50) (v := 27) wc_M_98 d_M_eventJ_50 ?_
      refine AW.lmul X (pc := 53) d_M_eventJ_53 ?_
      refine AW.ldc2 X (pc := 54) (v := 4) wc_M_110 d_M_eventJ_54 ?_
      refine AW.ladd X (pc := 57) d_M_eventJ_57 ?_
      refine AW.lcmp X (pc := 58) d_M_eventJ_58 ?_
      refine AW.if_ne X (pc := 59) 64 d_M_eventJ_59 (by decide) (fun c_59 => ?_) (fun c_59 => ?_)
      · have c_59 : ¬ w = lN (cI 2) := fun q => c_59 ((lg_eq _ _).mpr (q.trans (by decide +kernel)))
        refine AW.lload_n X (pc := 64) 0 rfl rfl d_M_eventJ_64 ?_
        refine AW.iconst X (pc := 65) (v := 4) (by decide) d_M_eventJ_65 ?_
        refine AW.iconst X (pc := 66) (v := 5) (by decide) d_M_eventJ_66 ?_
        refine AW.iconst X (pc := 67) (v := 1) (by decide) d_M_eventJ_67 ?_
        refine AW.bipush X (pc := 68) (v := 20) (by decide) d_M_eventJ_68 ?_
        refine AW.callS X (pc := 70) (nA := 4) [.int 4, .int 5, .int 1, .int 20] [.long w] (c_M_word4_82424 (kOf G ad N) μ hN) (gv_S wm_M_104 ws_M_word4 wn_M kw_M_word4) rfl (by decide +kernel) rfl ⟨Nat.le_of_ble_eq_true rfl, Nat.le_of_ble_eq_true rfl⟩ ⟨Nat.zero_le _, Nat.zero_le _⟩ (Nat.le_of_ble_eq_true rfl) d_M_eventJ_70 rfl (fun v μ2 hq => ?_)
        obtain ⟨rfl, hm⟩ := hq
        rw [hm]
        clear hm
        show AW G (rmD 1) 2 (0, 0, ad, N, fb) 73 [(0, .long w)] [.long 82424, .long w] μ
        refine AW.ldc2 X (pc := 73) (v := 27) wc_M_98 d_M_eventJ_73 ?_
        refine AW.lmul X (pc := 76) d_M_eventJ_76 ?_
        refine AW.ldc2 X (pc := 77) (v := 8) wc_M_112 d_M_eventJ_77 ?_
        refine AW.ladd X (pc := 80) d_M_eventJ_80 ?_
        refine AW.lcmp X (pc := 81) d_M_eventJ_81 ?_
        refine AW.if_ne X (pc := 82) 89 d_M_eventJ_82 (by decide) (fun c_82 => ?_) (fun c_82 => ?_)
        · have c_82 : ¬ w = lN (cI 3) := fun q => c_82 ((lg_eq _ _).mpr (q.trans (by decide +kernel)))
          refine AW.iconst X (pc := 89) (v := -1) (by decide) d_M_eventJ_89 ?_
          exact hret 90 _ _ _ d_M_eventJ_90 ⟨by rw [show evJ w = -1 by unfold evJ; rw [if_neg c_10]; rw [if_neg c_26]; rw [if_neg c_59]; rw [if_neg c_82]], rfl⟩
        · have c_82 : w = lN (cI 3) := ((lg_eq _ _).mp c_82).trans (by decide +kernel)
          refine AW.iconst X (pc := 85) (v := 3) (by decide) d_M_eventJ_85 ?_
          refine AW.goto X (pc := 86) 90 d_M_eventJ_86 (by decide) ?_
          exact hret 90 _ _ _ d_M_eventJ_90 ⟨by rw [show evJ w = 3 by unfold evJ; rw [if_neg c_10]; rw [if_neg c_26]; rw [if_neg c_59]; rw [if_pos c_82]], rfl⟩
      · have c_59 : w = lN (cI 2) := ((lg_eq _ _).mp c_59).trans (by decide +kernel)
        refine AW.iconst X (pc := 62) (v := 2) (by decide) d_M_eventJ_62 ?_
        exact hret 63 _ _ _ d_M_eventJ_63 ⟨by rw [show evJ w = 2 by unfold evJ; rw [if_neg c_10]; rw [if_neg c_26]; rw [if_pos c_59]], rfl⟩
    · have c_26 : w = lN (cI 1) := ((lg_eq _ _).mp c_26).trans (by decide +kernel)
      refine AW.iconst X (pc := 29) (v := 1) (by decide) d_M_eventJ_29 ?_
      exact hret 30 _ _ _ d_M_eventJ_30 ⟨by rw [show evJ w = 1 by unfold evJ; rw [if_neg c_10]; rw [if_pos c_26]], rfl⟩
  · have c_10 : w = lN (cI 0) := ((lg_eq _ _).mp c_10).trans (by decide +kernel)
    refine AW.iconst X (pc := 13) (v := 0) (by decide) d_M_eventJ_13 ?_
    exact hret 14 _ _ _ d_M_eventJ_14 ⟨by rw [show evJ w = 0 by unfold evJ; rw [if_pos c_10]], rfl⟩
set_option maxHeartbeats 4000000 in
set_option maxRecDepth 100000 in
theorem c_M_actionJ (K : KTy) (w : Int64) (μ : Mu) (hN : 272 ≤ KN K)  : CT K y_M_actionJ (k_M_actionJ :: GT) 1 [.long w] μ (fun v μ2 => v = some (.int (acJ w)) ∧ μ2 = μ) := by
  refine CT.int (cc := b_M_actionJ) (maxL := 2) (by decide) rfl rfl (Nat.le_of_ble_eq_true rfl) ?_
  intro G ad N hK X hret
  subst hK
  have hN : 272 ≤ N := hN
  show AW G (rmD 1) 2 (0, 0, ad, N, fb) 0 [(0, .long w)] [] μ
  refine AW.lload_n X (pc := 0) 0 rfl rfl d_M_actionJ_0 ?_
  refine AW.iconst X (pc := 1) (v := 4) (by decide) d_M_actionJ_1 ?_
  refine AW.iconst X (pc := 2) (v := 5) (by decide) d_M_actionJ_2 ?_
  refine AW.bipush X (pc := 3) (v := 19) (by decide) d_M_actionJ_3 ?_
  refine AW.bipush X (pc := 5) (v := 20) (by decide) d_M_actionJ_5 ?_
  refine AW.callS X (pc := 7) (nA := 4) [.int 4, .int 5, .int 19, .int 20] [.long w] (c_M_word4_82910 (kOf G ad N) μ hN) (gv_S wm_M_104 ws_M_word4 wn_M kw_M_word4) rfl (by decide +kernel) rfl ⟨Nat.le_of_ble_eq_true rfl, Nat.le_of_ble_eq_true rfl⟩ ⟨Nat.zero_le _, Nat.zero_le _⟩ (Nat.le_of_ble_eq_true rfl) d_M_actionJ_7 rfl (fun v μ2 hq => ?_)
  obtain ⟨rfl, hm⟩ := hq
  rw [hm]
  clear hm
  show AW G (rmD 1) 2 (0, 0, ad, N, fb) 10 [(0, .long w)] [.long 82910, .long w] μ
  refine AW.ldc2 X (pc := 10) (v := 27) wc_M_98 d_M_actionJ_10 ?_
  refine AW.lmul X (pc := 13) d_M_actionJ_13 ?_
  refine AW.ldc2 X (pc := 14) (v := 18) wc_M_114 d_M_actionJ_14 ?_
  refine AW.ladd X (pc := 17) d_M_actionJ_17 ?_
  refine AW.ldc2 X (pc := 18) (v := 27) wc_M_98 d_M_actionJ_18 ?_
  refine AW.lmul X (pc := 21) d_M_actionJ_21 ?_
  refine AW.ldc2 X (pc := 22) (v := 15) wc_M_116 d_M_actionJ_22 ?_
  refine AW.ladd X (pc := 25) d_M_actionJ_25 ?_
  refine AW.ldc2 X (pc := 26) (v := 27) wc_M_98 d_M_actionJ_26 ?_
  refine AW.lmul X (pc := 29) d_M_actionJ_29 ?_
  refine AW.ldc2 X (pc := 30) (v := 25) wc_M_118 d_M_actionJ_30 ?_
  refine AW.ladd X (pc := 33) d_M_actionJ_33 ?_
  refine AW.lcmp X (pc := 34) d_M_actionJ_34 ?_
  refine AW.if_ne X (pc := 35) 40 d_M_actionJ_35 (by decide) (fun c_35 => ?_) (fun c_35 => ?_)
  · have c_35 : ¬ w = lN (cI 4) := fun q => c_35 ((lg_eq _ _).mpr (q.trans (by decide +kernel)))
    refine AW.lload_n X (pc := 40) 0 rfl rfl d_M_actionJ_40 ?_
    refine AW.bipush X (pc := 41) (v := 20) (by decide) d_M_actionJ_41 ?_
    refine AW.bipush X (pc := 43) (v := 18) (by decide) d_M_actionJ_43 ?_
    refine AW.iconst X (pc := 45) (v := 1) (by decide) d_M_actionJ_45 ?_
    refine AW.bipush X (pc := 46) (v := 14) (by decide) d_M_actionJ_46 ?_
    refine AW.callS X (pc := 48) (nA := 4) [.int 20, .int 18, .int 1, .int 14] [.long w] (c_M_word4_406823 (kOf G ad N) μ hN) (gv_S wm_M_104 ws_M_word4 wn_M kw_M_word4) rfl (by decide +kernel) rfl ⟨Nat.le_of_ble_eq_true rfl, Nat.le_of_ble_eq_true rfl⟩ ⟨Nat.zero_le _, Nat.zero_le _⟩ (Nat.le_of_ble_eq_true rfl) d_M_actionJ_48 rfl (fun v μ2 hq => ?_)
    obtain ⟨rfl, hm⟩ := hq
    rw [hm]
    clear hm
    show AW G (rmD 1) 2 (0, 0, ad, N, fb) 51 [(0, .long w)] [.long 406823, .long w] μ
    refine AW.ldc2 X (pc := 51) (v := 27) wc_M_98 d_M_actionJ_51 ?_
    refine AW.lmul X (pc := 54) d_M_actionJ_54 ?_
    refine AW.ldc2 X (pc := 55) (v := 19) wc_M_120 d_M_actionJ_55 ?_
    refine AW.ladd X (pc := 58) d_M_actionJ_58 ?_
    refine AW.ldc2 X (pc := 59) (v := 27) wc_M_98 d_M_actionJ_59 ?_
    refine AW.lmul X (pc := 62) d_M_actionJ_62 ?_
    refine AW.ldc2 X (pc := 63) (v := 6) wc_M_122 d_M_actionJ_63 ?_
    refine AW.ladd X (pc := 66) d_M_actionJ_66 ?_
    refine AW.ldc2 X (pc := 67) (v := 27) wc_M_98 d_M_actionJ_67 ?_
    refine AW.lmul X (pc := 70) d_M_actionJ_70 ?_
    refine AW.ldc2 X (pc := 71) (v := 5) wc_M_108 d_M_actionJ_71 ?_
    refine AW.ladd X (pc := 74) d_M_actionJ_74 ?_
    refine AW.ldc2 X (pc := 75) (v := 27) wc_M_98 d_M_actionJ_75 ?_
    refine AW.lmul X (pc := 78) d_M_actionJ_78 ?_
    refine AW.ldc2 X (pc := 79) (v := 18) wc_M_114 d_M_actionJ_79 ?_
    refine AW.ladd X (pc := 82) d_M_actionJ_82 ?_
    refine AW.lcmp X (pc := 83) d_M_actionJ_83 ?_
    refine AW.if_ne X (pc := 84) 91 d_M_actionJ_84 (by decide) (fun c_84 => ?_) (fun c_84 => ?_)
    · have c_84 : ¬ w = lN (cI 5) := fun q => c_84 ((lg_eq _ _).mpr (q.trans (by decide +kernel)))
      refine AW.iconst X (pc := 91) (v := -1) (by decide) d_M_actionJ_91 ?_
      exact hret 92 _ _ _ d_M_actionJ_92 ⟨by rw [show acJ w = -1 by unfold acJ; rw [if_neg c_35]; rw [if_neg c_84]], rfl⟩
    · have c_84 : w = lN (cI 5) := ((lg_eq _ _).mp c_84).trans (by decide +kernel)
      refine AW.iconst X (pc := 87) (v := 1) (by decide) d_M_actionJ_87 ?_
      refine AW.goto X (pc := 88) 92 d_M_actionJ_88 (by decide) ?_
      exact hret 92 _ _ _ d_M_actionJ_92 ⟨by rw [show acJ w = 1 by unfold acJ; rw [if_neg c_35]; rw [if_pos c_84]], rfl⟩
  · have c_35 : w = lN (cI 4) := ((lg_eq _ _).mp c_35).trans (by decide +kernel)
    refine AW.iconst X (pc := 38) (v := 0) (by decide) d_M_actionJ_38 ?_
    exact hret 39 _ _ _ d_M_actionJ_39 ⟨by rw [show acJ w = 0 by unfold acJ; rw [if_pos c_35]], rfl⟩
set_option maxHeartbeats 4000000 in
set_option maxRecDepth 100000 in
theorem c_M_space (K : KTy) (σ : Mu) (nr : Nat) (p : Nat) (μ : Mu) (hN : 272 ≤ KN K) (hI : CI σ nr) (hM : MR σ μ nr) (hB : BR σ) (h3 : μ 250 3 = nI p) (hp : p ≤ tlN σ) : CT K y_M_space (k_M_space :: GT) 1 [.ref 250] μ (fun v μ2 => if sgA σ p = 32 then v = some (.int 1) ∧ μ2 = m_up μ 250 3 (nI (p + 1)) else v = some (.int 0) ∧ μ2 = μ) := by
  refine CT.bool (cc := b_M_space) (maxL := 1) (by decide) rfl rfl (Nat.le_of_ble_eq_true rfl) ?_
  intro G ad N hK X hret
  subst hK
  have hN : 272 ≤ N := hN
  have htl := hI.tl.2
  show AW G (rmD 1) 1 (0, 0, ad, N, fb) 0 [(0, .ref 250)] [] μ
  refine AW.aload_n X (pc := 0) 0 rfl rfl d_M_space_0 ?_
  refine AW.callV X (pc := 1) (b := 250) (ci := 5) (nA := 0) [] [] (c_M_look (kOf G ad N) σ nr p μ hN hI hM hB h3 hp) (gv_V wm_M_90 wi_M_look wl_M_look wn_M kw_M_look) rfl (by decide +kernel) rfl (by omega) rfl rfl ⟨Nat.le_of_ble_eq_true rfl, Nat.le_of_ble_eq_true rfl⟩ ⟨Nat.zero_le _, Nat.zero_le _⟩ (Nat.le_of_ble_eq_true rfl) d_M_space_1 rfl (fun v μ2 hq => ?_)
  obtain ⟨rfl, hm⟩ := hq
  rw [hm]
  clear hm
  show AW G (rmD 1) 1 (0, 0, ad, N, fb) 4 [(0, .ref 250)] [.int (tbA σ p)] μ
  refine AW.bipush X (pc := 4) (v := 32) (by decide) d_M_space_4 ?_
  refine AW.icmp_eq X (pc := 6) 11 d_M_space_6 (by decide) (fun c_6 => ?_) (fun c_6 => ?_)
  · refine AW.aload_n X (pc := 11) 0 rfl rfl d_M_space_11 ?_
    refine AW.dup X (pc := 12) rfl d_M_space_12 ?_
    refine AW.get X (pc := 13) (k := 250) (ci := 5) (j := 3) (v := .int (μ 250 3)) (by omega) rfl rfl in_M (by decide) wf_M_87 rfl rfl d_M_space_13 ?_
    refine AW.val (w := .int (nI p)) (congrArg Value.int (h3)) ?_
    refine AW.iconst X (pc := 16) (v := 1) (by decide) d_M_space_16 ?_
    refine AW.iadd X (pc := 17) d_M_space_17 ?_
    refine AW.val (w := .int (nI (p + 1))) (congrArg Value.int (nI_add p 1)) ?_
    refine AW.put X (pc := 18) (k := 250) (ci := 5) (j := 3) (x := nI (p + 1)) (ty := .int) ft_M (by omega) rfl rfl in_M ft_M_ok n_M (by decide) wf_M_87 rfl rfl rfl rfl rfl d_M_space_18 ?_
    refine AW.iconst X (pc := 21) (v := 1) (by decide) d_M_space_21 ?_
    exact hret 22 _ _ _ d_M_space_22 rfl (by rw [if_pos ((tb_all hB p).2.2.1.mp c_6)]; exact ⟨rfl, rfl⟩)
  · refine AW.iconst X (pc := 9) (v := 0) (by decide) d_M_space_9 ?_
    exact hret 10 _ _ _ d_M_space_10 rfl (by rw [if_neg (fun q => c_6 ((tb_all hB p).2.2.1.mpr q))]; exact ⟨rfl, rfl⟩)
set_option maxHeartbeats 4000000 in
set_option maxRecDepth 100000 in
theorem c_M_digits (K : KTy) (σ : Mu) (nr : Nat) (p : Nat) (μ : Mu) (hN : 272 ≤ KN K) (hI : CI σ nr) (hM : MR σ μ nr) (hB : BR σ) (h3 : μ 250 3 = nI p) (hp : p ≤ tlN σ) : CT K y_M_digits (k_M_digits :: GT) 1 [.ref 250] μ (fun v μ2 => v = some (.int (if (dgR (sgA σ) 3 p 0).1 = p then -1 else (dgR (sgA σ) 3 p 0).2)) ∧ μ2 = m_up μ 250 3 (nI (dgR (sgA σ) 3 p 0).1)) := by
  refine CT.int (cc := b_M_digits) (maxL := 3) (by decide) rfl rfl (Nat.le_of_ble_eq_true rfl) ?_
  intro G ad N hK X hret
  subst hK
  have hN : 272 ≤ N := hN
  have htl := hI.tl.2
  show AW G (rmD 1) 3 (0, 0, ad, N, fb) 0 [(0, .ref 250)] [] μ
  have key : ∀ (n q : Nat) (x y : Int32), 3 + p - q < n → p ≤ q → q ≤ p + 3 → q ≤ tlN σ → dgR (sgA σ) (3 + p - q) q x = (dgR (sgA σ) 3 p 0) → y = nI (q - p) → AW G (rmD 1) 3 (0, 0, ad, N, fb) 4 [(2, .int y), (1, .int x), (0, .ref 250)] [] (m_up μ 250 3 (nI q)) := by
    intro n
    induction n with
    | zero =>
      intro q x y hlt
      exact absurd hlt (Nat.not_lt_zero _)
    | succ n ih =>
      intro q x y hlt hpq hq3 hqt hd ey
      subst ey
      have hM1 := hM.at (nI q)
      have h31 : (m_up μ 250 3 (nI q)) 250 3 = nI q := m_up_self _ _ _ _
      have hdg := (tb_all hB q).2.1
      refine AW.aload_n X (pc := 4) 2 rfl rfl d_M_digits_4 ?_
      refine AW.callV X (pc := 5) (b := 250) (ci := 5) (nA := 0) [] [] (c_M_look (kOf G ad N) σ nr q (m_up μ 250 3 (nI q)) hN hI hM1 hB h31 hqt) (gv_V wm_M_90 wi_M_look wl_M_look wn_M kw_M_look) rfl (by decide +kernel) rfl (by omega) rfl rfl ⟨Nat.le_of_ble_eq_true rfl, Nat.le_of_ble_eq_true rfl⟩ ⟨Nat.zero_le _, Nat.zero_le _⟩ (Nat.le_of_ble_eq_true rfl) d_M_digits_5 rfl (fun v μ2 hq => ?_)
      obtain ⟨rfl, hm⟩ := hq
      rw [hm]
      clear hm
      show AW G (rmD 1) 3 (0, 0, ad, N, fb) 8 [(2, .int (nI (q - p))), (1, .int x), (0, .ref 250)] [.int (tbA σ q)] (m_up μ 250 3 (nI q))
      refine AW.bipush X (pc := 8) (v := 48) (by decide) d_M_digits_8 ?_
      refine AW.icmp_lt X (pc := 10) 56 d_M_digits_10 (by decide) (fun c_10 => ?_) (fun c_10 => ?_)
      · have hng : dgB (sgA σ q) = false := by rw [← hdg, dgB]; simp [c_10]
        refine AW.iload_n X (pc := 56) 0 rfl rfl d_M_digits_56 ?_
        refine AW.if_ne X (pc := 57) 64 d_M_digits_57 (by decide) (fun c_57 => ?_) (fun c_57 => ?_)
        · rw [i_eq (nI_toInt (show q - p < 2 ^ 31 by omega)) (show (0 : Int32).toInt = 0 by decide)] at c_57
          refine AW.iload_n X (pc := 64) 1 rfl rfl d_M_digits_64 ?_
          have hD : (dgR (sgA σ) 3 p 0) = (q, x) := by
            rw [← hd]
            cases hz : 3 + p - q with
            | zero => rw [dgR]
            | succ z => rw [dgR, if_neg (by rw [hng]; decide)]
          exact hret 65 _ _ _ d_M_digits_65 (by rw [hD]; exact ⟨by rw [if_neg (by omega)], rfl⟩)
        · rw [i_eq (nI_toInt (show q - p < 2 ^ 31 by omega)) (show (0 : Int32).toInt = 0 by decide)] at c_57
          refine AW.iconst X (pc := 60) (v := -1) (by decide) d_M_digits_60 ?_
          refine AW.goto X (pc := 61) 65 d_M_digits_61 (by decide) ?_
          have hD : (dgR (sgA σ) 3 p 0) = (q, x) := by
            rw [← hd]
            cases hz : 3 + p - q with
            | zero => rw [dgR]
            | succ z => rw [dgR, if_neg (by rw [hng]; decide)]
          exact hret 65 _ _ _ d_M_digits_65 (by rw [hD]; exact ⟨by rw [if_pos (by omega)], rfl⟩)
      · refine AW.aload_n X (pc := 13) 2 rfl rfl d_M_digits_13 ?_
        refine AW.callV X (pc := 14) (b := 250) (ci := 5) (nA := 0) [] [] (c_M_look (kOf G ad N) σ nr q (m_up μ 250 3 (nI q)) hN hI hM1 hB h31 hqt) (gv_V wm_M_90 wi_M_look wl_M_look wn_M kw_M_look) rfl (by decide +kernel) rfl (by omega) rfl rfl ⟨Nat.le_of_ble_eq_true rfl, Nat.le_of_ble_eq_true rfl⟩ ⟨Nat.zero_le _, Nat.zero_le _⟩ (Nat.le_of_ble_eq_true rfl) d_M_digits_14 rfl (fun v μ2 hq => ?_)
        obtain ⟨rfl, hm⟩ := hq
        rw [hm]
        clear hm
        show AW G (rmD 1) 3 (0, 0, ad, N, fb) 17 [(2, .int (nI (q - p))), (1, .int x), (0, .ref 250)] [.int (tbA σ q)] (m_up μ 250 3 (nI q))
        refine AW.bipush X (pc := 17) (v := 57) (by decide) d_M_digits_17 ?_
        refine AW.icmp_gt X (pc := 19) 56 d_M_digits_19 (by decide) (fun c_19 => ?_) (fun c_19 => ?_)
        · have hng : dgB (sgA σ q) = false := by rw [← hdg, dgB]; simp [c_19]
          refine AW.iload_n X (pc := 56) 0 rfl rfl d_M_digits_56 ?_
          refine AW.if_ne X (pc := 57) 64 d_M_digits_57 (by decide) (fun c_57 => ?_) (fun c_57 => ?_)
          · rw [i_eq (nI_toInt (show q - p < 2 ^ 31 by omega)) (show (0 : Int32).toInt = 0 by decide)] at c_57
            refine AW.iload_n X (pc := 64) 1 rfl rfl d_M_digits_64 ?_
            have hD : (dgR (sgA σ) 3 p 0) = (q, x) := by
              rw [← hd]
              cases hz : 3 + p - q with
              | zero => rw [dgR]
              | succ z => rw [dgR, if_neg (by rw [hng]; decide)]
            exact hret 65 _ _ _ d_M_digits_65 (by rw [hD]; exact ⟨by rw [if_neg (by omega)], rfl⟩)
          · rw [i_eq (nI_toInt (show q - p < 2 ^ 31 by omega)) (show (0 : Int32).toInt = 0 by decide)] at c_57
            refine AW.iconst X (pc := 60) (v := -1) (by decide) d_M_digits_60 ?_
            refine AW.goto X (pc := 61) 65 d_M_digits_61 (by decide) ?_
            have hD : (dgR (sgA σ) 3 p 0) = (q, x) := by
              rw [← hd]
              cases hz : 3 + p - q with
              | zero => rw [dgR]
              | succ z => rw [dgR, if_neg (by rw [hng]; decide)]
            exact hret 65 _ _ _ d_M_digits_65 (by rw [hD]; exact ⟨by rw [if_pos (by omega)], rfl⟩)
        · have hyg : dgB (sgA σ q) = true := by rw [← hdg, dgB]; simp [c_10, c_19]
          have htb : tbA σ q = sgA σ q := (tb_all hB q).2.2.2.2 hyg
          refine AW.iload_n X (pc := 22) 0 rfl rfl d_M_digits_22 ?_
          refine AW.iconst X (pc := 23) (v := 3) (by decide) d_M_digits_23 ?_
          refine AW.icmp_ge X (pc := 24) 56 d_M_digits_24 (by decide) (fun c_24 => ?_) (fun c_24 => ?_)
          · rw [i_le (show (3 : Int32).toInt = 3 by decide) (nI_toInt (show q - p < 2 ^ 31 by omega))] at c_24
            refine AW.iload_n X (pc := 56) 0 rfl rfl d_M_digits_56 ?_
            refine AW.if_ne X (pc := 57) 64 d_M_digits_57 (by decide) (fun c_57 => ?_) (fun c_57 => ?_)
            · rw [i_eq (nI_toInt (show q - p < 2 ^ 31 by omega)) (show (0 : Int32).toInt = 0 by decide)] at c_57
              refine AW.iload_n X (pc := 64) 1 rfl rfl d_M_digits_64 ?_
              have hD : (dgR (sgA σ) 3 p 0) = (q, x) := by rw [← hd, show 3 + p - q = 0 by omega, dgR]
              exact hret 65 _ _ _ d_M_digits_65 (by rw [hD]; exact ⟨by rw [if_neg (by omega)], rfl⟩)
            · rw [i_eq (nI_toInt (show q - p < 2 ^ 31 by omega)) (show (0 : Int32).toInt = 0 by decide)] at c_57
              refine AW.iconst X (pc := 60) (v := -1) (by decide) d_M_digits_60 ?_
              refine AW.goto X (pc := 61) 65 d_M_digits_61 (by decide) ?_
              have hD : (dgR (sgA σ) 3 p 0) = (q, x) := by rw [← hd, show 3 + p - q = 0 by omega, dgR]
              exact hret 65 _ _ _ d_M_digits_65 (by rw [hD]; exact ⟨by rw [if_pos (by omega)], rfl⟩)
          · rw [i_le (show (3 : Int32).toInt = 3 by decide) (nI_toInt (show q - p < 2 ^ 31 by omega))] at c_24
            refine AW.bipush X (pc := 27) (v := 10) (by decide) d_M_digits_27 ?_
            refine AW.iload_n X (pc := 29) 1 rfl rfl d_M_digits_29 ?_
            refine AW.imul X (pc := 30) d_M_digits_30 ?_
            refine AW.aload_n X (pc := 31) 2 rfl rfl d_M_digits_31 ?_
            refine AW.callV X (pc := 32) (b := 250) (ci := 5) (nA := 0) [] [.int (10 * x)] (c_M_look (kOf G ad N) σ nr q (m_up μ 250 3 (nI q)) hN hI hM1 hB h31 hqt) (gv_V wm_M_90 wi_M_look wl_M_look wn_M kw_M_look) rfl (by decide +kernel) rfl (by omega) rfl rfl ⟨Nat.le_of_ble_eq_true rfl, Nat.le_of_ble_eq_true rfl⟩ ⟨Nat.zero_le _, Nat.zero_le _⟩ (Nat.le_of_ble_eq_true rfl) d_M_digits_32 rfl (fun v μ2 hq => ?_)
            obtain ⟨rfl, hm⟩ := hq
            rw [hm]
            clear hm
            show AW G (rmD 1) 3 (0, 0, ad, N, fb) 35 [(2, .int (nI (q - p))), (1, .int x), (0, .ref 250)] [.int (tbA σ q), .int (10 * x)] (m_up μ 250 3 (nI q))
            refine AW.iadd X (pc := 35) d_M_digits_35 ?_
            refine AW.bipush X (pc := 36) (v := 48) (by decide) d_M_digits_36 ?_
            refine AW.isub X (pc := 38) d_M_digits_38 ?_
            refine AW.istore_n X (pc := 39) (lv2 := [(1, .int (((10 * x) + (tbA σ q)) - 48)), (2, .int (nI (q - p))), (0, .ref 250)]) rfl d_M_digits_39 (by decide) rfl ?_
            refine AW.iinc X (pc := 40) (v := (nI (q - p)) + 1) (lv2 := [(2, .int ((nI (q - p)) + 1)), (1, .int (((10 * x) + (tbA σ q)) - 48)), (0, .ref 250)]) 1 rfl rfl d_M_digits_40 (by decide) rfl ?_
            refine AW.aload_n X (pc := 43) 2 rfl rfl d_M_digits_43 ?_
            refine AW.dup X (pc := 44) rfl d_M_digits_44 ?_
            refine AW.get X (pc := 45) (k := 250) (ci := 5) (j := 3) (v := .int ((m_up μ 250 3 (nI q)) 250 3)) (by omega) rfl rfl in_M (by decide) wf_M_87 rfl rfl d_M_digits_45 ?_
            refine AW.val (w := .int (nI q)) (congrArg Value.int (h31)) ?_
            refine AW.iconst X (pc := 48) (v := 1) (by decide) d_M_digits_48 ?_
            refine AW.iadd X (pc := 49) d_M_digits_49 ?_
            refine AW.val (w := .int (nI (q + 1))) (congrArg Value.int (nI_add q 1)) ?_
            refine AW.put X (pc := 50) (k := 250) (ci := 5) (j := 3) (x := nI (q + 1)) (ty := .int) ft_M (by omega) rfl rfl in_M ft_M_ok n_M (by decide) wf_M_87 rfl rfl rfl rfl rfl d_M_digits_50 ?_
            refine AW.goto X (pc := 53) 4 d_M_digits_53 (by decide) ?_
            refine AW.locs (lv2 := [(2, .int ((nI (q - p)) + 1)), (1, .int (((10 * x) + (tbA σ q)) - 48)), (0, .ref 250)]) [0, 1, 2] rfl ?_
            rw [m_up_up]
            have hlt2 : q < tlN σ := by
              rcases Nat.lt_or_ge q (tlN σ) with h | h
              · exact h
              · rw [sgA_dg h] at hyg; cases hyg
            exact ih (q + 1) _ _ (by omega) (by omega) (by omega) (by omega) (by rw [← hd, show 3 + p - q = (3 + p - (q + 1)) + 1 by omega, dgR, if_pos hyg, htb, Int32.mul_comm]) (by rw [show q + 1 - p = q - p + 1 by omega]; exact nI_1 _)
  refine AW.iconst X (pc := 0) (v := 0) (by decide) d_M_digits_0 ?_
  refine AW.istore_n X (pc := 1) (lv2 := [(1, .int 0), (0, .ref 250)]) rfl d_M_digits_1 (by decide) rfl ?_
  refine AW.iconst X (pc := 2) (v := 0) (by decide) d_M_digits_2 ?_
  refine AW.istore_n X (pc := 3) (lv2 := [(2, .int 0), (1, .int 0), (0, .ref 250)]) rfl d_M_digits_3 (by decide) rfl ?_
  have hmm : m_up μ 250 3 (nI p) = μ := by funext a b; unfold m_up; split; (rename_i h; rw [h.1, h.2, h3]); rfl
  have q := key 4 p 0 0 (by omega) (Nat.le_refl _) (by omega) hp (by rw [Nat.add_sub_cancel]) (by rw [Nat.sub_self]; rfl)
  rw [hmm] at q
  exact q
