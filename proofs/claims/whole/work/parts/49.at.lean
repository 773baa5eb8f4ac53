def atC (μ : Mu) (x w : Int32) : Bool := decide (¬ x < 0 ∧ ¬ μ 245 3 ≤ x) && inB 0 2 w
theorem atC_ix {μ : Mu} {nr : Nat} {x w : Int32} (hI : CI μ nr) (h : atC μ x w = true) : ∃ j, j < lnN μ ∧ x = nI j ∧ inB 0 2 w = true := by
  simp only [atC, Bool.and_eq_true, decide_eq_true_eq] at h
  have hl := hI.ln.2
  obtain ⟨j, hj, e⟩ := ofIx (x := x) (n := lnN μ) (M := μ 245 3) (by omega) (by rw [hI.ln.1]; exact nI_toInt (by omega)) h.1.1 h.1.2
  exact ⟨j, hj, e, h.2⟩
theorem inB_hist {n : Nat} {x : Int32} (hn : n ≤ 60) : inB 0 (nI n - 1) x = (decide (¬ x < 0) && decide (¬ nI n ≤ x)) := by
  unfold inB
  have e : (nI n - 1).toInt = (n : Int) - 1 := pk_sub_toInt (a := n) (b := 1) (by omega) (by decide)
  have h : (nI n - 1 < x) = (nI n ≤ x) := propext (by rw [i_lt e rfl, i_le (nI_toInt (show n < 2 ^ 31 by omega)) rfl]; omega)
  simp only [h]
set_option maxHeartbeats 4000000 in
set_option maxRecDepth 100000 in
theorem c_C_at (K : KTy) (nr j : Nat) (w : Int32) (μ : Mu) (hN : 272 ≤ KN K) (hI : CI μ nr) (hj : j < lnN μ) (hw : inB 0 2 w = true) : CT K y_C_at (k_C_at :: GT) 1 [.ref 0, .int (nI j), .int w] μ (fun v μ2 => v = some (.int (f_told μ j w)) ∧ μ2 = μ) := by
  refine CT.int (cc := b_C_at) (maxL := 3) (by decide) rfl rfl (Nat.le_of_ble_eq_true rfl) ?_
  intro G ad N hK X hret
  subst hK
  have hN : 272 ≤ N := hN
  have hln := hI.ln.2
  have hx1 : ¬ nI j < 0 ∧ ¬ μ 245 3 ≤ nI j := ⟨nI_pos (by omega), by rw [hI.ln.1, i_le (nI_toInt (show lnN μ < 2 ^ 31 by omega)) (nI_toInt (show j < 2 ^ 31 by omega))]; omega⟩
  simp only [inB, Bool.and_eq_true, decide_eq_true_eq] at hw
  show AW G (rmD 1) 3 (0, 0, ad, N, fb) 0 [(0, .ref 0), (1, .int (nI j)), (2, .int w)] [] μ
  refine AW.aload_n X (pc := 0) 0 rfl rfl d_C_at_0 ?_
  refine AW.get X (pc := 1) (k := 0) (ci := 4) (j := 4) (v := .ref 245) (by omega) rfl rfl in_C (by decide) wf_C_32 rfl rfl d_C_at_1 ?_
  refine AW.iload_n X (pc := 4) 1 rfl rfl d_C_at_4 ?_
  refine AW.callV X (pc := 5) (b := 245) (ci := 0) (nA := 1) [.int (nI j)] [] (c_L_has (kOf G ad N) (nI j) μ hN) (gv_V wm_C_139 wi_L_has wl_L_has wn_L kw_L_has) rfl (by decide +kernel) rfl (by omega) rfl rfl ⟨Nat.le_of_ble_eq_true rfl, Nat.le_of_ble_eq_true rfl⟩ ⟨Nat.zero_le _, Nat.zero_le _⟩ (Nat.le_of_ble_eq_true rfl) d_C_at_5 rfl (fun v μ2 hq => ?_)
  obtain ⟨rfl, hm⟩ := hq
  rw [hm]
  clear hm
  show AW G (rmD 1) 3 (0, 0, ad, N, fb) 8 [(0, .ref 0), (1, .int (nI j)), (2, .int w)] [.int (bi (decide (¬ (nI j) < 0 ∧ ¬ μ 245 3 ≤ (nI j))))] μ
  refine AW.if_eq X (pc := 8) 20 d_C_at_8 (by decide) (fun c_8 => absurd c_8 (by rw [decide_eq_true hx1]; decide)) (fun c_8 => ?_)
  refine AW.iload_n X (pc := 11) 2 rfl rfl d_C_at_11 ?_
  refine AW.if_lt X (pc := 12) 20 d_C_at_12 (by decide) (fun c_12 => absurd c_12 hw.1) (fun c_12 => ?_)
  refine AW.iload_n X (pc := 15) 2 rfl rfl d_C_at_15 ?_
  refine AW.iconst X (pc := 16) (v := 2) (by decide) d_C_at_16 ?_
  refine AW.icmp_le X (pc := 17) 30 d_C_at_17 (by decide) (fun c_17 => ?_) (fun c_17 => absurd (Int32.not_lt.mp hw.2) c_17)
  refine AW.aload_n X (pc := 30) 0 rfl rfl d_C_at_30 ?_
  refine AW.get X (pc := 31) (k := 0) (ci := 4) (j := 4) (v := .ref 245) (by omega) rfl rfl in_C (by decide) wf_C_32 rfl rfl d_C_at_31 ?_
  refine AW.iload_n X (pc := 34) 1 rfl rfl d_C_at_34 ?_
  refine AW.iload_n X (pc := 35) 2 rfl rfl d_C_at_35 ?_
  refine AW.callV X (pc := 36) (b := 245) (ci := 0) (nA := 2) [.int (nI j), .int w] [] (c_L_told (kOf G ad N) j w μ hN (by omega)) (gv_V wm_C_149 wi_L_told wl_L_told wn_L kw_L_told) rfl (by decide +kernel) rfl (by omega) rfl rfl ⟨Nat.le_of_ble_eq_true rfl, Nat.le_of_ble_eq_true rfl⟩ ⟨Nat.zero_le _, Nat.zero_le _⟩ (Nat.le_of_ble_eq_true rfl) d_C_at_36 rfl (fun v μ2 hq => ?_)
  obtain ⟨rfl, hm⟩ := hq
  rw [hm]
  clear hm
  show AW G (rmD 1) 3 (0, 0, ad, N, fb) 39 [(0, .ref 0), (1, .int (nI j)), (2, .int w)] [.int (f_told μ j w)] μ
  exact hret 39 _ _ _ d_C_at_39 ⟨rfl, rfl⟩
set_option maxHeartbeats 4000000 in
set_option maxRecDepth 100000 in
theorem c_C_history (K : KTy) (nr j : Nat) (μ : Mu) (hN : 272 ≤ KN K) (hI : CI μ nr) (hj : j < dnN μ) : CT K y_C_history (k_C_history :: GT) 0 [.ref 0, .int (nI j)] μ (fun v μ2 => v = some (.int (nI (diN μ j))) ∧ μ2 = μ) := by
  refine CT.int (cc := b_C_history) (maxL := 2) (by decide) rfl rfl (Nat.le_of_ble_eq_true rfl) ?_
  intro G ad N hK X hret
  subst hK
  have hN : 272 ≤ N := hN
  have hdn := hI.dn.2
  show AW G (rmD 0) 2 (0, 0, ad, N, fb) 0 [(0, .ref 0), (1, .int (nI j))] [] μ
  refine AW.iload_n X (pc := 0) 1 rfl rfl d_C_history_0 ?_
  refine AW.if_lt X (pc := 1) 21 d_C_history_1 (by decide) (fun c_1 => absurd c_1 (by rw [i_lt (nI_toInt (show j < 2 ^ 31 by omega)) (show (0 : Int32).toInt = 0 by decide)]; omega)) (fun c_1 => ?_)
  refine AW.iload_n X (pc := 4) 1 rfl rfl d_C_history_4 ?_
  refine AW.aload_n X (pc := 5) 0 rfl rfl d_C_history_5 ?_
  refine AW.get X (pc := 6) (k := 0) (ci := 4) (j := 6) (v := .int (μ 0 6)) (by omega) rfl rfl in_C (by decide) wf_C_191 rfl rfl d_C_history_6 ?_
  refine AW.val (w := .int (nI (dnN μ))) (congrArg Value.int (hI.dn.1)) ?_
  refine AW.icmp_ge X (pc := 9) 21 d_C_history_9 (by decide) (fun c_9 => absurd c_9 (by rw [i_le (nI_toInt (show dnN μ < 2 ^ 31 by omega)) (nI_toInt (show j < 2 ^ 31 by omega))]; omega)) (fun c_9 => ?_)
  refine AW.iload_n X (pc := 12) 1 rfl rfl d_C_history_12 ?_
  refine AW.aload_n X (pc := 13) 0 rfl rfl d_C_history_13 ?_
  refine AW.get X (pc := 14) (k := 0) (ci := 4) (j := 5) (v := .ref 249) (by omega) rfl rfl in_C (by decide) wf_C_36 rfl rfl d_C_history_14 ?_
  refine AW.alen X (pc := 17) (k := 249) (t := 0) (n := 60) (kd := 0) (v := 60) (by omega) rfl rfl (by decide) d_C_history_17 ?_
  refine AW.icmp_lt X (pc := 18) 31 d_C_history_18 (by decide) (fun c_18 => ?_) (fun c_18 => absurd c_18 (by rw [i_lt (nI_toInt (show j < 2 ^ 31 by omega)) (show (60 : Int32).toInt = 60 by decide)]; omega))
  refine AW.aload_n X (pc := 31) 0 rfl rfl d_C_history_31 ?_
  refine AW.get X (pc := 32) (k := 0) (ci := 4) (j := 5) (v := .ref 249) (by omega) rfl rfl in_C (by decide) wf_C_36 rfl rfl d_C_history_32 ?_
  refine AW.iload_n X (pc := 35) 1 rfl rfl d_C_history_35 ?_
  refine AW.ialdN X (pc := 36) (k := 249) (t := 0) (n := 60) (j := j) (by omega) rfl rfl (by omega) (by decide) d_C_history_36 ?_
  refine AW.val (w := .int (nI (diN μ j))) (congrArg Value.int ((hI.di hj).1)) ?_
  exact hret 37 _ _ _ d_C_history_37 ⟨rfl, rfl⟩
set_option maxHeartbeats 4000000 in
set_option maxRecDepth 100000 in
theorem x_C_at {l : Launch} {D : va_G} {cA : Nat → ClassId} {sa : Nat → Nat} {A : Nat → Prop} {ad : Nat → Nat} {N : Nat} (x w : Int32) (μ : Mu) (hN : 272 ≤ N) (hl : l.stackTraces = false) (hB : atC μ x w = false) : CX (l, D, cA, sa, A, ad, N) y_C_at (k_C_at :: GT) 6 [.ref 0, .int x, .int w] μ := by
  refine CX.of (cc := b_C_at) (maxL := 3) (ret := some .int) (by decide) rfl rfl (Nat.le_of_ble_eq_true rfl) hl (by decide) ?_
  intro G hK X hthrow
  have hsa : G.2.2.2.2.2.2.2.2.2.2.2.2.1 = sa := congrArg (fun K : KTy => K.2.2.2.1) hK
  have hstr : vk_R "RetentionRows" 144 "nothing such is listed" (sa 6) G.2.2.2.1 := by rw [← hsa]; exact X.gS.2.2.2.2.2.2.2.2.2.2.1
  show AW G (rmA 6 1 6) 3 (0, 0, ad, N, fb) 0 [(0, .ref 0), (1, .int x), (2, .int w)] [] μ
  refine AW.aload_n X (pc := 0) 0 rfl rfl d_C_at_0 ?_
  refine AW.get X (pc := 1) (k := 0) (ci := 4) (j := 4) (v := .ref 245) (by omega) rfl rfl in_C (by decide) wf_C_32 rfl rfl d_C_at_1 ?_
  refine AW.iload_n X (pc := 4) 1 rfl rfl d_C_at_4 ?_
  refine AW.callV X (pc := 5) (b := 245) (ci := 0) (nA := 1) [.int x] [] (c_L_has (kOf G ad N) x μ hN) (gv_V wm_C_139 wi_L_has wl_L_has wn_L kw_L_has) rfl (by decide +kernel) rfl (by omega) rfl rfl ⟨Nat.le_of_ble_eq_true rfl, Nat.le_of_ble_eq_true rfl⟩ ⟨Nat.zero_le _, Nat.zero_le _⟩ (Nat.le_of_ble_eq_true rfl) d_C_at_5 rfl (fun v μ2 hq => ?_)
  obtain ⟨rfl, hm⟩ := hq
  rw [hm]
  clear hm
  show AW G (rmA 6 1 6) 3 (0, 0, ad, N, fb) 8 [(0, .ref 0), (1, .int x), (2, .int w)] [.int (bi (decide (¬ x < 0 ∧ ¬ μ 245 3 ≤ x)))] μ
  refine AW.if_eq X (pc := 8) 20 d_C_at_8 (by decide) (fun c_8 => ?_) (fun c_8 => ?_)
  · exact hthrow 20 144 6 "nothing such is listed" _ _ hstr d_C_at_20 d_C_at_23 d_C_at_24 d_C_at_26 d_C_at_29 (Nat.le_of_ble_eq_true rfl)
  · have c_8 := of_decide_eq_true (bi_ne.mp c_8)
    refine AW.iload_n X (pc := 11) 2 rfl rfl d_C_at_11 ?_
    refine AW.if_lt X (pc := 12) 20 d_C_at_12 (by decide) (fun c_12 => ?_) (fun c_12 => ?_)
    · exact hthrow 20 144 6 "nothing such is listed" _ _ hstr d_C_at_20 d_C_at_23 d_C_at_24 d_C_at_26 d_C_at_29 (Nat.le_of_ble_eq_true rfl)
    · refine AW.iload_n X (pc := 15) 2 rfl rfl d_C_at_15 ?_
      refine AW.iconst X (pc := 16) (v := 2) (by decide) d_C_at_16 ?_
      refine AW.icmp_le X (pc := 17) 30 d_C_at_17 (by decide) (fun c_17 => ?_) (fun c_17 => ?_)
      · exact absurd hB (by rw [atC, decide_eq_true c_8, inB, decide_eq_true c_12, decide_eq_true (Int32.not_lt.mpr c_17)]; decide)
      · exact hthrow 20 144 6 "nothing such is listed" _ _ hstr d_C_at_20 d_C_at_23 d_C_at_24 d_C_at_26 d_C_at_29 (Nat.le_of_ble_eq_true rfl)
set_option maxHeartbeats 4000000 in
set_option maxRecDepth 100000 in
theorem x_C_history {l : Launch} {D : va_G} {cA : Nat → ClassId} {sa : Nat → Nat} {A : Nat → Prop} {ad : Nat → Nat} {N : Nat} (nr : Nat) (x : Int32) (μ : Mu) (hN : 272 ≤ N) (hl : l.stackTraces = false) (hI : CI μ nr) (hB : inB 0 (nI (dnN μ) - 1) x = false) : CX (l, D, cA, sa, A, ad, N) y_C_history (k_C_history :: GT) 6 [.ref 0, .int x] μ := by
  refine CX.of (cc := b_C_history) (maxL := 2) (ret := some .int) (by decide) rfl rfl (Nat.le_of_ble_eq_true rfl) hl (by decide) ?_
  intro G hK X hthrow
  have hsa : G.2.2.2.2.2.2.2.2.2.2.2.2.1 = sa := congrArg (fun K : KTy => K.2.2.2.1) hK
  have hstr : vk_R "RetentionRows" 194 "no such disposal" (sa 7) G.2.2.2.1 := by rw [← hsa]; exact X.gS.2.2.2.2.2.2.2.2.2.2.2
  show AW G (rmA 6 1 6) 2 (0, 0, ad, N, fb) 0 [(0, .ref 0), (1, .int x)] [] μ
  refine AW.iload_n X (pc := 0) 1 rfl rfl d_C_history_0 ?_
  refine AW.if_lt X (pc := 1) 21 d_C_history_1 (by decide) (fun c_1 => ?_) (fun c_1 => ?_)
  · exact hthrow 21 194 7 "no such disposal" _ _ hstr d_C_history_21 d_C_history_24 d_C_history_25 d_C_history_27 d_C_history_30 (Nat.le_of_ble_eq_true rfl)
  · refine AW.iload_n X (pc := 4) 1 rfl rfl d_C_history_4 ?_
    refine AW.aload_n X (pc := 5) 0 rfl rfl d_C_history_5 ?_
    refine AW.get X (pc := 6) (k := 0) (ci := 4) (j := 6) (v := .int (μ 0 6)) (by omega) rfl rfl in_C (by decide) wf_C_191 rfl rfl d_C_history_6 ?_
    refine AW.val (w := .int (nI (dnN μ))) (congrArg Value.int (hI.dn.1)) ?_
    refine AW.icmp_ge X (pc := 9) 21 d_C_history_9 (by decide) (fun c_9 => ?_) (fun c_9 => ?_)
    · exact hthrow 21 194 7 "no such disposal" _ _ hstr d_C_history_21 d_C_history_24 d_C_history_25 d_C_history_27 d_C_history_30 (Nat.le_of_ble_eq_true rfl)
    · refine AW.iload_n X (pc := 12) 1 rfl rfl d_C_history_12 ?_
      refine AW.aload_n X (pc := 13) 0 rfl rfl d_C_history_13 ?_
      refine AW.get X (pc := 14) (k := 0) (ci := 4) (j := 5) (v := .ref 249) (by omega) rfl rfl in_C (by decide) wf_C_36 rfl rfl d_C_history_14 ?_
      refine AW.alen X (pc := 17) (k := 249) (t := 0) (n := 60) (kd := 0) (v := 60) (by omega) rfl rfl (by decide) d_C_history_17 ?_
      refine AW.icmp_lt X (pc := 18) 31 d_C_history_18 (by decide) (fun c_18 => ?_) (fun c_18 => ?_)
      · exact absurd hB (by rw [inB_hist hI.dn.2, decide_eq_true c_1, decide_eq_true c_9]; decide)
      · exact hthrow 21 194 7 "no such disposal" _ _ hstr d_C_history_21 d_C_history_24 d_C_history_25 d_C_history_27 d_C_history_30 (Nat.le_of_ble_eq_true rfl)
set_option maxHeartbeats 4000000 in
set_option maxRecDepth 100000 in
theorem c_W_at (K : KTy) (nr n0 : Nat) (x w : Int32) (μ : Mu) (hKN : KN K = n0) (hn0 : 272 ≤ n0 ∧ n0 < SB) (hl : K.1.stackTraces = false) (hI : CI μ nr) : CTA K y_W_at (k_W_at :: GT) 7 1 6 fb [.ref 0, .int x, .int w, .ref 271] μ (fun v μ2 β2 N2 => if atC μ x w = false then v = some (.int 1) ∧ μ2 = μ ∧ β2 = fb ∧ N2 = n0 else v = some (.int 0) ∧ μ2 = m_up μ 271 0 (f_told μ x.toNatClampNeg w) ∧ β2 = fb ∧ N2 = n0) := by
  refine CTA.ofW (cc := b_W_at) (maxL := 5) (by decide) rfl rfl (Nat.le_of_ble_eq_true rfl) ?_
  intro G ad N hK X hA0 ht hret
  subst hK
  obtain rfl : n0 = N := hKN.symm
  obtain ⟨ex, ht1, ht2, ht3, ht4, ht5⟩ := ht
  have hN : 272 ≤ n0 := hn0.1
  cases hB : atC μ x w with
  | false =>
    show AW G (rmA 7 1 6) 5 (0, 0, ad, n0, fb) 0 [(0, .ref 0), (1, .int x), (2, .int w), (3, .ref 271)] [] μ
    refine AW.aload_n X (pc := 0) 3 rfl rfl d_W_at_0 ?_
    refine AW.iconst X (pc := 1) (v := 0) (by decide) d_W_at_1 ?_
    refine AW.aload_n X (pc := 2) 0 rfl rfl d_W_at_2 ?_
    refine AW.iload_n X (pc := 3) 1 rfl rfl d_W_at_3 ?_
    refine AW.iload_n X (pc := 4) 2 rfl rfl d_W_at_4 ?_
    refine AW.callX X hA0 (pc := 5) (b := 0) (ci := 4) (nA := 2) [.int x, .int w] [.int 0, .ref 271] (x_C_at x w μ hN hl hB) (gv_V wm_W_7 wi_C_at wl_C_at wn_C kw_C_at) rfl (by decide +kernel) rfl (by omega) rfl rfl ⟨Nat.le_of_ble_eq_true rfl, Nat.le_of_ble_eq_true rfl⟩ ⟨Nat.le_of_ble_eq_true rfl, Nat.le_of_ble_eq_true rfl⟩ (Nat.le_of_ble_eq_true rfl) (List.forall_mem_cons.mpr ⟨Or.inl (show (0 : Nat) < n0 by omega), List.forall_mem_cons.mpr ⟨trivial, List.forall_mem_cons.mpr ⟨trivial, List.forall_mem_cons.mpr ⟨Or.inl (show (271 : Nat) < n0 by omega), (fun _ h => nomatch h)⟩⟩⟩⟩) hn0.2 d_W_at_5 rfl ht1 (by rw [covers, ht2, ht3]; decide) (by rw [ht5]; decide) (by rw [ht5]; exact wk_W_13) (fun q => ?_)
    rw [ht4]
    refine AW.astore X (pc := 13) (lv2 := [(4, .ref n0), (0, .ref 0), (1, .int x), (2, .int w), (3, .ref 271)]) d_W_at_13 (by decide) rfl ?_
    refine AW.iconst X (pc := 15) (v := 1) (by decide) d_W_at_15 ?_
    exact hret 16 _ _ _ _ _ _ _ _ d_W_at_16 (Nat.le_of_ble_eq_true rfl) (Nat.le_of_ble_eq_true rfl) (fun k hk => va_up_ne _ _ (by omega)) (by rw [if_pos hB]; exact ⟨rfl, rfl, rfl, rfl⟩)
  | true =>
    have hln := hI.ln.2
    obtain ⟨j, hj, rfl, hw⟩ := atC_ix hI hB
    have hcj : (nI j).toNatClampNeg = j := nI_clamp (by omega)
    show AW G (rmA 7 1 6) 5 (0, 0, ad, n0, fb) 0 [(0, .ref 0), (1, .int (nI j)), (2, .int w), (3, .ref 271)] [] μ
    refine AW.aload_n X (pc := 0) 3 rfl rfl d_W_at_0 ?_
    refine AW.iconst X (pc := 1) (v := 0) (by decide) d_W_at_1 ?_
    refine AW.aload_n X (pc := 2) 0 rfl rfl d_W_at_2 ?_
    refine AW.iload_n X (pc := 3) 1 rfl rfl d_W_at_3 ?_
    refine AW.iload_n X (pc := 4) 2 rfl rfl d_W_at_4 ?_
    refine AW.callV X (pc := 5) (b := 0) (ci := 4) (nA := 2) [.int (nI j), .int w] [.int 0, .ref 271] (c_C_at (kOf G ad n0) nr j w μ hN hI hj hw) (gv_V wm_W_7 wi_C_at wl_C_at wn_C kw_C_at) rfl (by decide +kernel) rfl (by omega) rfl rfl ⟨Nat.le_of_ble_eq_true rfl, Nat.le_of_ble_eq_true rfl⟩ ⟨Nat.zero_le _, Nat.zero_le _⟩ (Nat.le_of_ble_eq_true rfl) d_W_at_5 rfl (fun v μ2 hq => ?_)
    obtain ⟨rfl, hm⟩ := hq
    rw [hm]
    clear hm
    show AW G (rmA 7 1 6) 5 (0, 0, ad, n0, fb) 8 [(0, .ref 0), (1, .int (nI j)), (2, .int w), (3, .ref 271)] [.int (f_told μ j w), .int 0, .ref 271] μ
    refine AW.i2l X (pc := 8) d_W_at_8 ?_
    refine AW.last X (pc := 9) (k := 271) (t := 1) (n := 1) (i := 0) (x := f_told μ j w) (by omega) rfl rfl (vp_in_nI (n := 0) (by decide) (by decide)) d_W_at_9 ?_
    refine AW.goto X (pc := 10) 17 d_W_at_10 (by decide) ?_
    refine AW.iconst X (pc := 17) (v := 0) (by decide) d_W_at_17 ?_
    exact hret 18 _ _ _ _ _ _ _ _ d_W_at_18 (Nat.zero_le _) (Nat.zero_le _) (fun _ _ => rfl) (by rw [if_neg (by rw [hB]; exact b_tf), hcj]; exact ⟨rfl, rfl, rfl, rfl⟩)
set_option maxHeartbeats 4000000 in
set_option maxRecDepth 100000 in
theorem c_W_history (K : KTy) (nr n0 : Nat) (x : Int32) (μ : Mu) (hKN : KN K = n0) (hn0 : 272 ≤ n0 ∧ n0 < SB) (hl : K.1.stackTraces = false) (hI : CI μ nr) : CTA K y_W_history (k_W_history :: GT) 7 1 6 fb [.ref 0, .int x, .ref 271] μ (fun v μ2 β2 N2 => if inB 0 (nI (dnN μ) - 1) x = false then v = some (.int 1) ∧ μ2 = μ ∧ β2 = fb ∧ N2 = n0 else v = some (.int 0) ∧ μ2 = m_up μ 271 0 (nI (diN μ x.toNatClampNeg)) ∧ β2 = fb ∧ N2 = n0) := by
  refine CTA.ofW (cc := b_W_history) (maxL := 4) (by decide) rfl rfl (Nat.le_of_ble_eq_true rfl) ?_
  intro G ad N hK X hA0 ht hret
  subst hK
  obtain rfl : n0 = N := hKN.symm
  obtain ⟨ex, ht1, ht2, ht3, ht4, ht5⟩ := ht
  have hN : 272 ≤ n0 := hn0.1
  cases hB : inB 0 (nI (dnN μ) - 1) x with
  | false =>
    show AW G (rmA 7 1 6) 4 (0, 0, ad, n0, fb) 0 [(0, .ref 0), (1, .int x), (2, .ref 271)] [] μ
    refine AW.aload_n X (pc := 0) 2 rfl rfl d_W_history_0 ?_
    refine AW.iconst X (pc := 1) (v := 0) (by decide) d_W_history_1 ?_
    refine AW.aload_n X (pc := 2) 0 rfl rfl d_W_history_2 ?_
    refine AW.iload_n X (pc := 3) 1 rfl rfl d_W_history_3 ?_
    refine AW.callX X hA0 (pc := 4) (b := 0) (ci := 4) (nA := 1) [.int x] [.int 0, .ref 271] (x_C_history nr x μ hN hl hI hB) (gv_V wm_W_15 wi_C_history wl_C_history wn_C kw_C_history) rfl (by decide +kernel) rfl (by omega) rfl rfl ⟨Nat.le_of_ble_eq_true rfl, Nat.le_of_ble_eq_true rfl⟩ ⟨Nat.le_of_ble_eq_true rfl, Nat.le_of_ble_eq_true rfl⟩ (Nat.le_of_ble_eq_true rfl) (List.forall_mem_cons.mpr ⟨Or.inl (show (0 : Nat) < n0 by omega), List.forall_mem_cons.mpr ⟨trivial, List.forall_mem_cons.mpr ⟨Or.inl (show (271 : Nat) < n0 by omega), (fun _ h => nomatch h)⟩⟩⟩) hn0.2 d_W_history_4 rfl ht1 (by rw [covers, ht2, ht3]; decide) (by rw [ht5]; decide) (by rw [ht5]; exact wk_W_13) (fun q => ?_)
    rw [ht4]
    refine AW.astore_n X (pc := 12) (lv2 := [(3, .ref n0), (0, .ref 0), (1, .int x), (2, .ref 271)]) rfl d_W_history_12 (by decide) rfl ?_
    refine AW.iconst X (pc := 13) (v := 1) (by decide) d_W_history_13 ?_
    exact hret 14 _ _ _ _ _ _ _ _ d_W_history_14 (Nat.le_of_ble_eq_true rfl) (Nat.le_of_ble_eq_true rfl) (fun k hk => va_up_ne _ _ (by omega)) (by rw [if_pos hB]; exact ⟨rfl, rfl, rfl, rfl⟩)
  | true =>
    have hdn := hI.dn.2
    obtain ⟨j, hj, rfl⟩ := inB_1 (by omega) hB
    have hcj : (nI j).toNatClampNeg = j := nI_clamp (by omega)
    show AW G (rmA 7 1 6) 4 (0, 0, ad, n0, fb) 0 [(0, .ref 0), (1, .int (nI j)), (2, .ref 271)] [] μ
    refine AW.aload_n X (pc := 0) 2 rfl rfl d_W_history_0 ?_
    refine AW.iconst X (pc := 1) (v := 0) (by decide) d_W_history_1 ?_
    refine AW.aload_n X (pc := 2) 0 rfl rfl d_W_history_2 ?_
    refine AW.iload_n X (pc := 3) 1 rfl rfl d_W_history_3 ?_
    refine AW.callV X (pc := 4) (b := 0) (ci := 4) (nA := 1) [.int (nI j)] [.int 0, .ref 271] (c_C_history (kOf G ad n0) nr j μ hN hI hj) (gv_V wm_W_15 wi_C_history wl_C_history wn_C kw_C_history) rfl (by decide +kernel) rfl (by omega) rfl rfl ⟨Nat.le_of_ble_eq_true rfl, Nat.le_of_ble_eq_true rfl⟩ ⟨Nat.zero_le _, Nat.zero_le _⟩ (Nat.le_of_ble_eq_true rfl) d_W_history_4 rfl (fun v μ2 hq => ?_)
    obtain ⟨rfl, hm⟩ := hq
    rw [hm]
    clear hm
    show AW G (rmA 7 1 6) 4 (0, 0, ad, n0, fb) 7 [(0, .ref 0), (1, .int (nI j)), (2, .ref 271)] [.int (nI (diN μ j)), .int 0, .ref 271] μ
    refine AW.i2l X (pc := 7) d_W_history_7 ?_
    refine AW.last X (pc := 8) (k := 271) (t := 1) (n := 1) (i := 0) (x := nI (diN μ j)) (by omega) rfl rfl (vp_in_nI (n := 0) (by decide) (by decide)) d_W_history_8 ?_
    refine AW.goto X (pc := 9) 15 d_W_history_9 (by decide) ?_
    refine AW.iconst X (pc := 15) (v := 0) (by decide) d_W_history_15 ?_
    exact hret 16 _ _ _ _ _ _ _ _ d_W_history_16 (Nat.zero_le _) (Nat.zero_le _) (fun _ _ => rfl) (by rw [if_neg (by rw [hB]; exact b_tf), hcj]; exact ⟨rfl, rfl, rfl, rfl⟩)
