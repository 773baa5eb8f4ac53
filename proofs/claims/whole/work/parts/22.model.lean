theorem anyB_succ (p : Nat → Bool) (n : Nat) : anyB p (n + 1) = (anyB p n || p n) := by
  unfold anyB
  rw [List.range_succ, List.any_append]
  simp
set_option maxHeartbeats 4000000 in
set_option maxRecDepth 100000 in
theorem c_M_in (K : KTy) (v lo hi : Int32) (μ : Mu) (hN : 272 ≤ KN K)  : CT K y_M_in (k_M_in :: GT) 0 [.int v, .int lo, .int hi] μ (fun w μ2 => w = some (.int (bi (decide (¬ v < lo) && decide (¬ hi < v)))) ∧ μ2 = μ) := by
  refine CT.bool (cc := b_M_in) (maxL := 3) (by decide) rfl rfl (Nat.le_of_ble_eq_true rfl) ?_
  intro G ad N hK X hret
  subst hK
  have hN : 272 ≤ N := hN
  show AW G (rmD 0) 3 (0, 0, ad, N, fb) 0 [(0, .int v), (1, .int lo), (2, .int hi)] [] μ
  refine AW.iload_n X (pc := 0) 0 rfl rfl d_M_in_0 ?_
  refine AW.iload_n X (pc := 1) 1 rfl rfl d_M_in_1 ?_
  refine AW.icmp_lt X (pc := 2) 14 d_M_in_2 (by decide) (fun c_2 => ?_) (fun c_2 => ?_)
  · refine AW.iconst X (pc := 14) (v := 0) (by decide) d_M_in_14 ?_
    exact hret 15 _ _ _ d_M_in_15 rfl ⟨by simp [bi, c_2], rfl⟩
  · refine AW.iload_n X (pc := 5) 0 rfl rfl d_M_in_5 ?_
    refine AW.iload_n X (pc := 6) 2 rfl rfl d_M_in_6 ?_
    refine AW.icmp_gt X (pc := 7) 14 d_M_in_7 (by decide) (fun c_7 => ?_) (fun c_7 => ?_)
    · refine AW.iconst X (pc := 14) (v := 0) (by decide) d_M_in_14 ?_
      exact hret 15 _ _ _ d_M_in_15 rfl ⟨by simp [bi, c_2, c_7], rfl⟩
    · refine AW.iconst X (pc := 10) (v := 1) (by decide) d_M_in_10 ?_
      refine AW.goto X (pc := 11) 15 d_M_in_11 (by decide) ?_
      exact hret 15 _ _ _ d_M_in_15 rfl ⟨by simp [bi, c_2, c_7], rfl⟩
set_option maxHeartbeats 4000000 in
set_option maxRecDepth 100000 in
theorem c_M_isUnit (K : KTy) (u : Int32) (μ : Mu) (hN : 272 ≤ KN K)  : CT K y_M_isUnit (k_M_isUnit :: GT) 1 [.int u] μ (fun v μ2 => v = some (.int (bi (okU u))) ∧ μ2 = μ) := by
  refine CT.bool (cc := b_M_isUnit) (maxL := 1) (by decide) rfl rfl (Nat.le_of_ble_eq_true rfl) ?_
  intro G ad N hK X hret
  subst hK
  have hN : 272 ≤ N := hN
  show AW G (rmD 1) 1 (0, 0, ad, N, fb) 0 [(0, .int u)] [] μ
  refine AW.iload_n X (pc := 0) 0 rfl rfl d_M_isUnit_0 ?_
  refine AW.iconst X (pc := 1) (v := 0) (by decide) d_M_isUnit_1 ?_
  refine AW.bipush X (pc := 2) (v := 59) (by decide) d_M_isUnit_2 ?_
  refine AW.callS X (pc := 4) (nA := 3) [.int u, .int 0, .int 59] [] (c_M_in (kOf G ad N) u 0 59 μ hN) (gv_S wm_M_76 ws_M_in wn_M kw_M_in) rfl (by decide +kernel) rfl ⟨Nat.le_of_ble_eq_true rfl, Nat.le_of_ble_eq_true rfl⟩ ⟨Nat.zero_le _, Nat.zero_le _⟩ (Nat.le_of_ble_eq_true rfl) d_M_isUnit_4 rfl (fun v μ2 hq => ?_)
  obtain ⟨rfl, hm⟩ := hq
  rw [hm]
  clear hm
  show AW G (rmD 1) 1 (0, 0, ad, N, fb) 7 [(0, .int u)] [.int (bi (decide (¬ u < 0) && decide (¬ 59 < u)))] μ
  exact hret 7 _ _ _ d_M_isUnit_7 (bi_nar _) ⟨by rw [okU_59], rfl⟩
set_option maxHeartbeats 4000000 in
set_option maxRecDepth 100000 in
theorem c_M_isDay (K : KTy) (d : Int32) (μ : Mu) (hN : 272 ≤ KN K)  : CT K y_M_isDay (k_M_isDay :: GT) 1 [.int d] μ (fun v μ2 => v = some (.int (bi (okD d))) ∧ μ2 = μ) := by
  refine CT.bool (cc := b_M_isDay) (maxL := 1) (by decide) rfl rfl (Nat.le_of_ble_eq_true rfl) ?_
  intro G ad N hK X hret
  subst hK
  have hN : 272 ≤ N := hN
  show AW G (rmD 1) 1 (0, 0, ad, N, fb) 0 [(0, .int d)] [] μ
  refine AW.iload_n X (pc := 0) 0 rfl rfl d_M_isDay_0 ?_
  refine AW.iconst X (pc := 1) (v := 0) (by decide) d_M_isDay_1 ?_
  refine AW.ldc X (pc := 2) (v := 1000000) (by decide +kernel) d_M_isDay_2 ?_
  refine AW.callS X (pc := 4) (nA := 3) [.int d, .int 0, .int 1000000] [] (c_M_in (kOf G ad N) d 0 1000000 μ hN) (gv_S wm_M_76 ws_M_in wn_M kw_M_in) rfl (by decide +kernel) rfl ⟨Nat.le_of_ble_eq_true rfl, Nat.le_of_ble_eq_true rfl⟩ ⟨Nat.zero_le _, Nat.zero_le _⟩ (Nat.le_of_ble_eq_true rfl) d_M_isDay_4 rfl (fun v μ2 hq => ?_)
  obtain ⟨rfl, hm⟩ := hq
  rw [hm]
  clear hm
  show AW G (rmD 1) 1 (0, 0, ad, N, fb) 7 [(0, .int d)] [.int (bi (decide (¬ d < 0) && decide (¬ 1000000 < d)))] μ
  exact hret 7 _ _ _ d_M_isDay_7 (bi_nar _) ⟨rfl, rfl⟩
set_option maxHeartbeats 4000000 in
set_option maxRecDepth 100000 in
theorem c_M_isRule (K : KTy) (nr : Nat) (x : Int32) (μ : Mu) (hN : 272 ≤ KN K) (hn : nr ≤ 20) (hr : μ 250 4 = nI nr) : CT K y_M_isRule (k_M_isRule :: GT) 1 [.ref 250, .int x] μ (fun v μ2 => v = some (.int (bi (okR nr x))) ∧ μ2 = μ) := by
  refine CT.bool (cc := b_M_isRule) (maxL := 2) (by decide) rfl rfl (Nat.le_of_ble_eq_true rfl) ?_
  intro G ad N hK X hret
  subst hK
  have hN : 272 ≤ N := hN
  show AW G (rmD 1) 2 (0, 0, ad, N, fb) 0 [(0, .ref 250), (1, .int x)] [] μ
  refine AW.iload_n X (pc := 0) 1 rfl rfl d_M_isRule_0 ?_
  refine AW.iconst X (pc := 1) (v := 0) (by decide) d_M_isRule_1 ?_
  refine AW.aload_n X (pc := 2) 0 rfl rfl d_M_isRule_2 ?_
  refine AW.get X (pc := 3) (k := 250) (ci := 5) (j := 4) (v := .int (μ 250 4)) (by omega) rfl rfl in_M (by decide) wf_M_81 rfl rfl d_M_isRule_3 ?_
  refine AW.val (w := .int (nI nr)) (congrArg Value.int (hr)) ?_
  refine AW.iconst X (pc := 6) (v := 1) (by decide) d_M_isRule_6 ?_
  refine AW.isub X (pc := 7) d_M_isRule_7 ?_
  refine AW.callS X (pc := 8) (nA := 3) [.int x, .int 0, .int ((nI nr) - 1)] [] (c_M_in (kOf G ad N) x 0 ((nI nr) - 1) μ hN) (gv_S wm_M_76 ws_M_in wn_M kw_M_in) rfl (by decide +kernel) rfl ⟨Nat.le_of_ble_eq_true rfl, Nat.le_of_ble_eq_true rfl⟩ ⟨Nat.zero_le _, Nat.zero_le _⟩ (Nat.le_of_ble_eq_true rfl) d_M_isRule_8 rfl (fun v μ2 hq => ?_)
  obtain ⟨rfl, hm⟩ := hq
  rw [hm]
  clear hm
  show AW G (rmD 1) 2 (0, 0, ad, N, fb) 11 [(0, .ref 250), (1, .int x)] [.int (bi (decide (¬ x < 0) && decide (¬ ((nI nr) - 1) < x)))] μ
  exact hret 11 _ _ _ d_M_isRule_11 (bi_nar _) ⟨by rw [okR_1 hn], rfl⟩
set_option maxHeartbeats 4000000 in
set_option maxRecDepth 100000 in
theorem c_M_thrown (K : KTy)  (μ : Mu) (hN : 272 ≤ KN K)  : CT K y_M_thrown (k_M_thrown :: GT) 0 [.ref 250] μ (fun v μ2 => v = some (.int (μ 250 0)) ∧ μ2 = μ) := by
  refine CT.int (cc := b_M_thrown) (maxL := 1) (by decide) rfl rfl (Nat.le_of_ble_eq_true rfl) ?_
  intro G ad N hK X hret
  subst hK
  have hN : 272 ≤ N := hN
  show AW G (rmD 0) 1 (0, 0, ad, N, fb) 0 [(0, .ref 250)] [] μ
  refine AW.aload_n X (pc := 0) 0 rfl rfl d_M_thrown_0 ?_
  refine AW.get X (pc := 1) (k := 250) (ci := 5) (j := 0) (v := .int (μ 250 0)) (by omega) rfl rfl in_M (by decide) wf_M_72 rfl rfl d_M_thrown_1 ?_
  exact hret 4 _ _ _ d_M_thrown_4 ⟨by first | rfl | simp [bi], rfl⟩
set_option maxHeartbeats 4000000 in
set_option maxRecDepth 100000 in
theorem c_M_yearsOn (K : KTy) (σ : Mu) (r nr : Nat) (on : Int32) (μ : Mu) (hN : 272 ≤ KN K) (hr : r < nr) (hI : CI σ nr) (hM : MU σ μ nr) (hV : VR σ nr) : CT K y_M_yearsOn (k_M_yearsOn :: GT) 0 [.ref 250, .int (nI r), .int on] μ (fun v μ2 => v = some (.int (f_years σ r on (ccN σ r))) ∧ μ2 = μ) := by
  refine CT.int (cc := b_M_yearsOn) (maxL := 5) (by decide) rfl rfl (Nat.le_of_ble_eq_true rfl) ?_
  intro G ad N hK X hret
  subst hK
  have hN : 272 ≤ N := hN
  have hnr := hI.nr
  show AW G (rmD 0) 5 (0, 0, ad, N, fb) 0 [(0, .ref 250), (1, .int (nI r)), (2, .int on)] [] μ
  have hcc := (hI.cc hr).2
  have key : ∀ (n : Nat) (j : Nat) (x : Int32) (y : Int32), ccN σ r - j < n → (j ≤ ccN σ r) → (x = nI (j + 1)) → (y = f_years σ r on j) → AW G (rmD 0) 5 (0, 0, ad, N, fb) 13 [(4, .int x), (3, .int y), (0, .ref 250), (1, .int (nI r)), (2, .int on)] [] μ := by
    intro n
    induction n with
    | zero =>
      intro j x y hlt
      exact absurd hlt (Nat.not_lt_zero _)
    | succ n ih =>
      intro j x y hlt hj ex ey
      subst ex
      subst ey
      refine AW.iload X (pc := 13) 0 rfl d_M_yearsOn_13 ?_
      refine AW.aload_n X (pc := 15) 2 rfl rfl d_M_yearsOn_15 ?_
      refine AW.get X (pc := 16) (k := 250) (ci := 5) (j := 8) (v := .ref 255) (by omega) rfl rfl in_M (by decide) wf_M_24 rfl rfl d_M_yearsOn_16 ?_
      refine AW.iload_n X (pc := 19) 3 rfl rfl d_M_yearsOn_19 ?_
      refine AW.ialdN X (pc := 20) (k := 255) (t := 0) (n := 20) (j := r) (by omega) rfl rfl (by omega) (by decide) d_M_yearsOn_20 ?_
      refine AW.val (w := .int (nI (ccN σ r))) (congrArg Value.int (hM.ch hr)) ?_
      refine AW.icmp_gt X (pc := 21) 63 d_M_yearsOn_21 (by decide) (fun c_21 => ?_) (fun c_21 => ?_)
      · rw [i_lt (nI_toInt (show ccN σ r < 2 ^ 31 by omega)) (nI_toInt (show j + 1 < 2 ^ 31 by omega))] at c_21
        refine AW.iload_n X (pc := 63) 1 rfl rfl d_M_yearsOn_63 ?_
        exact hret 64 _ _ _ d_M_yearsOn_64 ⟨by rw [show ccN σ r = j by omega], rfl⟩
      · rw [i_lt (nI_toInt (show ccN σ r < 2 ^ 31 by omega)) (nI_toInt (show j + 1 < 2 ^ 31 by omega))] at c_21
        refine AW.aload_n X (pc := 24) 2 rfl rfl d_M_yearsOn_24 ?_
        refine AW.get X (pc := 25) (k := 250) (ci := 5) (j := 10) (v := .ref 257) (by omega) rfl rfl in_M (by decide) wf_M_30 rfl rfl d_M_yearsOn_25 ?_
        refine AW.bipush X (pc := 28) (v := 6) (by decide) d_M_yearsOn_28 ?_
        refine AW.iload_n X (pc := 30) 3 rfl rfl d_M_yearsOn_30 ?_
        refine AW.imul X (pc := 31) d_M_yearsOn_31 ?_
        refine AW.val (w := .int (nI (6 * r))) (congrArg Value.int (pk_mul 6 r)) ?_
        refine AW.iload X (pc := 32) 0 rfl d_M_yearsOn_32 ?_
        refine AW.iadd X (pc := 34) d_M_yearsOn_34 ?_
        refine AW.val (w := .int (nI ((6 * r) + (j + 1)))) (congrArg Value.int (nI_add (6 * r) (j + 1))) ?_
        refine AW.ialdN X (pc := 35) (k := 257) (t := 0) (n := 120) (j := (6 * r) + (j + 1)) (by omega) rfl rfl (by omega) (by decide) d_M_yearsOn_35 ?_
        refine AW.val (w := .int (σ (272 + 3 * r + 1) j)) (congrArg Value.int (hM.sn hr (show j < ccN σ r by omega))) ?_
        refine AW.iload_n X (pc := 36) 4 rfl rfl d_M_yearsOn_36 ?_
        refine AW.icmp_gt X (pc := 37) 55 d_M_yearsOn_37 (by decide) (fun c_37 => ?_) (fun c_37 => ?_)
        · refine AW.iload_n X (pc := 55) 1 rfl rfl d_M_yearsOn_55 ?_
          refine AW.istore_n X (pc := 56) (lv2 := [(3, .int (f_years σ r on j)), (4, .int (nI (j + 1))), (0, .ref 250), (1, .int (nI r)), (2, .int on)]) rfl d_M_yearsOn_56 (by decide) rfl ?_
          refine AW.iinc X (pc := 57) (v := nI (j + 2)) (lv2 := [(4, .int (nI (j + 2))), (3, .int (f_years σ r on j)), (0, .ref 250), (1, .int (nI r)), (2, .int on)]) 1 rfl (nI_1 _) d_M_yearsOn_57 (by decide) rfl ?_
          refine AW.goto X (pc := 60) 13 d_M_yearsOn_60 (by decide) ?_
          refine AW.locs (lv2 := [(4, .int (nI (j + 2))), (3, .int (f_years σ r on j)), (0, .ref 250), (1, .int (nI r)), (2, .int on)]) [0, 1, 2, 3, 4] rfl ?_
          exact ih (j + 1) _ _ (by omega) (by omega) rfl (by rw [f_years, if_pos c_37])
        · refine AW.aload_n X (pc := 40) 2 rfl rfl d_M_yearsOn_40 ?_
          refine AW.get X (pc := 41) (k := 250) (ci := 5) (j := 9) (v := .ref 256) (by omega) rfl rfl in_M (by decide) wf_M_27 rfl rfl d_M_yearsOn_41 ?_
          refine AW.bipush X (pc := 44) (v := 6) (by decide) d_M_yearsOn_44 ?_
          refine AW.iload_n X (pc := 46) 3 rfl rfl d_M_yearsOn_46 ?_
          refine AW.imul X (pc := 47) d_M_yearsOn_47 ?_
          refine AW.val (w := .int (nI (6 * r))) (congrArg Value.int (pk_mul 6 r)) ?_
          refine AW.iload X (pc := 48) 0 rfl d_M_yearsOn_48 ?_
          refine AW.iadd X (pc := 50) d_M_yearsOn_50 ?_
          refine AW.val (w := .int (nI ((6 * r) + (j + 1)))) (congrArg Value.int (nI_add (6 * r) (j + 1))) ?_
          refine AW.ialdN X (pc := 51) (k := 256) (t := 0) (n := 120) (j := (6 * r) + (j + 1)) (by omega) rfl rfl (by omega) (by decide) d_M_yearsOn_51 ?_
          refine AW.val (w := .int (σ (272 + 3 * r + 2) j)) (congrArg Value.int (hM.yr hr (show j < ccN σ r by omega))) ?_
          refine AW.goto X (pc := 52) 56 d_M_yearsOn_52 (by decide) ?_
          refine AW.istore_n X (pc := 56) (lv2 := [(3, .int (σ (272 + 3 * r + 2) j)), (4, .int (nI (j + 1))), (0, .ref 250), (1, .int (nI r)), (2, .int on)]) rfl d_M_yearsOn_56 (by decide) rfl ?_
          refine AW.iinc X (pc := 57) (v := nI (j + 2)) (lv2 := [(4, .int (nI (j + 2))), (3, .int (σ (272 + 3 * r + 2) j)), (0, .ref 250), (1, .int (nI r)), (2, .int on)]) 1 rfl (nI_1 _) d_M_yearsOn_57 (by decide) rfl ?_
          refine AW.goto X (pc := 60) 13 d_M_yearsOn_60 (by decide) ?_
          refine AW.locs (lv2 := [(4, .int (nI (j + 2))), (3, .int (σ (272 + 3 * r + 2) j)), (0, .ref 250), (1, .int (nI r)), (2, .int on)]) [0, 1, 2, 3, 4] rfl ?_
          exact ih (j + 1) _ _ (by omega) (by omega) rfl (by rw [f_years, if_neg c_37])
  refine AW.aload_n X (pc := 0) 0 rfl rfl d_M_yearsOn_0 ?_
  refine AW.get X (pc := 1) (k := 250) (ci := 5) (j := 9) (v := .ref 256) (by omega) rfl rfl in_M (by decide) wf_M_27 rfl rfl d_M_yearsOn_1 ?_
  refine AW.bipush X (pc := 4) (v := 6) (by decide) d_M_yearsOn_4 ?_
  refine AW.iload_n X (pc := 6) 1 rfl rfl d_M_yearsOn_6 ?_
  refine AW.imul X (pc := 7) d_M_yearsOn_7 ?_
  refine AW.val (w := .int (nI (6 * r))) (congrArg Value.int (pk_mul 6 r)) ?_
  refine AW.ialdN X (pc := 8) (k := 256) (t := 0) (n := 120) (j := 6 * r) (by omega) rfl rfl (by omega) (by decide) d_M_yearsOn_8 ?_
  refine AW.val (w := .int (σ (272 + 3 * r) 1)) (congrArg Value.int (hM.y0 hr)) ?_
  refine AW.istore_n X (pc := 9) (lv2 := [(3, .int (σ (272 + 3 * r) 1)), (0, .ref 250), (1, .int (nI r)), (2, .int on)]) rfl d_M_yearsOn_9 (by decide) rfl ?_
  refine AW.iconst X (pc := 10) (v := 1) (by decide) d_M_yearsOn_10 ?_
  refine AW.istore X (pc := 11) (lv2 := [(4, .int 1), (3, .int (σ (272 + 3 * r) 1)), (0, .ref 250), (1, .int (nI r)), (2, .int on)]) d_M_yearsOn_11 (by decide) rfl ?_
  exact key (ccN σ r + 1) 0 _ _ (by omega) (Nat.zero_le _) rfl rfl
set_option maxHeartbeats 4000000 in
set_option maxRecDepth 100000 in
theorem c_M_dayOf (K : KTy) (σ : Mu) (i r nr : Nat) (on : Int32) (μ : Mu) (hN : 272 ≤ KN K) (hi : i < 60) (hr : r < nr) (hI : CI σ nr) (hM : MU σ μ nr) (hV : VR σ nr) : CT K y_M_dayOf (k_M_dayOf :: GT) 1 [.ref 250, .int (nI i), .int (nI r), .int on] μ (fun v μ2 => v = some (.int (f_rday σ r (σ (5 + 4 * i + 1) (ekN σ r)) on)) ∧ μ2 = μ) := by
  refine CT.int (cc := b_M_dayOf) (maxL := 5) (by decide) rfl rfl (Nat.le_of_ble_eq_true rfl) ?_
  intro G ad N hK X hret
  subst hK
  have hN : 272 ≤ N := hN
  have hnr := hI.nr
  show AW G (rmD 1) 5 (0, 0, ad, N, fb) 0 [(0, .ref 250), (1, .int (nI i)), (2, .int (nI r)), (3, .int on)] [] μ
  have hek := (hI.ek hr).2
  have he0 : e0 (σ (5 + 4 * i + 1) (ekN σ r)) := by rcases hV.ev hi hek with h | ⟨d, hd, h⟩; exact Or.inl h; exact Or.inr (by rw [h]; exact nI_pos' (by omega))
  refine AW.aload_n X (pc := 0) 0 rfl rfl d_M_dayOf_0 ?_
  refine AW.get X (pc := 1) (k := 250) (ci := 5) (j := 11) (v := .ref 258) (by omega) rfl rfl in_M (by decide) wf_M_33 rfl rfl d_M_dayOf_1 ?_
  refine AW.iconst X (pc := 4) (v := 4) (by decide) d_M_dayOf_4 ?_
  refine AW.iload_n X (pc := 5) 1 rfl rfl d_M_dayOf_5 ?_
  refine AW.imul X (pc := 6) d_M_dayOf_6 ?_
  refine AW.val (w := .int (nI (4 * i))) (congrArg Value.int (pk_mul 4 i)) ?_
  refine AW.aload_n X (pc := 7) 0 rfl rfl d_M_dayOf_7 ?_
  refine AW.get X (pc := 8) (k := 250) (ci := 5) (j := 5) (v := .ref 252) (by omega) rfl rfl in_M (by decide) wf_M_13 rfl rfl d_M_dayOf_8 ?_
  refine AW.iload_n X (pc := 11) 2 rfl rfl d_M_dayOf_11 ?_
  refine AW.ialdN X (pc := 12) (k := 252) (t := 0) (n := 20) (j := r) (by omega) rfl rfl (by omega) (by decide) d_M_dayOf_12 ?_
  refine AW.val (w := .int (nI (ekN σ r))) (congrArg Value.int (hM.oe hr)) ?_
  refine AW.iadd X (pc := 13) d_M_dayOf_13 ?_
  refine AW.val (w := .int (nI ((4 * i) + (ekN σ r)))) (congrArg Value.int (nI_add (4 * i) (ekN σ r))) ?_
  refine AW.ialdN X (pc := 14) (k := 258) (t := 0) (n := 240) (j := (4 * i) + (ekN σ r)) (by omega) rfl rfl (by omega) (by decide) d_M_dayOf_14 ?_
  refine AW.val (w := .int (σ (5 + 4 * i + 1) (ekN σ r))) (congrArg Value.int (hM.ev hi (hI.ek hr).2)) ?_
  refine AW.istore X (pc := 15) (lv2 := [(4, .int (σ (5 + 4 * i + 1) (ekN σ r))), (0, .ref 250), (1, .int (nI i)), (2, .int (nI r)), (3, .int on)]) d_M_dayOf_15 (by decide) rfl ?_
  refine AW.iload X (pc := 17) 0 rfl d_M_dayOf_17 ?_
  refine AW.if_ge X (pc := 19) 26 d_M_dayOf_19 (by decide) (fun c_19 => ?_) (fun c_19 => ?_)
  · have c_19 := (e0_ge he0).mp c_19
    refine AW.iload X (pc := 26) 0 rfl d_M_dayOf_26 ?_
    refine AW.sipush X (pc := 28) (v := 365) (by decide) d_M_dayOf_28 ?_
    refine AW.aload_n X (pc := 31) 1 rfl rfl d_M_dayOf_31 ?_
    refine AW.iload_n X (pc := 32) 3 rfl rfl d_M_dayOf_32 ?_
    refine AW.iload_n X (pc := 33) 4 rfl rfl d_M_dayOf_33 ?_
    refine AW.callV X (pc := 34) (b := 250) (ci := 5) (nA := 2) [.int (nI r), .int on] [.int 365, .int (σ (5 + 4 * i + 1) (ekN σ r))] (c_M_yearsOn (kOf G ad N) σ r nr on μ hN hr hI hM hV) (gv_V wm_M_152 wi_M_yearsOn wl_M_yearsOn wn_M kw_M_yearsOn) rfl (by decide +kernel) rfl (by omega) rfl rfl ⟨Nat.le_of_ble_eq_true rfl, Nat.le_of_ble_eq_true rfl⟩ ⟨Nat.zero_le _, Nat.zero_le _⟩ (Nat.le_of_ble_eq_true rfl) d_M_dayOf_34 rfl (fun v μ2 hq => ?_)
    obtain ⟨rfl, hm⟩ := hq
    rw [hm]
    clear hm
    show AW G (rmD 1) 5 (0, 0, ad, N, fb) 37 [(4, .int (σ (5 + 4 * i + 1) (ekN σ r))), (0, .ref 250), (1, .int (nI i)), (2, .int (nI r)), (3, .int on)] [.int (f_years σ r on (ccN σ r)), .int 365, .int (σ (5 + 4 * i + 1) (ekN σ r))] μ
    refine AW.imul X (pc := 37) d_M_dayOf_37 ?_
    refine AW.iadd X (pc := 38) d_M_dayOf_38 ?_
    exact hret 39 _ _ _ d_M_dayOf_39 ⟨by rw [f_rday]; first | rw [if_pos c_19] | (rw [if_neg c_19, Int32.mul_comm]), rfl⟩
  · have c_19 := (e0_lt he0).mp (Int32.not_le.mp c_19)
    refine AW.iconst X (pc := 22) (v := -1) (by decide) d_M_dayOf_22 ?_
    refine AW.goto X (pc := 23) 39 d_M_dayOf_23 (by decide) ?_
    exact hret 39 _ _ _ d_M_dayOf_39 ⟨by rw [f_rday]; first | rw [if_pos c_19] | (rw [if_neg c_19, Int32.mul_comm]), rfl⟩
set_option maxHeartbeats 4000000 in
set_option maxRecDepth 100000 in
theorem c_M_fails (K : KTy) (σ : Mu) (i nr : Nat) (μ : Mu) (hN : 272 ≤ KN K) (hi : i < 60) (hI : CI σ nr) (hM : MU σ μ nr) (hV : VR σ nr) : CT K y_M_fails (k_M_fails :: GT) 0 [.ref 250, .int (nI i)] μ (fun v μ2 => v = some (.int (bi (f_fails σ i))) ∧ μ2 = μ) := by
  refine CT.bool (cc := b_M_fails) (maxL := 4) (by decide) rfl rfl (Nat.le_of_ble_eq_true rfl) ?_
  intro G ad N hK X hret
  subst hK
  have hN : 272 ≤ N := hN
  have hnr := hI.nr
  have hrn := (hI.rn hi).2
  show AW G (rmD 0) 4 (0, 0, ad, N, fb) 0 [(0, .ref 250), (1, .int (nI i))] [] μ
  have key : ∀ (n j : Nat) (x y : Int32) (b : Bool), rnN σ i - j < n → j ≤ rnN σ i → x = nI j → y = bi b → b = anyB (fun q => brB σ (rwN σ i q)) j → AW G (rmD 0) 4 (0, 0, ad, N, fb) 4 [(3, .int x), (2, .int y), (0, .ref 250), (1, .int (nI i))] [] μ := by
    intro n
    induction n with
    | zero =>
      intro j x y b hlt
      exact absurd hlt (Nat.not_lt_zero _)
    | succ n ih =>
      intro j x y b hlt hj ex ey hb
      subst ex
      subst ey
      refine AW.iload_n X (pc := 4) 0 rfl rfl d_M_fails_4 ?_
      refine AW.aload_n X (pc := 5) 2 rfl rfl d_M_fails_5 ?_
      refine AW.get X (pc := 6) (k := 250) (ci := 5) (j := 13) (v := .ref 260) (by omega) rfl rfl in_M (by decide) wf_M_39 rfl rfl d_M_fails_6 ?_
      refine AW.iload_n X (pc := 9) 3 rfl rfl d_M_fails_9 ?_
      refine AW.ialdN X (pc := 10) (k := 260) (t := 0) (n := 60) (j := i) (by omega) rfl rfl (by omega) (by decide) d_M_fails_10 ?_
      refine AW.val (w := .int (nI (rnN σ i))) (congrArg Value.int (hM.sc hi)) ?_
      refine AW.icmp_ge X (pc := 11) 48 d_M_fails_11 (by decide) (fun c_11 => ?_) (fun c_11 => ?_)
      · rw [i_le (nI_toInt (show rnN σ i < 2 ^ 31 by omega)) (nI_toInt (show j < 2 ^ 31 by omega))] at c_11
        refine AW.iload_n X (pc := 48) 1 rfl rfl d_M_fails_48 ?_
        exact hret 49 _ _ _ d_M_fails_49 (bi_nar _) ⟨by rw [hb, f_fails, show rnN σ i = j by omega], rfl⟩
      · rw [i_le (nI_toInt (show rnN σ i < 2 ^ 31 by omega)) (nI_toInt (show j < 2 ^ 31 by omega))] at c_11
        have hw := (hI.rw hi (show j < rnN σ i by omega)).2
        refine AW.iload_n X (pc := 14) 1 rfl rfl d_M_fails_14 ?_
        refine AW.if_ne X (pc := 15) 36 d_M_fails_15 (by decide) (fun c_15 => ?_) (fun c_15 => ?_)
        · have c_15 := bi_ne.mp c_15
          refine AW.iconst X (pc := 36) (v := 1) (by decide) d_M_fails_36 ?_
          refine AW.goto X (pc := 37) 41 d_M_fails_37 (by decide) ?_
          refine AW.istore_n X (pc := 41) (lv2 := [(2, .int 1), (3, .int (nI j)), (0, .ref 250), (1, .int (nI i))]) rfl d_M_fails_41 (by decide) rfl ?_
          refine AW.iinc X (pc := 42) (v := nI (j + 1)) (lv2 := [(3, .int (nI (j + 1))), (2, .int 1), (0, .ref 250), (1, .int (nI i))]) 1 rfl (nI_1 _) d_M_fails_42 (by decide) rfl ?_
          refine AW.goto X (pc := 45) 4 d_M_fails_45 (by decide) ?_
          refine AW.locs (lv2 := [(3, .int (nI (j + 1))), (2, .int 1), (0, .ref 250), (1, .int (nI i))]) [0, 1, 2, 3] rfl ?_
          exact ih (j + 1) _ _ true (by omega) (by omega) rfl rfl (by rw [anyB_succ, ← hb]; simp [c_15])
        · have c_15 := bi_eq.mp c_15
          refine AW.aload_n X (pc := 18) 2 rfl rfl d_M_fails_18 ?_
          refine AW.get X (pc := 19) (k := 250) (ci := 5) (j := 7) (v := .ref 254) (by omega) rfl rfl in_M (by decide) wf_M_20 rfl rfl d_M_fails_19 ?_
          refine AW.aload_n X (pc := 22) 2 rfl rfl d_M_fails_22 ?_
          refine AW.get X (pc := 23) (k := 250) (ci := 5) (j := 12) (v := .ref 259) (by omega) rfl rfl in_M (by decide) wf_M_36 rfl rfl d_M_fails_23 ?_
          refine AW.iconst X (pc := 26) (v := 4) (by decide) d_M_fails_26 ?_
          refine AW.iload_n X (pc := 27) 3 rfl rfl d_M_fails_27 ?_
          refine AW.imul X (pc := 28) d_M_fails_28 ?_
          refine AW.val (w := .int (nI (4 * i))) (congrArg Value.int (pk_mul 4 i)) ?_
          refine AW.iload_n X (pc := 29) 0 rfl rfl d_M_fails_29 ?_
          refine AW.iadd X (pc := 30) d_M_fails_30 ?_
          refine AW.val (w := .int (nI ((4 * i) + j))) (congrArg Value.int (nI_add (4 * i) j)) ?_
          refine AW.ialdN X (pc := 31) (k := 259) (t := 0) (n := 240) (j := (4 * i) + j) (by omega) rfl rfl (by omega) (by decide) d_M_fails_31 ?_
          refine AW.val (w := .int (nI (rwN σ i j))) (congrArg Value.int (hM.sd hi (show j < rnN σ i by omega))) ?_
          refine AW.zaldN X (pc := 32) (k := 254) (t := 5) (n := 20) (j := rwN σ i j) (by omega) rfl rfl (by omega) (by decide) d_M_fails_32 ?_
          refine AW.val (w := .int (bi (brB σ (rwN σ i j)))) (congrArg Value.int (hM.bk hw)) ?_
          refine AW.if_eq X (pc := 33) 40 d_M_fails_33 (by decide) (fun c_33 => ?_) (fun c_33 => ?_)
          · have c_33 := bi_eq.mp c_33
            refine AW.iconst X (pc := 40) (v := 0) (by decide) d_M_fails_40 ?_
            refine AW.istore_n X (pc := 41) (lv2 := [(2, .int 0), (3, .int (nI j)), (0, .ref 250), (1, .int (nI i))]) rfl d_M_fails_41 (by decide) rfl ?_
            refine AW.iinc X (pc := 42) (v := nI (j + 1)) (lv2 := [(3, .int (nI (j + 1))), (2, .int 0), (0, .ref 250), (1, .int (nI i))]) 1 rfl (nI_1 _) d_M_fails_42 (by decide) rfl ?_
            refine AW.goto X (pc := 45) 4 d_M_fails_45 (by decide) ?_
            refine AW.locs (lv2 := [(3, .int (nI (j + 1))), (2, .int 0), (0, .ref 250), (1, .int (nI i))]) [0, 1, 2, 3] rfl ?_
            exact ih (j + 1) _ _ false (by omega) (by omega) rfl rfl (by rw [anyB_succ, ← hb]; simp [c_15, c_33])
          · have c_33 := bi_ne.mp c_33
            refine AW.iconst X (pc := 36) (v := 1) (by decide) d_M_fails_36 ?_
            refine AW.goto X (pc := 37) 41 d_M_fails_37 (by decide) ?_
            refine AW.istore_n X (pc := 41) (lv2 := [(2, .int 1), (3, .int (nI j)), (0, .ref 250), (1, .int (nI i))]) rfl d_M_fails_41 (by decide) rfl ?_
            refine AW.iinc X (pc := 42) (v := nI (j + 1)) (lv2 := [(3, .int (nI (j + 1))), (2, .int 1), (0, .ref 250), (1, .int (nI i))]) 1 rfl (nI_1 _) d_M_fails_42 (by decide) rfl ?_
            refine AW.goto X (pc := 45) 4 d_M_fails_45 (by decide) ?_
            refine AW.locs (lv2 := [(3, .int (nI (j + 1))), (2, .int 1), (0, .ref 250), (1, .int (nI i))]) [0, 1, 2, 3] rfl ?_
            exact ih (j + 1) _ _ true (by omega) (by omega) rfl rfl (by rw [anyB_succ, ← hb]; simp [c_15, c_33])
  refine AW.iconst X (pc := 0) (v := 0) (by decide) d_M_fails_0 ?_
  refine AW.istore_n X (pc := 1) (lv2 := [(2, .int 0), (0, .ref 250), (1, .int (nI i))]) rfl d_M_fails_1 (by decide) rfl ?_
  refine AW.iconst X (pc := 2) (v := 0) (by decide) d_M_fails_2 ?_
  refine AW.istore_n X (pc := 3) (lv2 := [(3, .int 0), (2, .int 0), (0, .ref 250), (1, .int (nI i))]) rfl d_M_fails_3 (by decide) rfl ?_
  exact key (rnN σ i + 1) 0 _ _ false (by omega) (Nat.zero_le _) nI_0.symm rfl rfl
set_option maxHeartbeats 4000000 in
set_option maxRecDepth 100000 in
theorem c_M_isHeld (K : KTy) (σ : Mu) (i nr : Nat) (dd : Int32) (μ : Mu) (hN : 272 ≤ KN K) (hi : i < 60) (hI : CI σ nr) (hM : MU σ μ nr) (hV : VR σ nr) : CT K y_M_isHeld (k_M_isHeld :: GT) 0 [.ref 250, .int (nI i), .int dd] μ (fun v μ2 => v = some (.int (bi (f_held σ i dd))) ∧ μ2 = μ) := by
  refine CT.bool (cc := b_M_isHeld) (maxL := 5) (by decide) rfl rfl (Nat.le_of_ble_eq_true rfl) ?_
  intro G ad N hK X hret
  subst hK
  have hN : 272 ≤ N := hN
  have hnr := hI.nr
  have hrn := (hI.rn hi).2
  show AW G (rmD 0) 5 (0, 0, ad, N, fb) 0 [(0, .ref 250), (1, .int (nI i)), (2, .int dd)] [] μ
  have key : ∀ (n j : Nat) (x y : Int32) (b : Bool), 4 - j < n → j ≤ 4 → x = nI (4 * i + j) → y = bi b → b = anyB (fun q => decide (σ (5 + 4 * i + 3) q = -1) || decide (¬ σ (5 + 4 * i + 3) q < dd)) j → AW G (rmD 0) 5 (0, 0, ad, N, fb) 7 [(4, .int x), (3, .int y), (0, .ref 250), (1, .int (nI i)), (2, .int dd)] [] μ := by
    intro n
    induction n with
    | zero =>
      intro j x y b hlt
      exact absurd hlt (Nat.not_lt_zero _)
    | succ n ih =>
      intro j x y b hlt hj ex ey hb
      subst ex
      subst ey
      refine AW.iload X (pc := 7) 0 rfl d_M_isHeld_7 ?_
      refine AW.iconst X (pc := 9) (v := 4) (by decide) d_M_isHeld_9 ?_
      refine AW.iload_n X (pc := 10) 3 rfl rfl d_M_isHeld_10 ?_
      refine AW.imul X (pc := 11) d_M_isHeld_11 ?_
      refine AW.val (w := .int (nI (4 * i))) (congrArg Value.int (pk_mul 4 i)) ?_
      refine AW.iconst X (pc := 12) (v := 4) (by decide) d_M_isHeld_12 ?_
      refine AW.iadd X (pc := 13) d_M_isHeld_13 ?_
      refine AW.val (w := .int (nI ((4 * i) + 4))) (congrArg Value.int (nI_add (4 * i) 4)) ?_
      refine AW.icmp_ge X (pc := 14) 55 d_M_isHeld_14 (by decide) (fun c_14 => ?_) (fun c_14 => ?_)
      · rw [i_le (nI_toInt (show 4 * i + 4 < 2 ^ 31 by omega)) (nI_toInt (show 4 * i + j < 2 ^ 31 by omega))] at c_14
        refine AW.iload_n X (pc := 55) 1 rfl rfl d_M_isHeld_55 ?_
        exact hret 56 _ _ _ d_M_isHeld_56 (bi_nar _) ⟨by rw [hb, f_held, show (4 : Nat) = j by omega], rfl⟩
      · rw [i_le (nI_toInt (show 4 * i + 4 < 2 ^ 31 by omega)) (nI_toInt (show 4 * i + j < 2 ^ 31 by omega))] at c_14
        refine AW.iload_n X (pc := 17) 1 rfl rfl d_M_isHeld_17 ?_
        refine AW.if_ne X (pc := 18) 43 d_M_isHeld_18 (by decide) (fun c_18 => ?_) (fun c_18 => ?_)
        · have c_18 := bi_ne.mp c_18
          refine AW.iconst X (pc := 43) (v := 1) (by decide) d_M_isHeld_43 ?_
          refine AW.goto X (pc := 44) 48 d_M_isHeld_44 (by decide) ?_
          refine AW.istore_n X (pc := 48) (lv2 := [(3, .int 1), (4, .int (nI (4 * i + j))), (0, .ref 250), (1, .int (nI i)), (2, .int dd)]) rfl d_M_isHeld_48 (by decide) rfl ?_
          refine AW.iinc X (pc := 49) (v := (nI (4 * i + j)) + 1) (lv2 := [(4, .int ((nI (4 * i + j)) + 1)), (3, .int 1), (0, .ref 250), (1, .int (nI i)), (2, .int dd)]) 1 rfl rfl d_M_isHeld_49 (by decide) rfl ?_
          refine AW.goto X (pc := 52) 7 d_M_isHeld_52 (by decide) ?_
          refine AW.locs (lv2 := [(4, .int ((nI (4 * i + j)) + 1)), (3, .int 1), (0, .ref 250), (1, .int (nI i)), (2, .int dd)]) [0, 1, 2, 3, 4] rfl ?_
          exact ih (j + 1) _ _ true (by omega) (by omega) (nI_1 _) rfl (by rw [anyB_succ, ← hb]; simp [c_18])
        · have c_18 := bi_eq.mp c_18
          refine AW.aload_n X (pc := 21) 2 rfl rfl d_M_isHeld_21 ?_
          refine AW.get X (pc := 22) (k := 250) (ci := 5) (j := 14) (v := .ref 261) (by omega) rfl rfl in_M (by decide) wf_M_42 rfl rfl d_M_isHeld_22 ?_
          refine AW.iload X (pc := 25) 0 rfl d_M_isHeld_25 ?_
          refine AW.ialdN X (pc := 27) (k := 261) (t := 0) (n := 240) (j := 4 * i + j) (by omega) rfl rfl (by omega) (by decide) d_M_isHeld_27 ?_
          refine AW.val (w := .int (σ (5 + 4 * i + 3) j)) (congrArg Value.int (hM.ho hi (show j < 4 by omega))) ?_
          refine AW.iconst X (pc := 28) (v := -1) (by decide) d_M_isHeld_28 ?_
          refine AW.icmp_eq X (pc := 29) 43 d_M_isHeld_29 (by decide) (fun c_29 => ?_) (fun c_29 => ?_)
          · refine AW.iconst X (pc := 43) (v := 1) (by decide) d_M_isHeld_43 ?_
            refine AW.goto X (pc := 44) 48 d_M_isHeld_44 (by decide) ?_
            refine AW.istore_n X (pc := 48) (lv2 := [(3, .int 1), (4, .int (nI (4 * i + j))), (0, .ref 250), (1, .int (nI i)), (2, .int dd)]) rfl d_M_isHeld_48 (by decide) rfl ?_
            refine AW.iinc X (pc := 49) (v := (nI (4 * i + j)) + 1) (lv2 := [(4, .int ((nI (4 * i + j)) + 1)), (3, .int 1), (0, .ref 250), (1, .int (nI i)), (2, .int dd)]) 1 rfl rfl d_M_isHeld_49 (by decide) rfl ?_
            refine AW.goto X (pc := 52) 7 d_M_isHeld_52 (by decide) ?_
            refine AW.locs (lv2 := [(4, .int ((nI (4 * i + j)) + 1)), (3, .int 1), (0, .ref 250), (1, .int (nI i)), (2, .int dd)]) [0, 1, 2, 3, 4] rfl ?_
            exact ih (j + 1) _ _ true (by omega) (by omega) (nI_1 _) rfl (by rw [anyB_succ, ← hb]; simp [c_18, c_29])
          · refine AW.aload_n X (pc := 32) 2 rfl rfl d_M_isHeld_32 ?_
            refine AW.get X (pc := 33) (k := 250) (ci := 5) (j := 14) (v := .ref 261) (by omega) rfl rfl in_M (by decide) wf_M_42 rfl rfl d_M_isHeld_33 ?_
            refine AW.iload X (pc := 36) 0 rfl d_M_isHeld_36 ?_
            refine AW.ialdN X (pc := 38) (k := 261) (t := 0) (n := 240) (j := 4 * i + j) (by omega) rfl rfl (by omega) (by decide) d_M_isHeld_38 ?_
            refine AW.val (w := .int (σ (5 + 4 * i + 3) j)) (congrArg Value.int (hM.ho hi (show j < 4 by omega))) ?_
            refine AW.iload_n X (pc := 39) 4 rfl rfl d_M_isHeld_39 ?_
            refine AW.icmp_lt X (pc := 40) 47 d_M_isHeld_40 (by decide) (fun c_40 => ?_) (fun c_40 => ?_)
            · refine AW.iconst X (pc := 47) (v := 0) (by decide) d_M_isHeld_47 ?_
              refine AW.istore_n X (pc := 48) (lv2 := [(3, .int 0), (4, .int (nI (4 * i + j))), (0, .ref 250), (1, .int (nI i)), (2, .int dd)]) rfl d_M_isHeld_48 (by decide) rfl ?_
              refine AW.iinc X (pc := 49) (v := (nI (4 * i + j)) + 1) (lv2 := [(4, .int ((nI (4 * i + j)) + 1)), (3, .int 0), (0, .ref 250), (1, .int (nI i)), (2, .int dd)]) 1 rfl rfl d_M_isHeld_49 (by decide) rfl ?_
              refine AW.goto X (pc := 52) 7 d_M_isHeld_52 (by decide) ?_
              refine AW.locs (lv2 := [(4, .int ((nI (4 * i + j)) + 1)), (3, .int 0), (0, .ref 250), (1, .int (nI i)), (2, .int dd)]) [0, 1, 2, 3, 4] rfl ?_
              exact ih (j + 1) _ _ false (by omega) (by omega) (nI_1 _) rfl (by rw [anyB_succ, ← hb]; simp [c_18, c_29, c_40])
            · refine AW.iconst X (pc := 43) (v := 1) (by decide) d_M_isHeld_43 ?_
              refine AW.goto X (pc := 44) 48 d_M_isHeld_44 (by decide) ?_
              refine AW.istore_n X (pc := 48) (lv2 := [(3, .int 1), (4, .int (nI (4 * i + j))), (0, .ref 250), (1, .int (nI i)), (2, .int dd)]) rfl d_M_isHeld_48 (by decide) rfl ?_
              refine AW.iinc X (pc := 49) (v := (nI (4 * i + j)) + 1) (lv2 := [(4, .int ((nI (4 * i + j)) + 1)), (3, .int 1), (0, .ref 250), (1, .int (nI i)), (2, .int dd)]) 1 rfl rfl d_M_isHeld_49 (by decide) rfl ?_
              refine AW.goto X (pc := 52) 7 d_M_isHeld_52 (by decide) ?_
              refine AW.locs (lv2 := [(4, .int ((nI (4 * i + j)) + 1)), (3, .int 1), (0, .ref 250), (1, .int (nI i)), (2, .int dd)]) [0, 1, 2, 3, 4] rfl ?_
              exact ih (j + 1) _ _ true (by omega) (by omega) (nI_1 _) rfl (by rw [anyB_succ, ← hb]; simp [c_18, c_29, c_40])
  refine AW.iconst X (pc := 0) (v := 0) (by decide) d_M_isHeld_0 ?_
  refine AW.istore_n X (pc := 1) (lv2 := [(3, .int 0), (0, .ref 250), (1, .int (nI i)), (2, .int dd)]) rfl d_M_isHeld_1 (by decide) rfl ?_
  refine AW.iconst X (pc := 2) (v := 4) (by decide) d_M_isHeld_2 ?_
  refine AW.iload_n X (pc := 3) 2 rfl rfl d_M_isHeld_3 ?_
  refine AW.imul X (pc := 4) d_M_isHeld_4 ?_
  refine AW.val (w := .int (nI (4 * i))) (congrArg Value.int (pk_mul 4 i)) ?_
  refine AW.istore X (pc := 5) (lv2 := [(4, .int (nI (4 * i))), (3, .int 0), (0, .ref 250), (1, .int (nI i)), (2, .int dd)]) d_M_isHeld_5 (by decide) rfl ?_
  exact key 5 0 _ _ false (by omega) (Nat.zero_le _) rfl rfl rfl
