set_option maxHeartbeats 4000000 in
set_option maxRecDepth 100000 in
theorem c_M_dueDay (K : KTy) (σ : Mu) (i nr : Nat) (on : Int32) (μ : Mu) (hN : 272 ≤ KN K) (hi : i < 60) (hI : CI σ nr) (hM : MU σ μ nr) (hV : VR σ nr) : CT K y_M_dueDay (k_M_dueDay :: GT) 2 [.ref 250, .int (nI i), .int on] μ (fun v μ2 => v = some (.int (g_dueDay σ i on)) ∧ μ2 = μ) := by
  refine CT.int (cc := b_M_dueDay) (maxL := 6) (by decide) rfl rfl (Nat.le_of_ble_eq_true rfl) ?_
  intro G ad N hK X hret
  subst hK
  have hN : 272 ≤ N := hN
  have hnr := hI.nr
  have hrn := (hI.rn hi).2
  show AW G (rmD 2) 6 (0, 0, ad, N, fb) 0 [(0, .ref 250), (1, .int (nI i)), (2, .int on)] [] μ
  cases hf : f_fails σ i with
  | true =>
    refine AW.aload_n X (pc := 0) 0 rfl rfl d_M_dueDay_0 ?_
    refine AW.iload_n X (pc := 1) 1 rfl rfl d_M_dueDay_1 ?_
    refine AW.callV X (pc := 2) (b := 250) (ci := 5) (nA := 1) [.int (nI i)] [] (c_M_fails (kOf G ad N) σ i nr μ hN hi hI hM hV) (gv_V wm_M_156 wi_M_fails wl_M_fails wn_M kw_M_fails) rfl (by decide +kernel) rfl (by omega) rfl rfl ⟨Nat.le_of_ble_eq_true rfl, Nat.le_of_ble_eq_true rfl⟩ ⟨Nat.zero_le _, Nat.zero_le _⟩ (Nat.le_of_ble_eq_true rfl) d_M_dueDay_2 rfl (fun v μ2 hq => ?_)
    obtain ⟨rfl, hm⟩ := hq
    rw [hm]
    clear hm
    show AW G (rmD 2) 6 (0, 0, ad, N, fb) 5 [(0, .ref 250), (1, .int (nI i)), (2, .int on)] [.int (bi (f_fails σ i))] μ
    refine AW.if_eq X (pc := 5) 11 d_M_dueDay_5 (by decide) (fun c_5 => absurd c_5 (by rw [hf]; decide)) (fun c_5 => ?_)
    refine AW.bipush X (pc := 8) (v := -3) (by decide) d_M_dueDay_8 ?_
    exact hret 10 _ _ _ d_M_dueDay_10 ⟨by rw [g_dueDay, if_pos hf], rfl⟩
  | false =>
    have key : ∀ (n : Nat) (j : Nat) (x : Int32) (y : Int32), rnN σ i - j < n → (j ≤ rnN σ i) → (x = nI j) → (y = g_max (f_day σ i on) j) → (∀ q, q < j → ¬ f_day σ i on q < 0) → AW G (rmD 2) 6 (0, 0, ad, N, fb) 16 [(4, .int x), (3, .int y), (0, .ref 250), (1, .int (nI i)), (2, .int on)] [] μ := by
      intro n
      induction n with
      | zero =>
        intro j x y hlt
        exact absurd hlt (Nat.not_lt_zero _)
      | succ n ih =>
        intro j x y hlt hj ex ey ha
        subst ex
        subst ey
        refine AW.iload X (pc := 16) 0 rfl d_M_dueDay_16 ?_
        refine AW.aload_n X (pc := 18) 2 rfl rfl d_M_dueDay_18 ?_
        refine AW.get X (pc := 19) (k := 250) (ci := 5) (j := 13) (v := .ref 260) (by omega) rfl rfl in_M (by decide) wf_M_39 rfl rfl d_M_dueDay_19 ?_
        refine AW.iload_n X (pc := 22) 3 rfl rfl d_M_dueDay_22 ?_
        refine AW.ialdN X (pc := 23) (k := 260) (t := 0) (n := 60) (j := i) (by omega) rfl rfl (by omega) (by decide) d_M_dueDay_23 ?_
        refine AW.val (w := .int (nI (rnN σ i))) (congrArg Value.int (hM.sc hi)) ?_
        refine AW.icmp_ge X (pc := 24) 72 d_M_dueDay_24 (by decide) (fun c_24 => ?_) (fun c_24 => ?_)
        · rw [i_le (nI_toInt (show rnN σ i < 2 ^ 31 by omega)) (nI_toInt (show j < 2 ^ 31 by omega))] at c_24
          refine AW.iload_n X (pc := 72) 1 rfl rfl d_M_dueDay_72 ?_
          exact hret 73 _ _ _ d_M_dueDay_73 ⟨by rw [g_dueDay, if_neg (by rw [hf]; decide), if_neg (by rw [anyB_f (fun q hq => decide_eq_false (ha q (by omega)))]; decide), show rnN σ i = j by omega], rfl⟩
        · rw [i_le (nI_toInt (show rnN σ i < 2 ^ 31 by omega)) (nI_toInt (show j < 2 ^ 31 by omega))] at c_24
          have hw := (hI.rw hi (show j < rnN σ i by omega)).2
          refine AW.aload_n X (pc := 27) 2 rfl rfl d_M_dueDay_27 ?_
          refine AW.iload_n X (pc := 28) 3 rfl rfl d_M_dueDay_28 ?_
          refine AW.aload_n X (pc := 29) 2 rfl rfl d_M_dueDay_29 ?_
          refine AW.get X (pc := 30) (k := 250) (ci := 5) (j := 12) (v := .ref 259) (by omega) rfl rfl in_M (by decide) wf_M_36 rfl rfl d_M_dueDay_30 ?_
          refine AW.iconst X (pc := 33) (v := 4) (by decide) d_M_dueDay_33 ?_
          refine AW.iload_n X (pc := 34) 3 rfl rfl d_M_dueDay_34 ?_
          refine AW.imul X (pc := 35) d_M_dueDay_35 ?_
          refine AW.val (w := .int (nI (4 * i))) (congrArg Value.int (pk_mul 4 i)) ?_
          refine AW.iload X (pc := 36) 0 rfl d_M_dueDay_36 ?_
          refine AW.iadd X (pc := 38) d_M_dueDay_38 ?_
          refine AW.val (w := .int (nI ((4 * i) + j))) (congrArg Value.int (nI_add (4 * i) j)) ?_
          refine AW.ialdN X (pc := 39) (k := 259) (t := 0) (n := 240) (j := (4 * i) + j) (by omega) rfl rfl (by omega) (by decide) d_M_dueDay_39 ?_
          refine AW.val (w := .int (nI (rwN σ i j))) (congrArg Value.int (hM.sd hi (show j < rnN σ i by omega))) ?_
          refine AW.iload_n X (pc := 40) 4 rfl rfl d_M_dueDay_40 ?_
          refine AW.callV X (pc := 41) (b := 250) (ci := 5) (nA := 3) [.int (nI i), .int (nI (rwN σ i j)), .int on] [] (c_M_dayOf (kOf G ad N) σ i (rwN σ i j) nr on μ hN hi hw hI hM hV) (gv_V wm_M_159 wi_M_dayOf wl_M_dayOf wn_M kw_M_dayOf) rfl (by decide +kernel) rfl (by omega) rfl rfl ⟨Nat.le_of_ble_eq_true rfl, Nat.le_of_ble_eq_true rfl⟩ ⟨Nat.zero_le _, Nat.zero_le _⟩ (Nat.le_of_ble_eq_true rfl) d_M_dueDay_41 rfl (fun v μ2 hq => ?_)
          obtain ⟨rfl, hm⟩ := hq
          rw [hm]
          clear hm
          show AW G (rmD 2) 6 (0, 0, ad, N, fb) 44 [(4, .int (nI j)), (3, .int (g_max (f_day σ i on) j)), (0, .ref 250), (1, .int (nI i)), (2, .int on)] [.int (f_day σ i on j)] μ
          refine AW.istore X (pc := 44) (lv2 := [(5, .int (f_day σ i on j)), (4, .int (nI j)), (3, .int (g_max (f_day σ i on) j)), (0, .ref 250), (1, .int (nI i)), (2, .int on)]) d_M_dueDay_44 (by decide) rfl ?_
          refine AW.iload X (pc := 46) 0 rfl d_M_dueDay_46 ?_
          refine AW.if_ge X (pc := 48) 53 d_M_dueDay_48 (by decide) (fun c_48 => ?_) (fun c_48 => ?_)
          · refine AW.iload X (pc := 53) 0 rfl d_M_dueDay_53 ?_
            refine AW.iload_n X (pc := 55) 2 rfl rfl d_M_dueDay_55 ?_
            refine AW.icmp_le X (pc := 56) 64 d_M_dueDay_56 (by decide) (fun c_56 => ?_) (fun c_56 => ?_)
            · refine AW.iload_n X (pc := 64) 2 rfl rfl d_M_dueDay_64 ?_
              refine AW.istore_n X (pc := 65) (lv2 := [(3, .int (g_max (f_day σ i on) j)), (5, .int (f_day σ i on j)), (4, .int (nI j)), (0, .ref 250), (1, .int (nI i)), (2, .int on)]) rfl d_M_dueDay_65 (by decide) rfl ?_
              refine AW.iinc X (pc := 66) (v := nI (j + 1)) (lv2 := [(4, .int (nI (j + 1))), (3, .int (g_max (f_day σ i on) j)), (5, .int (f_day σ i on j)), (0, .ref 250), (1, .int (nI i)), (2, .int on)]) 2 rfl (nI_1 _) d_M_dueDay_66 (by decide) rfl ?_
              refine AW.goto X (pc := 69) 16 d_M_dueDay_69 (by decide) ?_
              refine AW.locs (lv2 := [(4, .int (nI (j + 1))), (3, .int (g_max (f_day σ i on) j)), (0, .ref 250), (1, .int (nI i)), (2, .int on)]) [0, 1, 3, 4, 5] rfl ?_
              exact ih (j + 1) _ _ (by omega) (by omega) rfl (by rw [g_max, if_pos c_56]) (fun q hq => by rcases Nat.lt_succ_iff_lt_or_eq.mp hq with h | rfl; exact ha q h; exact Int32.not_lt.mpr c_48)
            · refine AW.iload X (pc := 59) 0 rfl d_M_dueDay_59 ?_
              refine AW.goto X (pc := 61) 65 d_M_dueDay_61 (by decide) ?_
              refine AW.istore_n X (pc := 65) (lv2 := [(3, .int (f_day σ i on j)), (5, .int (f_day σ i on j)), (4, .int (nI j)), (0, .ref 250), (1, .int (nI i)), (2, .int on)]) rfl d_M_dueDay_65 (by decide) rfl ?_
              refine AW.iinc X (pc := 66) (v := nI (j + 1)) (lv2 := [(4, .int (nI (j + 1))), (3, .int (f_day σ i on j)), (5, .int (f_day σ i on j)), (0, .ref 250), (1, .int (nI i)), (2, .int on)]) 2 rfl (nI_1 _) d_M_dueDay_66 (by decide) rfl ?_
              refine AW.goto X (pc := 69) 16 d_M_dueDay_69 (by decide) ?_
              refine AW.locs (lv2 := [(4, .int (nI (j + 1))), (3, .int (f_day σ i on j)), (0, .ref 250), (1, .int (nI i)), (2, .int on)]) [0, 1, 3, 4, 5] rfl ?_
              exact ih (j + 1) _ _ (by omega) (by omega) rfl (by rw [g_max, if_neg c_56]) (fun q hq => by rcases Nat.lt_succ_iff_lt_or_eq.mp hq with h | rfl; exact ha q h; exact Int32.not_lt.mpr c_48)
          · refine AW.iconst X (pc := 51) (v := -1) (by decide) d_M_dueDay_51 ?_
            exact hret 52 _ _ _ d_M_dueDay_52 ⟨by rw [g_dueDay, if_neg (by rw [hf]; decide), if_pos (anyB_t (show j < rnN σ i by omega) (decide_eq_true (Int32.not_le.mp c_48)))], rfl⟩
    refine AW.aload_n X (pc := 0) 0 rfl rfl d_M_dueDay_0 ?_
    refine AW.iload_n X (pc := 1) 1 rfl rfl d_M_dueDay_1 ?_
    refine AW.callV X (pc := 2) (b := 250) (ci := 5) (nA := 1) [.int (nI i)] [] (c_M_fails (kOf G ad N) σ i nr μ hN hi hI hM hV) (gv_V wm_M_156 wi_M_fails wl_M_fails wn_M kw_M_fails) rfl (by decide +kernel) rfl (by omega) rfl rfl ⟨Nat.le_of_ble_eq_true rfl, Nat.le_of_ble_eq_true rfl⟩ ⟨Nat.zero_le _, Nat.zero_le _⟩ (Nat.le_of_ble_eq_true rfl) d_M_dueDay_2 rfl (fun v μ2 hq => ?_)
    obtain ⟨rfl, hm⟩ := hq
    rw [hm]
    clear hm
    show AW G (rmD 2) 6 (0, 0, ad, N, fb) 5 [(0, .ref 250), (1, .int (nI i)), (2, .int on)] [.int (bi (f_fails σ i))] μ
    refine AW.if_eq X (pc := 5) 11 d_M_dueDay_5 (by decide) (fun c_5 => ?_) (fun c_5 => absurd c_5 (by rw [hf]; decide))
    refine AW.iconst X (pc := 11) (v := -1) (by decide) d_M_dueDay_11 ?_
    refine AW.istore_n X (pc := 12) (lv2 := [(3, .int (-1)), (0, .ref 250), (1, .int (nI i)), (2, .int on)]) rfl d_M_dueDay_12 (by decide) rfl ?_
    refine AW.iconst X (pc := 13) (v := 0) (by decide) d_M_dueDay_13 ?_
    refine AW.istore X (pc := 14) (lv2 := [(4, .int 0), (3, .int (-1)), (0, .ref 250), (1, .int (nI i)), (2, .int on)]) d_M_dueDay_14 (by decide) rfl ?_
    exact key (rnN σ i + 1) 0 _ _ (by omega) (Nat.zero_le _) nI_0.symm rfl (fun q hq => absurd hq (Nat.not_lt_zero _))
set_option maxHeartbeats 4000000 in
set_option maxRecDepth 100000 in
theorem c_M_isDue (K : KTy) (σ : Mu) (i nr : Nat) (on : Int32) (μ : Mu) (hN : 272 ≤ KN K) (hi : i < 60) (hI : CI σ nr) (hM : MU σ μ nr) (hV : VR σ nr) : CT K y_M_isDue (k_M_isDue :: GT) 3 [.ref 250, .int (nI i), .int on] μ (fun v μ2 => v = some (.int (bi (g_isDue σ i on))) ∧ μ2 = μ) := by
  refine CT.bool (cc := b_M_isDue) (maxL := 4) (by decide) rfl rfl (Nat.le_of_ble_eq_true rfl) ?_
  intro G ad N hK X hret
  subst hK
  have hN : 272 ≤ N := hN
  have hnr := hI.nr
  have hrn := (hI.rn hi).2
  show AW G (rmD 3) 4 (0, 0, ad, N, fb) 0 [(0, .ref 250), (1, .int (nI i)), (2, .int on)] [] μ
  refine AW.aload_n X (pc := 0) 0 rfl rfl d_M_isDue_0 ?_
  refine AW.iload_n X (pc := 1) 1 rfl rfl d_M_isDue_1 ?_
  refine AW.iload_n X (pc := 2) 2 rfl rfl d_M_isDue_2 ?_
  refine AW.callV X (pc := 3) (b := 250) (ci := 5) (nA := 2) [.int (nI i), .int on] [] (c_M_dueDay (kOf G ad N) σ i nr on μ hN hi hI hM hV) (gv_V wm_M_163 wi_M_dueDay wl_M_dueDay wn_M kw_M_dueDay) rfl (by decide +kernel) rfl (by omega) rfl rfl ⟨Nat.le_of_ble_eq_true rfl, Nat.le_of_ble_eq_true rfl⟩ ⟨Nat.zero_le _, Nat.zero_le _⟩ (Nat.le_of_ble_eq_true rfl) d_M_isDue_3 rfl (fun v μ2 hq => ?_)
  obtain ⟨rfl, hm⟩ := hq
  rw [hm]
  clear hm
  show AW G (rmD 3) 4 (0, 0, ad, N, fb) 6 [(0, .ref 250), (1, .int (nI i)), (2, .int on)] [.int (g_dueDay σ i on)] μ
  refine AW.istore_n X (pc := 6) (lv2 := [(3, .int (g_dueDay σ i on)), (0, .ref 250), (1, .int (nI i)), (2, .int on)]) rfl d_M_isDue_6 (by decide) rfl ?_
  refine AW.aload_n X (pc := 7) 1 rfl rfl d_M_isDue_7 ?_
  refine AW.get X (pc := 8) (k := 250) (ci := 5) (j := 18) (v := .ref 265) (by omega) rfl rfl in_M (by decide) wf_M_54 rfl rfl d_M_isDue_8 ?_
  refine AW.iload_n X (pc := 11) 2 rfl rfl d_M_isDue_11 ?_
  refine AW.ialdN X (pc := 12) (k := 265) (t := 0) (n := 60) (j := i) (by omega) rfl rfl (by omega) (by decide) d_M_isDue_12 ?_
  refine AW.val (w := .int (σ (5 + 4 * i) 7)) (congrArg Value.int (hM.dp hi)) ?_
  refine AW.if_ge X (pc := 13) 39 d_M_isDue_13 (by decide) (fun c_13 => ?_) (fun c_13 => ?_)
  · have c_13 := Int32.not_lt.mpr c_13
    refine AW.iconst X (pc := 39) (v := 0) (by decide) d_M_isDue_39 ?_
    exact hret 40 _ _ _ d_M_isDue_40 rfl ⟨by simp only [g_isDue, c_13, decide_true, decide_false, not_true_eq_false, not_false_eq_true, Bool.and_true, Bool.and_false, Bool.false_and, Bool.true_and]; rfl, rfl⟩
  · have c_13 := Int32.not_le.mp c_13
    refine AW.iload_n X (pc := 16) 0 rfl rfl d_M_isDue_16 ?_
    refine AW.if_lt X (pc := 17) 39 d_M_isDue_17 (by decide) (fun c_17 => ?_) (fun c_17 => ?_)
    · refine AW.iconst X (pc := 39) (v := 0) (by decide) d_M_isDue_39 ?_
      exact hret 40 _ _ _ d_M_isDue_40 rfl ⟨by simp only [g_isDue, c_13, c_17, decide_true, decide_false, not_true_eq_false, not_false_eq_true, Bool.and_true, Bool.and_false, Bool.false_and, Bool.true_and]; rfl, rfl⟩
    · refine AW.iload_n X (pc := 20) 0 rfl rfl d_M_isDue_20 ?_
      refine AW.iload_n X (pc := 21) 3 rfl rfl d_M_isDue_21 ?_
      refine AW.icmp_gt X (pc := 22) 39 d_M_isDue_22 (by decide) (fun c_22 => ?_) (fun c_22 => ?_)
      · refine AW.iconst X (pc := 39) (v := 0) (by decide) d_M_isDue_39 ?_
        exact hret 40 _ _ _ d_M_isDue_40 rfl ⟨by simp only [g_isDue, c_13, c_17, c_22, decide_true, decide_false, not_true_eq_false, not_false_eq_true, Bool.and_true, Bool.and_false, Bool.false_and, Bool.true_and]; rfl, rfl⟩
      · refine AW.aload_n X (pc := 25) 1 rfl rfl d_M_isDue_25 ?_
        refine AW.get X (pc := 26) (k := 250) (ci := 5) (j := 15) (v := .ref 262) (by omega) rfl rfl in_M (by decide) wf_M_45 rfl rfl d_M_isDue_26 ?_
        refine AW.iload_n X (pc := 29) 2 rfl rfl d_M_isDue_29 ?_
        refine AW.ialdN X (pc := 30) (k := 262) (t := 0) (n := 60) (j := i) (by omega) rfl rfl (by omega) (by decide) d_M_isDue_30 ?_
        refine AW.val (w := .int (σ (5 + 4 * i) 4)) (congrArg Value.int (hM.ex hi)) ?_
        refine AW.iload_n X (pc := 31) 3 rfl rfl d_M_isDue_31 ?_
        refine AW.icmp_ge X (pc := 32) 39 d_M_isDue_32 (by decide) (fun c_32 => ?_) (fun c_32 => ?_)
        · refine AW.iconst X (pc := 39) (v := 0) (by decide) d_M_isDue_39 ?_
          exact hret 40 _ _ _ d_M_isDue_40 rfl ⟨by simp only [g_isDue, c_13, c_17, c_22, c_32, decide_true, decide_false, not_true_eq_false, not_false_eq_true, Bool.and_true, Bool.and_false, Bool.false_and, Bool.true_and]; rfl, rfl⟩
        · refine AW.iconst X (pc := 35) (v := 1) (by decide) d_M_isDue_35 ?_
          refine AW.goto X (pc := 36) 40 d_M_isDue_36 (by decide) ?_
          exact hret 40 _ _ _ d_M_isDue_40 rfl ⟨by simp only [g_isDue, c_13, c_17, c_22, c_32, decide_true, decide_false, not_true_eq_false, not_false_eq_true, Bool.and_true, Bool.and_false, Bool.false_and, Bool.true_and]; rfl, rfl⟩
set_option maxHeartbeats 4000000 in
set_option maxRecDepth 100000 in
theorem c_M_actionOf (K : KTy) (σ : Mu) (i nr : Nat) (on : Int32) (μ : Mu) (hN : 272 ≤ KN K) (hi : i < 60) (hI : CI σ nr) (hM : MU σ μ nr) (hV : VR σ nr) : CT K y_M_actionOf (k_M_actionOf :: GT) 3 [.ref 250, .int (nI i), .int on] μ (fun v μ2 => v = some (.int (g_act σ i on (g_dueDay σ i on) (rnN σ i) (-1))) ∧ μ2 = μ) := by
  refine CT.int (cc := b_M_actionOf) (maxL := 7) (by decide) rfl rfl (Nat.le_of_ble_eq_true rfl) ?_
  intro G ad N hK X hret
  subst hK
  have hN : 272 ≤ N := hN
  have hnr := hI.nr
  have hrn := (hI.rn hi).2
  show AW G (rmD 3) 7 (0, 0, ad, N, fb) 0 [(0, .ref 250), (1, .int (nI i)), (2, .int on)] [] μ
  have key : ∀ (n j : Nat) (x y : Int32), j < n → j ≤ rnN σ i → x = dN j → g_act σ i on (g_dueDay σ i on) j y = g_act σ i on (g_dueDay σ i on) (rnN σ i) (-1) → AW G (rmD 3) 7 (0, 0, ad, N, fb) 20 [(5, .int x), (4, .int y), (3, .int (g_dueDay σ i on)), (0, .ref 250), (1, .int (nI i)), (2, .int on)] [] μ := by
    intro n
    induction n with
    | zero =>
      intro j x y hlt
      exact absurd hlt (Nat.not_lt_zero _)
    | succ n ih =>
      intro j x y hlt hj ex he
      subst ex
      cases j with
      | zero =>
        show AW G (rmD 3) 7 (0, 0, ad, N, fb) 20 [(5, .int (-1)), (4, .int y), (3, .int (g_dueDay σ i on)), (0, .ref 250), (1, .int (nI i)), (2, .int on)] [] μ
        refine AW.iload X (pc := 20) 0 rfl d_M_actionOf_20 ?_
        refine AW.if_lt X (pc := 22) 70 d_M_actionOf_22 (by decide) (fun c_22 => ?_) (fun c_22 => absurd c_22 (by decide))
        refine AW.iload X (pc := 70) 1 rfl d_M_actionOf_70 ?_
        exact hret 72 _ _ _ d_M_actionOf_72 ⟨by rw [← he]; rfl, rfl⟩
      | succ g =>
        have hw := (hI.rw hi (show g < rnN σ i by omega)).2
        show AW G (rmD 3) 7 (0, 0, ad, N, fb) 20 [(5, .int (nI g)), (4, .int y), (3, .int (g_dueDay σ i on)), (0, .ref 250), (1, .int (nI i)), (2, .int on)] [] μ
        refine AW.iload X (pc := 20) 0 rfl d_M_actionOf_20 ?_
        refine AW.if_lt X (pc := 22) 70 d_M_actionOf_22 (by decide) (fun c_22 => absurd c_22 (by rw [i_lt (nI_toInt (show g < 2 ^ 31 by omega)) (show (0 : Int32).toInt = 0 by decide)]; omega)) (fun c_22 => ?_)
        refine AW.aload_n X (pc := 25) 3 rfl rfl d_M_actionOf_25 ?_
        refine AW.get X (pc := 26) (k := 250) (ci := 5) (j := 12) (v := .ref 259) (by omega) rfl rfl in_M (by decide) wf_M_36 rfl rfl d_M_actionOf_26 ?_
        refine AW.iconst X (pc := 29) (v := 4) (by decide) d_M_actionOf_29 ?_
        refine AW.iload_n X (pc := 30) 4 rfl rfl d_M_actionOf_30 ?_
        refine AW.imul X (pc := 31) d_M_actionOf_31 ?_
        refine AW.val (w := .int (nI (4 * i))) (congrArg Value.int (pk_mul 4 i)) ?_
        refine AW.iload X (pc := 32) 0 rfl d_M_actionOf_32 ?_
        refine AW.iadd X (pc := 34) d_M_actionOf_34 ?_
        refine AW.val (w := .int (nI ((4 * i) + g))) (congrArg Value.int (nI_add (4 * i) g)) ?_
        refine AW.ialdN X (pc := 35) (k := 259) (t := 0) (n := 240) (j := (4 * i) + g) (by omega) rfl rfl (by omega) (by decide) d_M_actionOf_35 ?_
        refine AW.val (w := .int (nI (rwN σ i g))) (congrArg Value.int (hM.sd hi (show g < rnN σ i by omega))) ?_
        refine AW.istore X (pc := 36) (lv2 := [(6, .int (nI (rwN σ i g))), (5, .int (nI g)), (4, .int y), (3, .int (g_dueDay σ i on)), (0, .ref 250), (1, .int (nI i)), (2, .int on)]) d_M_actionOf_36 (by decide) rfl ?_
        refine AW.aload_n X (pc := 38) 4 rfl rfl d_M_actionOf_38 ?_
        refine AW.iload_n X (pc := 39) 5 rfl rfl d_M_actionOf_39 ?_
        refine AW.iload X (pc := 40) 0 rfl d_M_actionOf_40 ?_
        refine AW.iload_n X (pc := 42) 6 rfl rfl d_M_actionOf_42 ?_
        refine AW.callV X (pc := 43) (b := 250) (ci := 5) (nA := 3) [.int (nI i), .int (nI (rwN σ i g)), .int on] [] (c_M_dayOf (kOf G ad N) σ i (rwN σ i g) nr on μ hN hi hw hI hM hV) (gv_V wm_M_159 wi_M_dayOf wl_M_dayOf wn_M kw_M_dayOf) rfl (by decide +kernel) rfl (by omega) rfl rfl ⟨Nat.le_of_ble_eq_true rfl, Nat.le_of_ble_eq_true rfl⟩ ⟨Nat.zero_le _, Nat.zero_le _⟩ (Nat.le_of_ble_eq_true rfl) d_M_actionOf_43 rfl (fun v μ2 hq => ?_)
        obtain ⟨rfl, hm⟩ := hq
        rw [hm]
        clear hm
        show AW G (rmD 3) 7 (0, 0, ad, N, fb) 46 [(6, .int (nI (rwN σ i g))), (5, .int (nI g)), (4, .int y), (3, .int (g_dueDay σ i on)), (0, .ref 250), (1, .int (nI i)), (2, .int on)] [.int (f_day σ i on g)] μ
        refine AW.iload_n X (pc := 46) 3 rfl rfl d_M_actionOf_46 ?_
        refine AW.icmp_ne X (pc := 47) 60 d_M_actionOf_47 (by decide) (fun c_47 => ?_) (fun c_47 => ?_)
        · refine AW.iload X (pc := 60) 2 rfl d_M_actionOf_60 ?_
          refine AW.istore X (pc := 62) (lv2 := [(4, .int y), (6, .int (nI (rwN σ i g))), (5, .int (nI g)), (3, .int (g_dueDay σ i on)), (0, .ref 250), (1, .int (nI i)), (2, .int on)]) d_M_actionOf_62 (by decide) rfl ?_
          refine AW.iinc X (pc := 64) (v := dN g) (lv2 := [(5, .int (dN g)), (4, .int y), (6, .int (nI (rwN σ i g))), (3, .int (g_dueDay σ i on)), (0, .ref 250), (1, .int (nI i)), (2, .int on)]) 2 rfl (dN_iinc _) d_M_actionOf_64 (by decide) rfl ?_
          refine AW.goto X (pc := 67) 20 d_M_actionOf_67 (by decide) ?_
          refine AW.locs (lv2 := [(5, .int (dN g)), (4, .int y), (3, .int (g_dueDay σ i on)), (0, .ref 250), (1, .int (nI i)), (2, .int on)]) [0, 1, 3, 4, 5, 6] rfl ?_
          exact ih g _ _ (by omega) (by omega) rfl (by rw [← he, g_act, if_neg c_47])
        · refine AW.aload_n X (pc := 50) 4 rfl rfl d_M_actionOf_50 ?_
          refine AW.get X (pc := 51) (k := 250) (ci := 5) (j := 6) (v := .ref 253) (by omega) rfl rfl in_M (by decide) wf_M_17 rfl rfl d_M_actionOf_51 ?_
          refine AW.iload X (pc := 54) 0 rfl d_M_actionOf_54 ?_
          refine AW.ialdN X (pc := 56) (k := 253) (t := 0) (n := 20) (j := rwN σ i g) (by omega) rfl rfl (by omega) (by decide) d_M_actionOf_56 ?_
          refine AW.val (w := .int (σ (272 + 3 * (rwN σ i g)) 2)) (congrArg Value.int (hM.ac hw)) ?_
          refine AW.goto X (pc := 57) 62 d_M_actionOf_57 (by decide) ?_
          refine AW.istore X (pc := 62) (lv2 := [(4, .int (σ (272 + 3 * (rwN σ i g)) 2)), (6, .int (nI (rwN σ i g))), (5, .int (nI g)), (3, .int (g_dueDay σ i on)), (0, .ref 250), (1, .int (nI i)), (2, .int on)]) d_M_actionOf_62 (by decide) rfl ?_
          refine AW.iinc X (pc := 64) (v := dN g) (lv2 := [(5, .int (dN g)), (4, .int (σ (272 + 3 * (rwN σ i g)) 2)), (6, .int (nI (rwN σ i g))), (3, .int (g_dueDay σ i on)), (0, .ref 250), (1, .int (nI i)), (2, .int on)]) 2 rfl (dN_iinc _) d_M_actionOf_64 (by decide) rfl ?_
          refine AW.goto X (pc := 67) 20 d_M_actionOf_67 (by decide) ?_
          refine AW.locs (lv2 := [(5, .int (dN g)), (4, .int (σ (272 + 3 * (rwN σ i g)) 2)), (3, .int (g_dueDay σ i on)), (0, .ref 250), (1, .int (nI i)), (2, .int on)]) [0, 1, 3, 4, 5, 6] rfl ?_
          exact ih g _ _ (by omega) (by omega) rfl (by rw [← he, g_act, if_pos c_47])
  refine AW.aload_n X (pc := 0) 0 rfl rfl d_M_actionOf_0 ?_
  refine AW.iload_n X (pc := 1) 1 rfl rfl d_M_actionOf_1 ?_
  refine AW.iload_n X (pc := 2) 2 rfl rfl d_M_actionOf_2 ?_
  refine AW.callV X (pc := 3) (b := 250) (ci := 5) (nA := 2) [.int (nI i), .int on] [] (c_M_dueDay (kOf G ad N) σ i nr on μ hN hi hI hM hV) (gv_V wm_M_163 wi_M_dueDay wl_M_dueDay wn_M kw_M_dueDay) rfl (by decide +kernel) rfl (by omega) rfl rfl ⟨Nat.le_of_ble_eq_true rfl, Nat.le_of_ble_eq_true rfl⟩ ⟨Nat.zero_le _, Nat.zero_le _⟩ (Nat.le_of_ble_eq_true rfl) d_M_actionOf_3 rfl (fun v μ2 hq => ?_)
  obtain ⟨rfl, hm⟩ := hq
  rw [hm]
  clear hm
  show AW G (rmD 3) 7 (0, 0, ad, N, fb) 6 [(0, .ref 250), (1, .int (nI i)), (2, .int on)] [.int (g_dueDay σ i on)] μ
  refine AW.istore_n X (pc := 6) (lv2 := [(3, .int (g_dueDay σ i on)), (0, .ref 250), (1, .int (nI i)), (2, .int on)]) rfl d_M_actionOf_6 (by decide) rfl ?_
  refine AW.iconst X (pc := 7) (v := -1) (by decide) d_M_actionOf_7 ?_
  refine AW.istore X (pc := 8) (lv2 := [(4, .int (-1)), (3, .int (g_dueDay σ i on)), (0, .ref 250), (1, .int (nI i)), (2, .int on)]) d_M_actionOf_8 (by decide) rfl ?_
  refine AW.aload_n X (pc := 10) 2 rfl rfl d_M_actionOf_10 ?_
  refine AW.get X (pc := 11) (k := 250) (ci := 5) (j := 13) (v := .ref 260) (by omega) rfl rfl in_M (by decide) wf_M_39 rfl rfl d_M_actionOf_11 ?_
  refine AW.iload_n X (pc := 14) 3 rfl rfl d_M_actionOf_14 ?_
  refine AW.ialdN X (pc := 15) (k := 260) (t := 0) (n := 60) (j := i) (by omega) rfl rfl (by omega) (by decide) d_M_actionOf_15 ?_
  refine AW.val (w := .int (nI (rnN σ i))) (congrArg Value.int (hM.sc hi)) ?_
  refine AW.iconst X (pc := 16) (v := 1) (by decide) d_M_actionOf_16 ?_
  refine AW.isub X (pc := 17) d_M_actionOf_17 ?_
  refine AW.istore X (pc := 18) (lv2 := [(5, .int ((nI (rnN σ i)) - 1)), (4, .int (-1)), (3, .int (g_dueDay σ i on)), (0, .ref 250), (1, .int (nI i)), (2, .int on)]) d_M_actionOf_18 (by decide) rfl ?_
  refine AW.locs (lv2 := [(5, .int ((nI (rnN σ i)) - 1)), (4, .int (-1)), (3, .int (g_dueDay σ i on)), (0, .ref 250), (1, .int (nI i)), (2, .int on)]) [0, 1, 2, 3, 4, 5] rfl ?_
  exact key (rnN σ i + 1) (rnN σ i) _ _ (by omega) (Nat.le_refl _) (dN_of _) rfl
set_option maxHeartbeats 4000000 in
set_option maxRecDepth 100000 in
theorem c_M_event (K : KTy) (σ : Mu) (nr : Nat) (u k d : Int32) (μ : Mu) (hN : 272 ≤ KN K) (hI : CI σ nr) (hM : MR σ μ nr) (hV : VR σ nr) : CT K y_M_event (k_M_event :: GT) 2 [.ref 250, .int u, .int k, .int d] μ (fun v μ2 => v = some (.int (G_event σ μ u k d).1) ∧ μ2 = (G_event σ μ u k d).2) := by
  refine CT.int (cc := b_M_event) (maxL := 4) (by decide) rfl rfl (Nat.le_of_ble_eq_true rfl) ?_
  intro G ad N hK X hret
  subst hK
  have hN : 272 ≤ N := hN
  have hnr := hI.nr
  have hM0 := (hM.thr 0).1
  have hMr := hM.thr 0
  show AW G (rmD 2) 4 (0, 0, ad, N, fb) 0 [(0, .ref 250), (1, .int u), (2, .int k), (3, .int d)] [] μ
  cases hU : okU u with
  | false =>
    refine AW.aload_n X (pc := 0) 0 rfl rfl d_M_event_0 ?_
    refine AW.iconst X (pc := 1) (v := 0) (by decide) d_M_event_1 ?_
    refine AW.put X (pc := 2) (k := 250) (ci := 5) (j := 0) (x := 0) (ty := .int) ft_M (by omega) rfl rfl in_M ft_M_ok n_M (by decide) wf_M_72 rfl rfl rfl rfl rfl d_M_event_2 ?_
    refine AW.iload_n X (pc := 5) 1 rfl rfl d_M_event_5 ?_
    refine AW.callS X (pc := 6) (nA := 1) [.int u] [] (c_M_isUnit (kOf G ad N) u (m_up μ 250 0 0) hN) (gv_S wm_M_149 ws_M_isUnit wn_M kw_M_isUnit) rfl (by decide +kernel) rfl ⟨Nat.le_of_ble_eq_true rfl, Nat.le_of_ble_eq_true rfl⟩ ⟨Nat.zero_le _, Nat.zero_le _⟩ (Nat.le_of_ble_eq_true rfl) d_M_event_6 rfl (fun v μ2 hq => ?_)
    obtain ⟨rfl, hm⟩ := hq
    rw [hm]
    clear hm
    show AW G (rmD 2) 4 (0, 0, ad, N, fb) 9 [(0, .ref 250), (1, .int u), (2, .int k), (3, .int d)] [.int (bi (okU u))] (m_up μ 250 0 0)
    refine AW.if_ne X (pc := 9) 14 d_M_event_9 (by decide) (fun c_9 => absurd c_9 (by rw [hU]; decide)) (fun c_9 => ?_)
    refine AW.iconst X (pc := 12) (v := -1) (by decide) d_M_event_12 ?_
    exact hret 13 _ _ _ d_M_event_13 (by rw [show G_event σ μ u k d = (-1, (m_up μ 250 0 0)) by first | (simp [G_event, hU, c_9]; done) | simp +contextual [G_event, hU, c_9]]; exact ⟨rfl, rfl⟩)
  | true =>
    obtain ⟨i, hi, rfl⟩ := okU_of hU
    have hci : (nI i).toNatClampNeg = i := nI_clamp (by omega)
    show AW G (rmD 2) 4 (0, 0, ad, N, fb) 0 [(0, .ref 250), (1, .int (nI i)), (2, .int k), (3, .int d)] [] μ
    refine AW.aload_n X (pc := 0) 0 rfl rfl d_M_event_0 ?_
    refine AW.iconst X (pc := 1) (v := 0) (by decide) d_M_event_1 ?_
    refine AW.put X (pc := 2) (k := 250) (ci := 5) (j := 0) (x := 0) (ty := .int) ft_M (by omega) rfl rfl in_M ft_M_ok n_M (by decide) wf_M_72 rfl rfl rfl rfl rfl d_M_event_2 ?_
    refine AW.iload_n X (pc := 5) 1 rfl rfl d_M_event_5 ?_
    refine AW.callS X (pc := 6) (nA := 1) [.int (nI i)] [] (c_M_isUnit (kOf G ad N) (nI i) (m_up μ 250 0 0) hN) (gv_S wm_M_149 ws_M_isUnit wn_M kw_M_isUnit) rfl (by decide +kernel) rfl ⟨Nat.le_of_ble_eq_true rfl, Nat.le_of_ble_eq_true rfl⟩ ⟨Nat.zero_le _, Nat.zero_le _⟩ (Nat.le_of_ble_eq_true rfl) d_M_event_6 rfl (fun v μ2 hq => ?_)
    obtain ⟨rfl, hm⟩ := hq
    rw [hm]
    clear hm
    show AW G (rmD 2) 4 (0, 0, ad, N, fb) 9 [(0, .ref 250), (1, .int (nI i)), (2, .int k), (3, .int d)] [.int (bi (okU (nI i)))] (m_up μ 250 0 0)
    refine AW.if_ne X (pc := 9) 14 d_M_event_9 (by decide) (fun c_9 => ?_) (fun c_9 => absurd c_9 (by rw [hU]; decide))
    refine AW.iload_n X (pc := 14) 2 rfl rfl d_M_event_14 ?_
    refine AW.iconst X (pc := 15) (v := 0) (by decide) d_M_event_15 ?_
    refine AW.iconst X (pc := 16) (v := 3) (by decide) d_M_event_16 ?_
    refine AW.callS X (pc := 17) (nA := 3) [.int k, .int 0, .int 3] [] (c_M_in (kOf G ad N) k 0 3 (m_up μ 250 0 0) hN) (gv_S wm_M_76 ws_M_in wn_M kw_M_in) rfl (by decide +kernel) rfl ⟨Nat.le_of_ble_eq_true rfl, Nat.le_of_ble_eq_true rfl⟩ ⟨Nat.zero_le _, Nat.zero_le _⟩ (Nat.le_of_ble_eq_true rfl) d_M_event_17 rfl (fun v μ2 hq => ?_)
    obtain ⟨rfl, hm⟩ := hq
    rw [hm]
    clear hm
    show AW G (rmD 2) 4 (0, 0, ad, N, fb) 20 [(0, .ref 250), (1, .int (nI i)), (2, .int k), (3, .int d)] [.int (bi (inB 0 3 k))] (m_up μ 250 0 0)
    refine AW.if_eq X (pc := 20) 30 d_M_event_20 (by decide) (fun c_20 => ?_) (fun c_20 => ?_)
    · have c_20 := bi_eq.mp c_20
      refine AW.bipush X (pc := 30) (v := -2) (by decide) d_M_event_30 ?_
      exact hret 32 _ _ _ d_M_event_32 (by rw [show G_event σ μ (nI i) k d = (-2, (m_up μ 250 0 0)) by first | (simp [G_event, hU, hci, c_9, c_20]; done) | simp +contextual [G_event, hU, hci, c_9, c_20]]; exact ⟨rfl, rfl⟩)
    · have c_20 := bi_ne.mp c_20
      obtain ⟨q, hq, rfl⟩ := okK_t c_20
      have hcq : (nI q).toNatClampNeg = q := nI_clamp (by omega)
      refine AW.iload_n X (pc := 23) 3 rfl rfl d_M_event_23 ?_
      refine AW.callS X (pc := 24) (nA := 1) [.int d] [] (c_M_isDay (kOf G ad N) d (m_up μ 250 0 0) hN) (gv_S wm_M_146 ws_M_isDay wn_M kw_M_isDay) rfl (by decide +kernel) rfl ⟨Nat.le_of_ble_eq_true rfl, Nat.le_of_ble_eq_true rfl⟩ ⟨Nat.zero_le _, Nat.zero_le _⟩ (Nat.le_of_ble_eq_true rfl) d_M_event_24 rfl (fun v μ2 hq => ?_)
      obtain ⟨rfl, hm⟩ := hq
      rw [hm]
      clear hm
      show AW G (rmD 2) 4 (0, 0, ad, N, fb) 27 [(0, .ref 250), (1, .int (nI i)), (2, .int (nI q)), (3, .int d)] [.int (bi (okD d))] (m_up μ 250 0 0)
      refine AW.if_ne X (pc := 27) 33 d_M_event_27 (by decide) (fun c_27 => ?_) (fun c_27 => ?_)
      · have c_27 := bi_ne.mp c_27
        refine AW.aload_n X (pc := 33) 0 rfl rfl d_M_event_33 ?_
        refine AW.get X (pc := 34) (k := 250) (ci := 5) (j := 18) (v := .ref 265) (by omega) rfl rfl in_M (by decide) wf_M_54 rfl rfl d_M_event_34 ?_
        refine AW.iload_n X (pc := 37) 1 rfl rfl d_M_event_37 ?_
        refine AW.ialdN X (pc := 38) (k := 265) (t := 0) (n := 60) (j := i) (by omega) rfl rfl (by omega) (by decide) d_M_event_38 ?_
        refine AW.val (w := .int (σ (5 + 4 * i) 7)) (congrArg Value.int (hM0.dp hi)) ?_
        refine AW.if_lt X (pc := 39) 45 d_M_event_39 (by decide) (fun c_39 => ?_) (fun c_39 => ?_)
        · refine AW.aload_n X (pc := 45) 0 rfl rfl d_M_event_45 ?_
          refine AW.get X (pc := 46) (k := 250) (ci := 5) (j := 11) (v := .ref 258) (by omega) rfl rfl in_M (by decide) wf_M_33 rfl rfl d_M_event_46 ?_
          refine AW.iconst X (pc := 49) (v := 4) (by decide) d_M_event_49 ?_
          refine AW.iload_n X (pc := 50) 1 rfl rfl d_M_event_50 ?_
          refine AW.imul X (pc := 51) d_M_event_51 ?_
          refine AW.val (w := .int (nI (4 * i))) (congrArg Value.int (pk_mul 4 i)) ?_
          refine AW.iload_n X (pc := 52) 2 rfl rfl d_M_event_52 ?_
          refine AW.iadd X (pc := 53) d_M_event_53 ?_
          refine AW.val (w := .int (nI ((4 * i) + q))) (congrArg Value.int (nI_add (4 * i) q)) ?_
          refine AW.iload_n X (pc := 54) 3 rfl rfl d_M_event_54 ?_
          refine AW.iastN X (pc := 55) (k := 258) (t := 0) (n := 240) (j := (4 * i) + q) (x := d) (by omega) rfl rfl (by omega) (by decide) d_M_event_55 ?_
          refine AW.aload_n X (pc := 56) 0 rfl rfl d_M_event_56 ?_
          refine AW.get X (pc := 57) (k := 250) (ci := 5) (j := 16) (v := .ref 263) (by omega) rfl rfl in_M (by decide) wf_M_48 rfl rfl d_M_event_57 ?_
          refine AW.iload_n X (pc := 60) 1 rfl rfl d_M_event_60 ?_
          refine AW.iconst X (pc := 61) (v := 0) (by decide) d_M_event_61 ?_
          refine AW.iastN X (pc := 62) (k := 263) (t := 0) (n := 60) (j := i) (x := 0) (by omega) rfl rfl (by omega) (by decide) d_M_event_62 ?_
          refine AW.iconst X (pc := 63) (v := 1) (by decide) d_M_event_63 ?_
          exact hret 64 _ _ _ d_M_event_64 (by rw [show G_event σ μ (nI i) (nI q) d = (1, (m_up (m_up (m_up μ 250 0 0) 258 ((4 * i) + q) d) 263 i 0)) by first | (simp [G_event, hU, hci, c_9, c_20, hcq, c_27, c_39]; done) | simp +contextual [G_event, hU, hci, c_9, c_20, hcq, c_27, c_39]]; exact ⟨rfl, rfl⟩)
        · refine AW.bipush X (pc := 42) (v := -3) (by decide) d_M_event_42 ?_
          exact hret 44 _ _ _ d_M_event_44 (by rw [show G_event σ μ (nI i) (nI q) d = (-3, (m_up μ 250 0 0)) by first | (simp [G_event, hU, hci, c_9, c_20, hcq, c_27, c_39]; done) | simp +contextual [G_event, hU, hci, c_9, c_20, hcq, c_27, c_39]]; exact ⟨rfl, rfl⟩)
      · have c_27 := bi_eq.mp c_27
        refine AW.bipush X (pc := 30) (v := -2) (by decide) d_M_event_30 ?_
        exact hret 32 _ _ _ d_M_event_32 (by rw [show G_event σ μ (nI i) (nI q) d = (-2, (m_up μ 250 0 0)) by first | (simp [G_event, hU, hci, c_9, c_20, hcq, c_27]; done) | simp +contextual [G_event, hU, hci, c_9, c_20, hcq, c_27]]; exact ⟨rfl, rfl⟩)
set_option maxHeartbeats 4000000 in
set_option maxRecDepth 100000 in
theorem c_M_hold (K : KTy) (σ : Mu) (nr : Nat) (u k d : Int32) (μ : Mu) (hN : 272 ≤ KN K) (hI : CI σ nr) (hM : MR σ μ nr) (hV : VR σ nr) : CT K y_M_hold (k_M_hold :: GT) 2 [.ref 250, .int u, .int k, .int d] μ (fun v μ2 => v = some (.int (G_hold μ u k d).1) ∧ μ2 = (G_hold μ u k d).2) := by
  refine CT.int (cc := b_M_hold) (maxL := 4) (by decide) rfl rfl (Nat.le_of_ble_eq_true rfl) ?_
  intro G ad N hK X hret
  subst hK
  have hN : 272 ≤ N := hN
  have hnr := hI.nr
  have hM0 := (hM.thr 0).1
  have hMr := hM.thr 0
  show AW G (rmD 2) 4 (0, 0, ad, N, fb) 0 [(0, .ref 250), (1, .int u), (2, .int k), (3, .int d)] [] μ
  cases hU : okU u with
  | false =>
    refine AW.aload_n X (pc := 0) 0 rfl rfl d_M_hold_0 ?_
    refine AW.iconst X (pc := 1) (v := 0) (by decide) d_M_hold_1 ?_
    refine AW.put X (pc := 2) (k := 250) (ci := 5) (j := 0) (x := 0) (ty := .int) ft_M (by omega) rfl rfl in_M ft_M_ok n_M (by decide) wf_M_72 rfl rfl rfl rfl rfl d_M_hold_2 ?_
    refine AW.iload_n X (pc := 5) 1 rfl rfl d_M_hold_5 ?_
    refine AW.callS X (pc := 6) (nA := 1) [.int u] [] (c_M_isUnit (kOf G ad N) u (m_up μ 250 0 0) hN) (gv_S wm_M_149 ws_M_isUnit wn_M kw_M_isUnit) rfl (by decide +kernel) rfl ⟨Nat.le_of_ble_eq_true rfl, Nat.le_of_ble_eq_true rfl⟩ ⟨Nat.zero_le _, Nat.zero_le _⟩ (Nat.le_of_ble_eq_true rfl) d_M_hold_6 rfl (fun v μ2 hq => ?_)
    obtain ⟨rfl, hm⟩ := hq
    rw [hm]
    clear hm
    show AW G (rmD 2) 4 (0, 0, ad, N, fb) 9 [(0, .ref 250), (1, .int u), (2, .int k), (3, .int d)] [.int (bi (okU u))] (m_up μ 250 0 0)
    refine AW.if_ne X (pc := 9) 14 d_M_hold_9 (by decide) (fun c_9 => absurd c_9 (by rw [hU]; decide)) (fun c_9 => ?_)
    refine AW.iconst X (pc := 12) (v := -1) (by decide) d_M_hold_12 ?_
    exact hret 13 _ _ _ d_M_hold_13 (by rw [show G_hold μ u k d = (-1, (m_up μ 250 0 0)) by first | (simp [G_hold, hU, c_9]; done) | simp +contextual [G_hold, hU, c_9]]; exact ⟨rfl, rfl⟩)
  | true =>
    obtain ⟨i, hi, rfl⟩ := okU_of hU
    have hci : (nI i).toNatClampNeg = i := nI_clamp (by omega)
    show AW G (rmD 2) 4 (0, 0, ad, N, fb) 0 [(0, .ref 250), (1, .int (nI i)), (2, .int k), (3, .int d)] [] μ
    refine AW.aload_n X (pc := 0) 0 rfl rfl d_M_hold_0 ?_
    refine AW.iconst X (pc := 1) (v := 0) (by decide) d_M_hold_1 ?_
    refine AW.put X (pc := 2) (k := 250) (ci := 5) (j := 0) (x := 0) (ty := .int) ft_M (by omega) rfl rfl in_M ft_M_ok n_M (by decide) wf_M_72 rfl rfl rfl rfl rfl d_M_hold_2 ?_
    refine AW.iload_n X (pc := 5) 1 rfl rfl d_M_hold_5 ?_
    refine AW.callS X (pc := 6) (nA := 1) [.int (nI i)] [] (c_M_isUnit (kOf G ad N) (nI i) (m_up μ 250 0 0) hN) (gv_S wm_M_149 ws_M_isUnit wn_M kw_M_isUnit) rfl (by decide +kernel) rfl ⟨Nat.le_of_ble_eq_true rfl, Nat.le_of_ble_eq_true rfl⟩ ⟨Nat.zero_le _, Nat.zero_le _⟩ (Nat.le_of_ble_eq_true rfl) d_M_hold_6 rfl (fun v μ2 hq => ?_)
    obtain ⟨rfl, hm⟩ := hq
    rw [hm]
    clear hm
    show AW G (rmD 2) 4 (0, 0, ad, N, fb) 9 [(0, .ref 250), (1, .int (nI i)), (2, .int k), (3, .int d)] [.int (bi (okU (nI i)))] (m_up μ 250 0 0)
    refine AW.if_ne X (pc := 9) 14 d_M_hold_9 (by decide) (fun c_9 => ?_) (fun c_9 => absurd c_9 (by rw [hU]; decide))
    refine AW.iload_n X (pc := 14) 2 rfl rfl d_M_hold_14 ?_
    refine AW.iconst X (pc := 15) (v := 0) (by decide) d_M_hold_15 ?_
    refine AW.iconst X (pc := 16) (v := 3) (by decide) d_M_hold_16 ?_
    refine AW.callS X (pc := 17) (nA := 3) [.int k, .int 0, .int 3] [] (c_M_in (kOf G ad N) k 0 3 (m_up μ 250 0 0) hN) (gv_S wm_M_76 ws_M_in wn_M kw_M_in) rfl (by decide +kernel) rfl ⟨Nat.le_of_ble_eq_true rfl, Nat.le_of_ble_eq_true rfl⟩ ⟨Nat.zero_le _, Nat.zero_le _⟩ (Nat.le_of_ble_eq_true rfl) d_M_hold_17 rfl (fun v μ2 hq => ?_)
    obtain ⟨rfl, hm⟩ := hq
    rw [hm]
    clear hm
    show AW G (rmD 2) 4 (0, 0, ad, N, fb) 20 [(0, .ref 250), (1, .int (nI i)), (2, .int k), (3, .int d)] [.int (bi (inB 0 3 k))] (m_up μ 250 0 0)
    refine AW.if_eq X (pc := 20) 33 d_M_hold_20 (by decide) (fun c_20 => ?_) (fun c_20 => ?_)
    · have c_20 := bi_eq.mp c_20
      refine AW.bipush X (pc := 33) (v := -2) (by decide) d_M_hold_33 ?_
      exact hret 35 _ _ _ d_M_hold_35 (by rw [show G_hold μ (nI i) k d = (-2, (m_up μ 250 0 0)) by first | (simp [G_hold, hU, hci, c_9, c_20]; done) | simp +contextual [G_hold, hU, hci, c_9, c_20]]; exact ⟨rfl, rfl⟩)
    · have c_20 := bi_ne.mp c_20
      obtain ⟨q, hq, rfl⟩ := okK_t c_20
      have hcq : (nI q).toNatClampNeg = q := nI_clamp (by omega)
      refine AW.iload_n X (pc := 23) 3 rfl rfl d_M_hold_23 ?_
      refine AW.iconst X (pc := 24) (v := -1) (by decide) d_M_hold_24 ?_
      refine AW.ldc X (pc := 25) (v := 1000000) (by decide +kernel) d_M_hold_25 ?_
      refine AW.callS X (pc := 27) (nA := 3) [.int d, .int (-1), .int 1000000] [] (c_M_in (kOf G ad N) d (-1) 1000000 (m_up μ 250 0 0) hN) (gv_S wm_M_76 ws_M_in wn_M kw_M_in) rfl (by decide +kernel) rfl ⟨Nat.le_of_ble_eq_true rfl, Nat.le_of_ble_eq_true rfl⟩ ⟨Nat.zero_le _, Nat.zero_le _⟩ (Nat.le_of_ble_eq_true rfl) d_M_hold_27 rfl (fun v μ2 hq => ?_)
      obtain ⟨rfl, hm⟩ := hq
      rw [hm]
      clear hm
      show AW G (rmD 2) 4 (0, 0, ad, N, fb) 30 [(0, .ref 250), (1, .int (nI i)), (2, .int (nI q)), (3, .int d)] [.int (bi (inB (-1) 1000000 d))] (m_up μ 250 0 0)
      refine AW.if_ne X (pc := 30) 36 d_M_hold_30 (by decide) (fun c_30 => ?_) (fun c_30 => ?_)
      · have c_30 := bi_ne.mp c_30
        refine AW.aload_n X (pc := 36) 0 rfl rfl d_M_hold_36 ?_
        refine AW.get X (pc := 37) (k := 250) (ci := 5) (j := 14) (v := .ref 261) (by omega) rfl rfl in_M (by decide) wf_M_42 rfl rfl d_M_hold_37 ?_
        refine AW.iconst X (pc := 40) (v := 4) (by decide) d_M_hold_40 ?_
        refine AW.iload_n X (pc := 41) 1 rfl rfl d_M_hold_41 ?_
        refine AW.imul X (pc := 42) d_M_hold_42 ?_
        refine AW.val (w := .int (nI (4 * i))) (congrArg Value.int (pk_mul 4 i)) ?_
        refine AW.iload_n X (pc := 43) 2 rfl rfl d_M_hold_43 ?_
        refine AW.iadd X (pc := 44) d_M_hold_44 ?_
        refine AW.val (w := .int (nI ((4 * i) + q))) (congrArg Value.int (nI_add (4 * i) q)) ?_
        refine AW.iload_n X (pc := 45) 3 rfl rfl d_M_hold_45 ?_
        refine AW.iastN X (pc := 46) (k := 261) (t := 0) (n := 240) (j := (4 * i) + q) (x := d) (by omega) rfl rfl (by omega) (by decide) d_M_hold_46 ?_
        refine AW.aload_n X (pc := 47) 0 rfl rfl d_M_hold_47 ?_
        refine AW.get X (pc := 48) (k := 250) (ci := 5) (j := 16) (v := .ref 263) (by omega) rfl rfl in_M (by decide) wf_M_48 rfl rfl d_M_hold_48 ?_
        refine AW.iload_n X (pc := 51) 1 rfl rfl d_M_hold_51 ?_
        refine AW.iconst X (pc := 52) (v := 0) (by decide) d_M_hold_52 ?_
        refine AW.iastN X (pc := 53) (k := 263) (t := 0) (n := 60) (j := i) (x := 0) (by omega) rfl rfl (by omega) (by decide) d_M_hold_53 ?_
        refine AW.iconst X (pc := 54) (v := 1) (by decide) d_M_hold_54 ?_
        exact hret 55 _ _ _ d_M_hold_55 (by rw [show G_hold μ (nI i) (nI q) d = (1, (m_up (m_up (m_up μ 250 0 0) 261 ((4 * i) + q) d) 263 i 0)) by first | (simp [G_hold, hU, hci, c_9, c_20, hcq, c_30]; done) | simp +contextual [G_hold, hU, hci, c_9, c_20, hcq, c_30]]; exact ⟨rfl, rfl⟩)
      · have c_30 := bi_eq.mp c_30
        refine AW.bipush X (pc := 33) (v := -2) (by decide) d_M_hold_33 ?_
        exact hret 35 _ _ _ d_M_hold_35 (by rw [show G_hold μ (nI i) (nI q) d = (-2, (m_up μ 250 0 0)) by first | (simp [G_hold, hU, hci, c_9, c_20, hcq, c_30]; done) | simp +contextual [G_hold, hU, hci, c_9, c_20, hcq, c_30]]; exact ⟨rfl, rfl⟩)
set_option maxHeartbeats 4000000 in
set_option maxRecDepth 100000 in
theorem c_M_except (K : KTy) (σ : Mu) (nr : Nat) (u d : Int32) (μ : Mu) (hN : 272 ≤ KN K) (hI : CI σ nr) (hM : MR σ μ nr) (hV : VR σ nr) : CT K y_M_except (k_M_except :: GT) 2 [.ref 250, .int u, .int d] μ (fun v μ2 => v = some (.int (G_except μ u d).1) ∧ μ2 = (G_except μ u d).2) := by
  refine CT.int (cc := b_M_except) (maxL := 3) (by decide) rfl rfl (Nat.le_of_ble_eq_true rfl) ?_
  intro G ad N hK X hret
  subst hK
  have hN : 272 ≤ N := hN
  have hnr := hI.nr
  have hM0 := (hM.thr 0).1
  have hMr := hM.thr 0
  show AW G (rmD 2) 3 (0, 0, ad, N, fb) 0 [(0, .ref 250), (1, .int u), (2, .int d)] [] μ
  cases hU : okU u with
  | false =>
    refine AW.aload_n X (pc := 0) 0 rfl rfl d_M_except_0 ?_
    refine AW.iconst X (pc := 1) (v := 0) (by decide) d_M_except_1 ?_
    refine AW.put X (pc := 2) (k := 250) (ci := 5) (j := 0) (x := 0) (ty := .int) ft_M (by omega) rfl rfl in_M ft_M_ok n_M (by decide) wf_M_72 rfl rfl rfl rfl rfl d_M_except_2 ?_
    refine AW.iload_n X (pc := 5) 1 rfl rfl d_M_except_5 ?_
    refine AW.callS X (pc := 6) (nA := 1) [.int u] [] (c_M_isUnit (kOf G ad N) u (m_up μ 250 0 0) hN) (gv_S wm_M_149 ws_M_isUnit wn_M kw_M_isUnit) rfl (by decide +kernel) rfl ⟨Nat.le_of_ble_eq_true rfl, Nat.le_of_ble_eq_true rfl⟩ ⟨Nat.zero_le _, Nat.zero_le _⟩ (Nat.le_of_ble_eq_true rfl) d_M_except_6 rfl (fun v μ2 hq => ?_)
    obtain ⟨rfl, hm⟩ := hq
    rw [hm]
    clear hm
    show AW G (rmD 2) 3 (0, 0, ad, N, fb) 9 [(0, .ref 250), (1, .int u), (2, .int d)] [.int (bi (okU u))] (m_up μ 250 0 0)
    refine AW.if_ne X (pc := 9) 14 d_M_except_9 (by decide) (fun c_9 => absurd c_9 (by rw [hU]; decide)) (fun c_9 => ?_)
    refine AW.iconst X (pc := 12) (v := -1) (by decide) d_M_except_12 ?_
    exact hret 13 _ _ _ d_M_except_13 (by rw [show G_except μ u d = (-1, (m_up μ 250 0 0)) by first | (simp [G_except, hU, c_9]; done) | simp +contextual [G_except, hU, c_9]]; exact ⟨rfl, rfl⟩)
  | true =>
    obtain ⟨i, hi, rfl⟩ := okU_of hU
    have hci : (nI i).toNatClampNeg = i := nI_clamp (by omega)
    show AW G (rmD 2) 3 (0, 0, ad, N, fb) 0 [(0, .ref 250), (1, .int (nI i)), (2, .int d)] [] μ
    refine AW.aload_n X (pc := 0) 0 rfl rfl d_M_except_0 ?_
    refine AW.iconst X (pc := 1) (v := 0) (by decide) d_M_except_1 ?_
    refine AW.put X (pc := 2) (k := 250) (ci := 5) (j := 0) (x := 0) (ty := .int) ft_M (by omega) rfl rfl in_M ft_M_ok n_M (by decide) wf_M_72 rfl rfl rfl rfl rfl d_M_except_2 ?_
    refine AW.iload_n X (pc := 5) 1 rfl rfl d_M_except_5 ?_
    refine AW.callS X (pc := 6) (nA := 1) [.int (nI i)] [] (c_M_isUnit (kOf G ad N) (nI i) (m_up μ 250 0 0) hN) (gv_S wm_M_149 ws_M_isUnit wn_M kw_M_isUnit) rfl (by decide +kernel) rfl ⟨Nat.le_of_ble_eq_true rfl, Nat.le_of_ble_eq_true rfl⟩ ⟨Nat.zero_le _, Nat.zero_le _⟩ (Nat.le_of_ble_eq_true rfl) d_M_except_6 rfl (fun v μ2 hq => ?_)
    obtain ⟨rfl, hm⟩ := hq
    rw [hm]
    clear hm
    show AW G (rmD 2) 3 (0, 0, ad, N, fb) 9 [(0, .ref 250), (1, .int (nI i)), (2, .int d)] [.int (bi (okU (nI i)))] (m_up μ 250 0 0)
    refine AW.if_ne X (pc := 9) 14 d_M_except_9 (by decide) (fun c_9 => ?_) (fun c_9 => absurd c_9 (by rw [hU]; decide))
    refine AW.iload_n X (pc := 14) 2 rfl rfl d_M_except_14 ?_
    refine AW.callS X (pc := 15) (nA := 1) [.int d] [] (c_M_isDay (kOf G ad N) d (m_up μ 250 0 0) hN) (gv_S wm_M_146 ws_M_isDay wn_M kw_M_isDay) rfl (by decide +kernel) rfl ⟨Nat.le_of_ble_eq_true rfl, Nat.le_of_ble_eq_true rfl⟩ ⟨Nat.zero_le _, Nat.zero_le _⟩ (Nat.le_of_ble_eq_true rfl) d_M_except_15 rfl (fun v μ2 hq => ?_)
    obtain ⟨rfl, hm⟩ := hq
    rw [hm]
    clear hm
    show AW G (rmD 2) 3 (0, 0, ad, N, fb) 18 [(0, .ref 250), (1, .int (nI i)), (2, .int d)] [.int (bi (okD d))] (m_up μ 250 0 0)
    refine AW.if_ne X (pc := 18) 24 d_M_except_18 (by decide) (fun c_18 => ?_) (fun c_18 => ?_)
    · have c_18 := bi_ne.mp c_18
      refine AW.aload_n X (pc := 24) 0 rfl rfl d_M_except_24 ?_
      refine AW.get X (pc := 25) (k := 250) (ci := 5) (j := 15) (v := .ref 262) (by omega) rfl rfl in_M (by decide) wf_M_45 rfl rfl d_M_except_25 ?_
      refine AW.iload_n X (pc := 28) 1 rfl rfl d_M_except_28 ?_
      refine AW.iload_n X (pc := 29) 2 rfl rfl d_M_except_29 ?_
      refine AW.iastN X (pc := 30) (k := 262) (t := 0) (n := 60) (j := i) (x := d) (by omega) rfl rfl (by omega) (by decide) d_M_except_30 ?_
      refine AW.aload_n X (pc := 31) 0 rfl rfl d_M_except_31 ?_
      refine AW.get X (pc := 32) (k := 250) (ci := 5) (j := 16) (v := .ref 263) (by omega) rfl rfl in_M (by decide) wf_M_48 rfl rfl d_M_except_32 ?_
      refine AW.iload_n X (pc := 35) 1 rfl rfl d_M_except_35 ?_
      refine AW.iconst X (pc := 36) (v := 0) (by decide) d_M_except_36 ?_
      refine AW.iastN X (pc := 37) (k := 263) (t := 0) (n := 60) (j := i) (x := 0) (by omega) rfl rfl (by omega) (by decide) d_M_except_37 ?_
      refine AW.iconst X (pc := 38) (v := 1) (by decide) d_M_except_38 ?_
      exact hret 39 _ _ _ d_M_except_39 (by rw [show G_except μ (nI i) d = (1, (m_up (m_up (m_up μ 250 0 0) 262 i d) 263 i 0)) by first | (simp [G_except, hU, hci, c_9, c_18]; done) | simp +contextual [G_except, hU, hci, c_9, c_18]]; exact ⟨rfl, rfl⟩)
    · have c_18 := bi_eq.mp c_18
      refine AW.bipush X (pc := 21) (v := -2) (by decide) d_M_except_21 ?_
      exact hret 23 _ _ _ d_M_except_23 (by rw [show G_except μ (nI i) d = (-2, (m_up μ 250 0 0)) by first | (simp [G_except, hU, hci, c_9, c_18]; done) | simp +contextual [G_except, hU, hci, c_9, c_18]]; exact ⟨rfl, rfl⟩)
set_option maxHeartbeats 4000000 in
set_option maxRecDepth 100000 in
theorem c_M_day (K : KTy) (σ : Mu) (nr : Nat) (u on : Int32) (μ : Mu) (hN : 272 ≤ KN K) (hI : CI σ nr) (hM : MR σ μ nr) (hV : VR σ nr) : CT K y_M_day (k_M_day :: GT) 3 [.ref 250, .int u, .int on] μ (fun v μ2 => v = some (.int (G_day σ u on)) ∧ μ2 = (m_up μ 250 0 0)) := by
  refine CT.int (cc := b_M_day) (maxL := 3) (by decide) rfl rfl (Nat.le_of_ble_eq_true rfl) ?_
  intro G ad N hK X hret
  subst hK
  have hN : 272 ≤ N := hN
  have hnr := hI.nr
  have hM0 := (hM.thr 0).1
  have hMr := hM.thr 0
  show AW G (rmD 3) 3 (0, 0, ad, N, fb) 0 [(0, .ref 250), (1, .int u), (2, .int on)] [] μ
  cases hU : okU u with
  | false =>
    refine AW.aload_n X (pc := 0) 0 rfl rfl d_M_day_0 ?_
    refine AW.iconst X (pc := 1) (v := 0) (by decide) d_M_day_1 ?_
    refine AW.put X (pc := 2) (k := 250) (ci := 5) (j := 0) (x := 0) (ty := .int) ft_M (by omega) rfl rfl in_M ft_M_ok n_M (by decide) wf_M_72 rfl rfl rfl rfl rfl d_M_day_2 ?_
    refine AW.iload_n X (pc := 5) 1 rfl rfl d_M_day_5 ?_
    refine AW.callS X (pc := 6) (nA := 1) [.int u] [] (c_M_isUnit (kOf G ad N) u (m_up μ 250 0 0) hN) (gv_S wm_M_149 ws_M_isUnit wn_M kw_M_isUnit) rfl (by decide +kernel) rfl ⟨Nat.le_of_ble_eq_true rfl, Nat.le_of_ble_eq_true rfl⟩ ⟨Nat.zero_le _, Nat.zero_le _⟩ (Nat.le_of_ble_eq_true rfl) d_M_day_6 rfl (fun v μ2 hq => ?_)
    obtain ⟨rfl, hm⟩ := hq
    rw [hm]
    clear hm
    show AW G (rmD 3) 3 (0, 0, ad, N, fb) 9 [(0, .ref 250), (1, .int u), (2, .int on)] [.int (bi (okU u))] (m_up μ 250 0 0)
    refine AW.if_eq X (pc := 9) 19 d_M_day_9 (by decide) (fun c_9 => ?_) (fun c_9 => absurd c_9 (by rw [hU]; decide))
    refine AW.bipush X (pc := 19) (v := -2) (by decide) d_M_day_19 ?_
    refine AW.goto X (pc := 21) 30 d_M_day_21 (by decide) ?_
    exact hret 30 _ _ _ d_M_day_30 ⟨by rw [show G_day σ u on = -2 by simp [G_day, hU, c_9]], rfl⟩
  | true =>
    obtain ⟨i, hi, rfl⟩ := okU_of hU
    have hci : (nI i).toNatClampNeg = i := nI_clamp (by omega)
    show AW G (rmD 3) 3 (0, 0, ad, N, fb) 0 [(0, .ref 250), (1, .int (nI i)), (2, .int on)] [] μ
    refine AW.aload_n X (pc := 0) 0 rfl rfl d_M_day_0 ?_
    refine AW.iconst X (pc := 1) (v := 0) (by decide) d_M_day_1 ?_
    refine AW.put X (pc := 2) (k := 250) (ci := 5) (j := 0) (x := 0) (ty := .int) ft_M (by omega) rfl rfl in_M ft_M_ok n_M (by decide) wf_M_72 rfl rfl rfl rfl rfl d_M_day_2 ?_
    refine AW.iload_n X (pc := 5) 1 rfl rfl d_M_day_5 ?_
    refine AW.callS X (pc := 6) (nA := 1) [.int (nI i)] [] (c_M_isUnit (kOf G ad N) (nI i) (m_up μ 250 0 0) hN) (gv_S wm_M_149 ws_M_isUnit wn_M kw_M_isUnit) rfl (by decide +kernel) rfl ⟨Nat.le_of_ble_eq_true rfl, Nat.le_of_ble_eq_true rfl⟩ ⟨Nat.zero_le _, Nat.zero_le _⟩ (Nat.le_of_ble_eq_true rfl) d_M_day_6 rfl (fun v μ2 hq => ?_)
    obtain ⟨rfl, hm⟩ := hq
    rw [hm]
    clear hm
    show AW G (rmD 3) 3 (0, 0, ad, N, fb) 9 [(0, .ref 250), (1, .int (nI i)), (2, .int on)] [.int (bi (okU (nI i)))] (m_up μ 250 0 0)
    refine AW.if_eq X (pc := 9) 19 d_M_day_9 (by decide) (fun c_9 => absurd c_9 (by rw [hU]; decide)) (fun c_9 => ?_)
    refine AW.iload_n X (pc := 12) 2 rfl rfl d_M_day_12 ?_
    refine AW.callS X (pc := 13) (nA := 1) [.int on] [] (c_M_isDay (kOf G ad N) on (m_up μ 250 0 0) hN) (gv_S wm_M_146 ws_M_isDay wn_M kw_M_isDay) rfl (by decide +kernel) rfl ⟨Nat.le_of_ble_eq_true rfl, Nat.le_of_ble_eq_true rfl⟩ ⟨Nat.zero_le _, Nat.zero_le _⟩ (Nat.le_of_ble_eq_true rfl) d_M_day_13 rfl (fun v μ2 hq => ?_)
    obtain ⟨rfl, hm⟩ := hq
    rw [hm]
    clear hm
    show AW G (rmD 3) 3 (0, 0, ad, N, fb) 16 [(0, .ref 250), (1, .int (nI i)), (2, .int on)] [.int (bi (okD on))] (m_up μ 250 0 0)
    refine AW.if_ne X (pc := 16) 24 d_M_day_16 (by decide) (fun c_16 => ?_) (fun c_16 => ?_)
    · have c_16 := bi_ne.mp c_16
      refine AW.aload_n X (pc := 24) 0 rfl rfl d_M_day_24 ?_
      refine AW.iload_n X (pc := 25) 1 rfl rfl d_M_day_25 ?_
      refine AW.iload_n X (pc := 26) 2 rfl rfl d_M_day_26 ?_
      refine AW.callV X (pc := 27) (b := 250) (ci := 5) (nA := 2) [.int (nI i), .int on] [] (c_M_dueDay (kOf G ad N) σ i nr on (m_up μ 250 0 0) hN hi hI hM0 hV) (gv_V wm_M_163 wi_M_dueDay wl_M_dueDay wn_M kw_M_dueDay) rfl (by decide +kernel) rfl (by omega) rfl rfl ⟨Nat.le_of_ble_eq_true rfl, Nat.le_of_ble_eq_true rfl⟩ ⟨Nat.zero_le _, Nat.zero_le _⟩ (Nat.le_of_ble_eq_true rfl) d_M_day_27 rfl (fun v μ2 hq => ?_)
      obtain ⟨rfl, hm⟩ := hq
      rw [hm]
      clear hm
      show AW G (rmD 3) 3 (0, 0, ad, N, fb) 30 [(0, .ref 250), (1, .int (nI i)), (2, .int on)] [.int (g_dueDay σ i on)] (m_up μ 250 0 0)
      exact hret 30 _ _ _ d_M_day_30 ⟨by rw [show G_day σ (nI i) on = g_dueDay σ i on by simp [G_day, hU, hci, c_9, c_16]], rfl⟩
    · have c_16 := bi_eq.mp c_16
      refine AW.bipush X (pc := 19) (v := -2) (by decide) d_M_day_19 ?_
      refine AW.goto X (pc := 21) 30 d_M_day_21 (by decide) ?_
      exact hret 30 _ _ _ d_M_day_30 ⟨by rw [show G_day σ (nI i) on = -2 by simp [G_day, hU, hci, c_9, c_16]], rfl⟩
set_option maxHeartbeats 4000000 in
set_option maxRecDepth 100000 in
theorem c_M_approve (K : KTy) (σ : Mu) (nr : Nat) (u p : Int32) (μ : Mu) (hN : 272 ≤ KN K) (hI : CI σ nr) (hM : MR σ μ nr) (hV : VR σ nr) : CT K y_M_approve (k_M_approve :: GT) 2 [.ref 250, .int u, .int p] μ (fun v μ2 => v = some (.int (G_approve σ μ u p).1) ∧ μ2 = (G_approve σ μ u p).2) := by
  refine CT.int (cc := b_M_approve) (maxL := 3) (by decide) rfl rfl (Nat.le_of_ble_eq_true rfl) ?_
  intro G ad N hK X hret
  subst hK
  have hN : 272 ≤ N := hN
  have hnr := hI.nr
  have hM0 := (hM.thr 0).1
  have hMr := hM.thr 0
  show AW G (rmD 2) 3 (0, 0, ad, N, fb) 0 [(0, .ref 250), (1, .int u), (2, .int p)] [] μ
  cases hU : okU u with
  | false =>
    refine AW.aload_n X (pc := 0) 0 rfl rfl d_M_approve_0 ?_
    refine AW.iconst X (pc := 1) (v := 0) (by decide) d_M_approve_1 ?_
    refine AW.put X (pc := 2) (k := 250) (ci := 5) (j := 0) (x := 0) (ty := .int) ft_M (by omega) rfl rfl in_M ft_M_ok n_M (by decide) wf_M_72 rfl rfl rfl rfl rfl d_M_approve_2 ?_
    refine AW.iload_n X (pc := 5) 1 rfl rfl d_M_approve_5 ?_
    refine AW.callS X (pc := 6) (nA := 1) [.int u] [] (c_M_isUnit (kOf G ad N) u (m_up μ 250 0 0) hN) (gv_S wm_M_149 ws_M_isUnit wn_M kw_M_isUnit) rfl (by decide +kernel) rfl ⟨Nat.le_of_ble_eq_true rfl, Nat.le_of_ble_eq_true rfl⟩ ⟨Nat.zero_le _, Nat.zero_le _⟩ (Nat.le_of_ble_eq_true rfl) d_M_approve_6 rfl (fun v μ2 hq => ?_)
    obtain ⟨rfl, hm⟩ := hq
    rw [hm]
    clear hm
    show AW G (rmD 2) 3 (0, 0, ad, N, fb) 9 [(0, .ref 250), (1, .int u), (2, .int p)] [.int (bi (okU u))] (m_up μ 250 0 0)
    refine AW.if_ne X (pc := 9) 14 d_M_approve_9 (by decide) (fun c_9 => absurd c_9 (by rw [hU]; decide)) (fun c_9 => ?_)
    refine AW.iconst X (pc := 12) (v := -1) (by decide) d_M_approve_12 ?_
    exact hret 13 _ _ _ d_M_approve_13 (by rw [show G_approve σ μ u p = (-1, (m_up μ 250 0 0)) by first | (simp [G_approve, hU, c_9]; done) | simp +contextual [G_approve, hU, c_9]]; exact ⟨rfl, rfl⟩)
  | true =>
    obtain ⟨i, hi, rfl⟩ := okU_of hU
    have hci : (nI i).toNatClampNeg = i := nI_clamp (by omega)
    show AW G (rmD 2) 3 (0, 0, ad, N, fb) 0 [(0, .ref 250), (1, .int (nI i)), (2, .int p)] [] μ
    refine AW.aload_n X (pc := 0) 0 rfl rfl d_M_approve_0 ?_
    refine AW.iconst X (pc := 1) (v := 0) (by decide) d_M_approve_1 ?_
    refine AW.put X (pc := 2) (k := 250) (ci := 5) (j := 0) (x := 0) (ty := .int) ft_M (by omega) rfl rfl in_M ft_M_ok n_M (by decide) wf_M_72 rfl rfl rfl rfl rfl d_M_approve_2 ?_
    refine AW.iload_n X (pc := 5) 1 rfl rfl d_M_approve_5 ?_
    refine AW.callS X (pc := 6) (nA := 1) [.int (nI i)] [] (c_M_isUnit (kOf G ad N) (nI i) (m_up μ 250 0 0) hN) (gv_S wm_M_149 ws_M_isUnit wn_M kw_M_isUnit) rfl (by decide +kernel) rfl ⟨Nat.le_of_ble_eq_true rfl, Nat.le_of_ble_eq_true rfl⟩ ⟨Nat.zero_le _, Nat.zero_le _⟩ (Nat.le_of_ble_eq_true rfl) d_M_approve_6 rfl (fun v μ2 hq => ?_)
    obtain ⟨rfl, hm⟩ := hq
    rw [hm]
    clear hm
    show AW G (rmD 2) 3 (0, 0, ad, N, fb) 9 [(0, .ref 250), (1, .int (nI i)), (2, .int p)] [.int (bi (okU (nI i)))] (m_up μ 250 0 0)
    refine AW.if_ne X (pc := 9) 14 d_M_approve_9 (by decide) (fun c_9 => ?_) (fun c_9 => absurd c_9 (by rw [hU]; decide))
    refine AW.iload_n X (pc := 14) 2 rfl rfl d_M_approve_14 ?_
    refine AW.iconst X (pc := 15) (v := 0) (by decide) d_M_approve_15 ?_
    refine AW.bipush X (pc := 16) (v := 99) (by decide) d_M_approve_16 ?_
    refine AW.callS X (pc := 18) (nA := 3) [.int p, .int 0, .int 99] [] (c_M_in (kOf G ad N) p 0 99 (m_up μ 250 0 0) hN) (gv_S wm_M_76 ws_M_in wn_M kw_M_in) rfl (by decide +kernel) rfl ⟨Nat.le_of_ble_eq_true rfl, Nat.le_of_ble_eq_true rfl⟩ ⟨Nat.zero_le _, Nat.zero_le _⟩ (Nat.le_of_ble_eq_true rfl) d_M_approve_18 rfl (fun v μ2 hq => ?_)
    obtain ⟨rfl, hm⟩ := hq
    rw [hm]
    clear hm
    show AW G (rmD 2) 3 (0, 0, ad, N, fb) 21 [(0, .ref 250), (1, .int (nI i)), (2, .int p)] [.int (bi (inB 0 99 p))] (m_up μ 250 0 0)
    refine AW.if_ne X (pc := 21) 27 d_M_approve_21 (by decide) (fun c_21 => ?_) (fun c_21 => ?_)
    · have c_21 := bi_ne.mp c_21
      refine AW.aload_n X (pc := 27) 0 rfl rfl d_M_approve_27 ?_
      refine AW.get X (pc := 28) (k := 250) (ci := 5) (j := 18) (v := .ref 265) (by omega) rfl rfl in_M (by decide) wf_M_54 rfl rfl d_M_approve_28 ?_
      refine AW.iload_n X (pc := 31) 1 rfl rfl d_M_approve_31 ?_
      refine AW.ialdN X (pc := 32) (k := 265) (t := 0) (n := 60) (j := i) (by omega) rfl rfl (by omega) (by decide) d_M_approve_32 ?_
      refine AW.val (w := .int (σ (5 + 4 * i) 7)) (congrArg Value.int (hM0.dp hi)) ?_
      refine AW.if_ge X (pc := 33) 66 d_M_approve_33 (by decide) (fun c_33 => ?_) (fun c_33 => ?_)
      · have c_33 := Int32.not_lt.mpr c_33
        refine AW.bipush X (pc := 66) (v := -3) (by decide) d_M_approve_66 ?_
        exact hret 68 _ _ _ d_M_approve_68 (by rw [show G_approve σ μ (nI i) p = (-3, (m_up μ 250 0 0)) by first | (simp [G_approve, hU, hci, c_9, c_21, c_33]; done) | simp +contextual [G_approve, hU, hci, c_9, c_21, c_33]]; exact ⟨rfl, rfl⟩)
      · have c_33 := Int32.not_le.mp c_33
        refine AW.aload_n X (pc := 36) 0 rfl rfl d_M_approve_36 ?_
        refine AW.get X (pc := 37) (k := 250) (ci := 5) (j := 16) (v := .ref 263) (by omega) rfl rfl in_M (by decide) wf_M_48 rfl rfl d_M_approve_37 ?_
        refine AW.iload_n X (pc := 40) 1 rfl rfl d_M_approve_40 ?_
        refine AW.ialdN X (pc := 41) (k := 263) (t := 0) (n := 60) (j := i) (by omega) rfl rfl (by omega) (by decide) d_M_approve_41 ?_
        refine AW.val (w := .int (σ (5 + 4 * i) 5)) (congrArg Value.int (hM0.ap hi)) ?_
        refine AW.iconst X (pc := 42) (v := 2) (by decide) d_M_approve_42 ?_
        refine AW.icmp_eq X (pc := 43) 66 d_M_approve_43 (by decide) (fun c_43 => ?_) (fun c_43 => ?_)
        · refine AW.bipush X (pc := 66) (v := -3) (by decide) d_M_approve_66 ?_
          exact hret 68 _ _ _ d_M_approve_68 (by rw [show G_approve σ μ (nI i) p = (-3, (m_up μ 250 0 0)) by first | (simp [G_approve, hU, hci, c_9, c_21, c_33, c_43]; done) | simp +contextual [G_approve, hU, hci, c_9, c_21, c_33, c_43]]; exact ⟨rfl, rfl⟩)
        · refine AW.aload_n X (pc := 46) 0 rfl rfl d_M_approve_46 ?_
          refine AW.get X (pc := 47) (k := 250) (ci := 5) (j := 16) (v := .ref 263) (by omega) rfl rfl in_M (by decide) wf_M_48 rfl rfl d_M_approve_47 ?_
          refine AW.iload_n X (pc := 50) 1 rfl rfl d_M_approve_50 ?_
          refine AW.ialdN X (pc := 51) (k := 263) (t := 0) (n := 60) (j := i) (by omega) rfl rfl (by omega) (by decide) d_M_approve_51 ?_
          refine AW.val (w := .int (σ (5 + 4 * i) 5)) (congrArg Value.int (hM0.ap hi)) ?_
          refine AW.iconst X (pc := 52) (v := 1) (by decide) d_M_approve_52 ?_
          refine AW.icmp_ne X (pc := 53) 69 d_M_approve_53 (by decide) (fun c_53 => ?_) (fun c_53 => ?_)
          · refine AW.aload_n X (pc := 69) 0 rfl rfl d_M_approve_69 ?_
            refine AW.get X (pc := 70) (k := 250) (ci := 5) (j := 17) (v := .ref 264) (by omega) rfl rfl in_M (by decide) wf_M_51 rfl rfl d_M_approve_70 ?_
            refine AW.iload_n X (pc := 73) 1 rfl rfl d_M_approve_73 ?_
            refine AW.iload_n X (pc := 74) 2 rfl rfl d_M_approve_74 ?_
            refine AW.iastN X (pc := 75) (k := 264) (t := 0) (n := 60) (j := i) (x := p) (by omega) rfl rfl (by omega) (by decide) d_M_approve_75 ?_
            refine AW.aload_n X (pc := 76) 0 rfl rfl d_M_approve_76 ?_
            refine AW.get X (pc := 77) (k := 250) (ci := 5) (j := 16) (v := .ref 263) (by omega) rfl rfl in_M (by decide) wf_M_48 rfl rfl d_M_approve_77 ?_
            refine AW.iload_n X (pc := 80) 1 rfl rfl d_M_approve_80 ?_
            refine AW.dup2 X (pc := 81) rfl rfl d_M_approve_81 ?_
            refine AW.ialdN X (pc := 82) (k := 263) (t := 0) (n := 60) (j := i) (by omega) rfl rfl (by omega) (by decide) d_M_approve_82 ?_
            refine AW.val (w := .int (σ (5 + 4 * i) 5)) (congrArg Value.int ((congrFun (m_up_row (by decide)) _).trans (hM0.ap hi))) ?_
            refine AW.iconst X (pc := 83) (v := 1) (by decide) d_M_approve_83 ?_
            refine AW.iadd X (pc := 84) d_M_approve_84 ?_
            refine AW.iastN X (pc := 85) (k := 263) (t := 0) (n := 60) (j := i) (x := (σ (5 + 4 * i) 5) + 1) (by omega) rfl rfl (by omega) (by decide) d_M_approve_85 ?_
            refine AW.aload_n X (pc := 86) 0 rfl rfl d_M_approve_86 ?_
            refine AW.get X (pc := 87) (k := 250) (ci := 5) (j := 16) (v := .ref 263) (by omega) rfl rfl in_M (by decide) wf_M_48 rfl rfl d_M_approve_87 ?_
            refine AW.iload_n X (pc := 90) 1 rfl rfl d_M_approve_90 ?_
            refine AW.ialdN X (pc := 91) (k := 263) (t := 0) (n := 60) (j := i) (by omega) rfl rfl (by omega) (by decide) d_M_approve_91 ?_
            refine AW.val (w := .int (σ (5 + 4 * i) 5 + 1)) (congrArg Value.int (m_up_self _ _ _ _)) ?_
            exact hret 92 _ _ _ d_M_approve_92 (by rw [show G_approve σ μ (nI i) p = (σ (5 + 4 * i) 5 + 1, (m_up (m_up (m_up μ 250 0 0) 264 i p) 263 i ((σ (5 + 4 * i) 5) + 1))) by first | (simp [G_approve, hU, hci, c_9, c_21, c_33, c_43, c_53]; done) | simp +contextual [G_approve, hU, hci, c_9, c_21, c_33, c_43, c_53]]; exact ⟨rfl, rfl⟩)
          · refine AW.aload_n X (pc := 56) 0 rfl rfl d_M_approve_56 ?_
            refine AW.get X (pc := 57) (k := 250) (ci := 5) (j := 17) (v := .ref 264) (by omega) rfl rfl in_M (by decide) wf_M_51 rfl rfl d_M_approve_57 ?_
            refine AW.iload_n X (pc := 60) 1 rfl rfl d_M_approve_60 ?_
            refine AW.ialdN X (pc := 61) (k := 264) (t := 0) (n := 60) (j := i) (by omega) rfl rfl (by omega) (by decide) d_M_approve_61 ?_
            refine AW.val (w := .int (σ (5 + 4 * i) 6)) (congrArg Value.int (hM0.fb hi c_53)) ?_
            refine AW.iload_n X (pc := 62) 2 rfl rfl d_M_approve_62 ?_
            refine AW.icmp_ne X (pc := 63) 69 d_M_approve_63 (by decide) (fun c_63 => ?_) (fun c_63 => ?_)
            · refine AW.aload_n X (pc := 69) 0 rfl rfl d_M_approve_69 ?_
              refine AW.get X (pc := 70) (k := 250) (ci := 5) (j := 17) (v := .ref 264) (by omega) rfl rfl in_M (by decide) wf_M_51 rfl rfl d_M_approve_70 ?_
              refine AW.iload_n X (pc := 73) 1 rfl rfl d_M_approve_73 ?_
              refine AW.iload_n X (pc := 74) 2 rfl rfl d_M_approve_74 ?_
              refine AW.iastN X (pc := 75) (k := 264) (t := 0) (n := 60) (j := i) (x := p) (by omega) rfl rfl (by omega) (by decide) d_M_approve_75 ?_
              refine AW.aload_n X (pc := 76) 0 rfl rfl d_M_approve_76 ?_
              refine AW.get X (pc := 77) (k := 250) (ci := 5) (j := 16) (v := .ref 263) (by omega) rfl rfl in_M (by decide) wf_M_48 rfl rfl d_M_approve_77 ?_
              refine AW.iload_n X (pc := 80) 1 rfl rfl d_M_approve_80 ?_
              refine AW.dup2 X (pc := 81) rfl rfl d_M_approve_81 ?_
              refine AW.ialdN X (pc := 82) (k := 263) (t := 0) (n := 60) (j := i) (by omega) rfl rfl (by omega) (by decide) d_M_approve_82 ?_
              refine AW.val (w := .int (σ (5 + 4 * i) 5)) (congrArg Value.int ((congrFun (m_up_row (by decide)) _).trans (hM0.ap hi))) ?_
              refine AW.iconst X (pc := 83) (v := 1) (by decide) d_M_approve_83 ?_
              refine AW.iadd X (pc := 84) d_M_approve_84 ?_
              refine AW.iastN X (pc := 85) (k := 263) (t := 0) (n := 60) (j := i) (x := (σ (5 + 4 * i) 5) + 1) (by omega) rfl rfl (by omega) (by decide) d_M_approve_85 ?_
              refine AW.aload_n X (pc := 86) 0 rfl rfl d_M_approve_86 ?_
              refine AW.get X (pc := 87) (k := 250) (ci := 5) (j := 16) (v := .ref 263) (by omega) rfl rfl in_M (by decide) wf_M_48 rfl rfl d_M_approve_87 ?_
              refine AW.iload_n X (pc := 90) 1 rfl rfl d_M_approve_90 ?_
              refine AW.ialdN X (pc := 91) (k := 263) (t := 0) (n := 60) (j := i) (by omega) rfl rfl (by omega) (by decide) d_M_approve_91 ?_
              refine AW.val (w := .int (σ (5 + 4 * i) 5 + 1)) (congrArg Value.int (m_up_self _ _ _ _)) ?_
              exact hret 92 _ _ _ d_M_approve_92 (by rw [show G_approve σ μ (nI i) p = (σ (5 + 4 * i) 5 + 1, (m_up (m_up (m_up μ 250 0 0) 264 i p) 263 i ((σ (5 + 4 * i) 5) + 1))) by first | (simp [G_approve, hU, hci, c_9, c_21, c_33, c_43, c_53, c_63]; done) | simp +contextual [G_approve, hU, hci, c_9, c_21, c_33, c_43, c_53, c_63]]; exact ⟨rfl, rfl⟩)
            · refine AW.bipush X (pc := 66) (v := -3) (by decide) d_M_approve_66 ?_
              exact hret 68 _ _ _ d_M_approve_68 (by rw [show G_approve σ μ (nI i) p = (-3, (m_up μ 250 0 0)) by first | (simp [G_approve, hU, hci, c_9, c_21, c_33, c_43, c_53, c_63]; done) | simp +contextual [G_approve, hU, hci, c_9, c_21, c_33, c_43, c_53, c_63]]; exact ⟨rfl, rfl⟩)
    · have c_21 := bi_eq.mp c_21
      refine AW.bipush X (pc := 24) (v := -2) (by decide) d_M_approve_24 ?_
      exact hret 26 _ _ _ d_M_approve_26 (by rw [show G_approve σ μ (nI i) p = (-2, (m_up μ 250 0 0)) by first | (simp [G_approve, hU, hci, c_9, c_21]; done) | simp +contextual [G_approve, hU, hci, c_9, c_21]]; exact ⟨rfl, rfl⟩)
set_option maxHeartbeats 4000000 in
set_option maxRecDepth 100000 in
theorem c_M_certificate (K : KTy) (σ : Mu) (nr : Nat) (u n : Int32) (μ : Mu) (hN : 272 ≤ KN K) (hI : CI σ nr) (hM : MR σ μ nr) (hV : VR σ nr) : CT K y_M_certificate (k_M_certificate :: GT) 2 [.ref 250, .int u, .int n] μ (fun v μ2 => v = some (.int (G_certificate σ μ u n).1) ∧ μ2 = (G_certificate σ μ u n).2) := by
  refine CT.int (cc := b_M_certificate) (maxL := 3) (by decide) rfl rfl (Nat.le_of_ble_eq_true rfl) ?_
  intro G ad N hK X hret
  subst hK
  have hN : 272 ≤ N := hN
  have hnr := hI.nr
  have hM0 := (hM.thr 0).1
  have hMr := hM.thr 0
  show AW G (rmD 2) 3 (0, 0, ad, N, fb) 0 [(0, .ref 250), (1, .int u), (2, .int n)] [] μ
  cases hU : okU u with
  | false =>
    refine AW.aload_n X (pc := 0) 0 rfl rfl d_M_certificate_0 ?_
    refine AW.iconst X (pc := 1) (v := 0) (by decide) d_M_certificate_1 ?_
    refine AW.put X (pc := 2) (k := 250) (ci := 5) (j := 0) (x := 0) (ty := .int) ft_M (by omega) rfl rfl in_M ft_M_ok n_M (by decide) wf_M_72 rfl rfl rfl rfl rfl d_M_certificate_2 ?_
    refine AW.iload_n X (pc := 5) 1 rfl rfl d_M_certificate_5 ?_
    refine AW.callS X (pc := 6) (nA := 1) [.int u] [] (c_M_isUnit (kOf G ad N) u (m_up μ 250 0 0) hN) (gv_S wm_M_149 ws_M_isUnit wn_M kw_M_isUnit) rfl (by decide +kernel) rfl ⟨Nat.le_of_ble_eq_true rfl, Nat.le_of_ble_eq_true rfl⟩ ⟨Nat.zero_le _, Nat.zero_le _⟩ (Nat.le_of_ble_eq_true rfl) d_M_certificate_6 rfl (fun v μ2 hq => ?_)
    obtain ⟨rfl, hm⟩ := hq
    rw [hm]
    clear hm
    show AW G (rmD 2) 3 (0, 0, ad, N, fb) 9 [(0, .ref 250), (1, .int u), (2, .int n)] [.int (bi (okU u))] (m_up μ 250 0 0)
    refine AW.if_ne X (pc := 9) 14 d_M_certificate_9 (by decide) (fun c_9 => absurd c_9 (by rw [hU]; decide)) (fun c_9 => ?_)
    refine AW.iconst X (pc := 12) (v := -1) (by decide) d_M_certificate_12 ?_
    exact hret 13 _ _ _ d_M_certificate_13 (by rw [show G_certificate σ μ u n = (-1, (m_up μ 250 0 0)) by first | (simp [G_certificate, hU, c_9]; done) | simp +contextual [G_certificate, hU, c_9]]; exact ⟨rfl, rfl⟩)
  | true =>
    obtain ⟨i, hi, rfl⟩ := okU_of hU
    have hci : (nI i).toNatClampNeg = i := nI_clamp (by omega)
    show AW G (rmD 2) 3 (0, 0, ad, N, fb) 0 [(0, .ref 250), (1, .int (nI i)), (2, .int n)] [] μ
    refine AW.aload_n X (pc := 0) 0 rfl rfl d_M_certificate_0 ?_
    refine AW.iconst X (pc := 1) (v := 0) (by decide) d_M_certificate_1 ?_
    refine AW.put X (pc := 2) (k := 250) (ci := 5) (j := 0) (x := 0) (ty := .int) ft_M (by omega) rfl rfl in_M ft_M_ok n_M (by decide) wf_M_72 rfl rfl rfl rfl rfl d_M_certificate_2 ?_
    refine AW.iload_n X (pc := 5) 1 rfl rfl d_M_certificate_5 ?_
    refine AW.callS X (pc := 6) (nA := 1) [.int (nI i)] [] (c_M_isUnit (kOf G ad N) (nI i) (m_up μ 250 0 0) hN) (gv_S wm_M_149 ws_M_isUnit wn_M kw_M_isUnit) rfl (by decide +kernel) rfl ⟨Nat.le_of_ble_eq_true rfl, Nat.le_of_ble_eq_true rfl⟩ ⟨Nat.zero_le _, Nat.zero_le _⟩ (Nat.le_of_ble_eq_true rfl) d_M_certificate_6 rfl (fun v μ2 hq => ?_)
    obtain ⟨rfl, hm⟩ := hq
    rw [hm]
    clear hm
    show AW G (rmD 2) 3 (0, 0, ad, N, fb) 9 [(0, .ref 250), (1, .int (nI i)), (2, .int n)] [.int (bi (okU (nI i)))] (m_up μ 250 0 0)
    refine AW.if_ne X (pc := 9) 14 d_M_certificate_9 (by decide) (fun c_9 => ?_) (fun c_9 => absurd c_9 (by rw [hU]; decide))
    refine AW.iload_n X (pc := 14) 2 rfl rfl d_M_certificate_14 ?_
    refine AW.iconst X (pc := 15) (v := 1) (by decide) d_M_certificate_15 ?_
    refine AW.ldc X (pc := 16) (v := 1000000) (by decide +kernel) d_M_certificate_16 ?_
    refine AW.callS X (pc := 18) (nA := 3) [.int n, .int 1, .int 1000000] [] (c_M_in (kOf G ad N) n 1 1000000 (m_up μ 250 0 0) hN) (gv_S wm_M_76 ws_M_in wn_M kw_M_in) rfl (by decide +kernel) rfl ⟨Nat.le_of_ble_eq_true rfl, Nat.le_of_ble_eq_true rfl⟩ ⟨Nat.zero_le _, Nat.zero_le _⟩ (Nat.le_of_ble_eq_true rfl) d_M_certificate_18 rfl (fun v μ2 hq => ?_)
    obtain ⟨rfl, hm⟩ := hq
    rw [hm]
    clear hm
    show AW G (rmD 2) 3 (0, 0, ad, N, fb) 21 [(0, .ref 250), (1, .int (nI i)), (2, .int n)] [.int (bi (inB 1 1000000 n))] (m_up μ 250 0 0)
    refine AW.if_ne X (pc := 21) 27 d_M_certificate_21 (by decide) (fun c_21 => ?_) (fun c_21 => ?_)
    · have c_21 := bi_ne.mp c_21
      refine AW.aload_n X (pc := 27) 0 rfl rfl d_M_certificate_27 ?_
      refine AW.get X (pc := 28) (k := 250) (ci := 5) (j := 18) (v := .ref 265) (by omega) rfl rfl in_M (by decide) wf_M_54 rfl rfl d_M_certificate_28 ?_
      refine AW.iload_n X (pc := 31) 1 rfl rfl d_M_certificate_31 ?_
      refine AW.ialdN X (pc := 32) (k := 265) (t := 0) (n := 60) (j := i) (by omega) rfl rfl (by omega) (by decide) d_M_certificate_32 ?_
      refine AW.val (w := .int (σ (5 + 4 * i) 7)) (congrArg Value.int (hM0.dp hi)) ?_
      refine AW.if_lt X (pc := 33) 45 d_M_certificate_33 (by decide) (fun c_33 => ?_) (fun c_33 => ?_)
      · refine AW.bipush X (pc := 45) (v := -3) (by decide) d_M_certificate_45 ?_
        exact hret 47 _ _ _ d_M_certificate_47 (by rw [show G_certificate σ μ (nI i) n = (-3, (m_up μ 250 0 0)) by first | (simp [G_certificate, hU, hci, c_9, c_21, c_33]; done) | simp +contextual [G_certificate, hU, hci, c_9, c_21, c_33]]; exact ⟨rfl, rfl⟩)
      · refine AW.aload_n X (pc := 36) 0 rfl rfl d_M_certificate_36 ?_
        refine AW.get X (pc := 37) (k := 250) (ci := 5) (j := 19) (v := .ref 266) (by omega) rfl rfl in_M (by decide) wf_M_57 rfl rfl d_M_certificate_37 ?_
        refine AW.iload_n X (pc := 40) 1 rfl rfl d_M_certificate_40 ?_
        refine AW.ialdN X (pc := 41) (k := 266) (t := 0) (n := 60) (j := i) (by omega) rfl rfl (by omega) (by decide) d_M_certificate_41 ?_
        refine AW.val (w := .int (σ (5 + 4 * i) 8)) (congrArg Value.int (hM0.ce hi)) ?_
        refine AW.if_lt X (pc := 42) 48 d_M_certificate_42 (by decide) (fun c_42 => ?_) (fun c_42 => ?_)
        · refine AW.aload_n X (pc := 48) 0 rfl rfl d_M_certificate_48 ?_
          refine AW.get X (pc := 49) (k := 250) (ci := 5) (j := 19) (v := .ref 266) (by omega) rfl rfl in_M (by decide) wf_M_57 rfl rfl d_M_certificate_49 ?_
          refine AW.iload_n X (pc := 52) 1 rfl rfl d_M_certificate_52 ?_
          refine AW.iload_n X (pc := 53) 2 rfl rfl d_M_certificate_53 ?_
          refine AW.iastN X (pc := 54) (k := 266) (t := 0) (n := 60) (j := i) (x := n) (by omega) rfl rfl (by omega) (by decide) d_M_certificate_54 ?_
          refine AW.iconst X (pc := 55) (v := 1) (by decide) d_M_certificate_55 ?_
          exact hret 56 _ _ _ d_M_certificate_56 (by rw [show G_certificate σ μ (nI i) n = (1, (m_up (m_up μ 250 0 0) 266 i n)) by first | (simp [G_certificate, hU, hci, c_9, c_21, c_33, c_42]; done) | simp +contextual [G_certificate, hU, hci, c_9, c_21, c_33, c_42]]; exact ⟨rfl, rfl⟩)
        · refine AW.bipush X (pc := 45) (v := -3) (by decide) d_M_certificate_45 ?_
          exact hret 47 _ _ _ d_M_certificate_47 (by rw [show G_certificate σ μ (nI i) n = (-3, (m_up μ 250 0 0)) by first | (simp [G_certificate, hU, hci, c_9, c_21, c_33, c_42]; done) | simp +contextual [G_certificate, hU, hci, c_9, c_21, c_33, c_42]]; exact ⟨rfl, rfl⟩)
    · have c_21 := bi_eq.mp c_21
      refine AW.bipush X (pc := 24) (v := -2) (by decide) d_M_certificate_24 ?_
      exact hret 26 _ _ _ d_M_certificate_26 (by rw [show G_certificate σ μ (nI i) n = (-2, (m_up μ 250 0 0)) by first | (simp [G_certificate, hU, hci, c_9, c_21]; done) | simp +contextual [G_certificate, hU, hci, c_9, c_21]]; exact ⟨rfl, rfl⟩)
set_option maxHeartbeats 4000000 in
set_option maxRecDepth 100000 in
theorem c_M_about (K : KTy) (σ : Mu) (nr : Nat) (u w : Int32) (μ : Mu) (hN : 272 ≤ KN K) (hI : CI σ nr) (hM : MR σ μ nr) (hV : VR σ nr) : CT K y_M_about (k_M_about :: GT) 2 [.ref 250, .int u, .int w] μ (fun v μ2 => v = some (.int (G_about σ u w)) ∧ μ2 = (m_up μ 250 0 0)) := by
  refine CT.int (cc := b_M_about) (maxL := 3) (by decide) rfl rfl (Nat.le_of_ble_eq_true rfl) ?_
  intro G ad N hK X hret
  subst hK
  have hN : 272 ≤ N := hN
  have hnr := hI.nr
  have hM0 := (hM.thr 0).1
  have hMr := hM.thr 0
  show AW G (rmD 2) 3 (0, 0, ad, N, fb) 0 [(0, .ref 250), (1, .int u), (2, .int w)] [] μ
  cases hU : okU u with
  | false =>
    refine AW.aload_n X (pc := 0) 0 rfl rfl d_M_about_0 ?_
    refine AW.iconst X (pc := 1) (v := 0) (by decide) d_M_about_1 ?_
    refine AW.put X (pc := 2) (k := 250) (ci := 5) (j := 0) (x := 0) (ty := .int) ft_M (by omega) rfl rfl in_M ft_M_ok n_M (by decide) wf_M_72 rfl rfl rfl rfl rfl d_M_about_2 ?_
    refine AW.iload_n X (pc := 5) 1 rfl rfl d_M_about_5 ?_
    refine AW.callS X (pc := 6) (nA := 1) [.int u] [] (c_M_isUnit (kOf G ad N) u (m_up μ 250 0 0) hN) (gv_S wm_M_149 ws_M_isUnit wn_M kw_M_isUnit) rfl (by decide +kernel) rfl ⟨Nat.le_of_ble_eq_true rfl, Nat.le_of_ble_eq_true rfl⟩ ⟨Nat.zero_le _, Nat.zero_le _⟩ (Nat.le_of_ble_eq_true rfl) d_M_about_6 rfl (fun v μ2 hq => ?_)
    obtain ⟨rfl, hm⟩ := hq
    rw [hm]
    clear hm
    show AW G (rmD 2) 3 (0, 0, ad, N, fb) 9 [(0, .ref 250), (1, .int u), (2, .int w)] [.int (bi (okU u))] (m_up μ 250 0 0)
    refine AW.if_ne X (pc := 9) 14 d_M_about_9 (by decide) (fun c_9 => absurd c_9 (by rw [hU]; decide)) (fun c_9 => ?_)
    refine AW.iconst X (pc := 12) (v := -1) (by decide) d_M_about_12 ?_
    exact hret 13 _ _ _ d_M_about_13 ⟨by rw [show G_about σ u w = -1 by simp [G_about, hU, c_9]], rfl⟩
  | true =>
    obtain ⟨i, hi, rfl⟩ := okU_of hU
    have hci : (nI i).toNatClampNeg = i := nI_clamp (by omega)
    show AW G (rmD 2) 3 (0, 0, ad, N, fb) 0 [(0, .ref 250), (1, .int (nI i)), (2, .int w)] [] μ
    by_cases n4 : w = 4
    · subst n4
      show AW G (rmD 2) 3 (0, 0, ad, N, fb) 0 [(0, .ref 250), (1, .int (nI i)), (2, .int 4)] [] μ
      refine AW.aload_n X (pc := 0) 0 rfl rfl d_M_about_0 ?_
      refine AW.iconst X (pc := 1) (v := 0) (by decide) d_M_about_1 ?_
      refine AW.put X (pc := 2) (k := 250) (ci := 5) (j := 0) (x := 0) (ty := .int) ft_M (by omega) rfl rfl in_M ft_M_ok n_M (by decide) wf_M_72 rfl rfl rfl rfl rfl d_M_about_2 ?_
      refine AW.iload_n X (pc := 5) 1 rfl rfl d_M_about_5 ?_
      refine AW.callS X (pc := 6) (nA := 1) [.int (nI i)] [] (c_M_isUnit (kOf G ad N) (nI i) (m_up μ 250 0 0) hN) (gv_S wm_M_149 ws_M_isUnit wn_M kw_M_isUnit) rfl (by decide +kernel) rfl ⟨Nat.le_of_ble_eq_true rfl, Nat.le_of_ble_eq_true rfl⟩ ⟨Nat.zero_le _, Nat.zero_le _⟩ (Nat.le_of_ble_eq_true rfl) d_M_about_6 rfl (fun v μ2 hq => ?_)
      obtain ⟨rfl, hm⟩ := hq
      rw [hm]
      clear hm
      show AW G (rmD 2) 3 (0, 0, ad, N, fb) 9 [(0, .ref 250), (1, .int (nI i)), (2, .int 4)] [.int (bi (okU (nI i)))] (m_up μ 250 0 0)
      refine AW.if_ne X (pc := 9) 14 d_M_about_9 (by decide) (fun c_9 => ?_) (fun c_9 => absurd c_9 (by rw [hU]; decide))
      refine AW.iload_n X (pc := 14) 2 rfl rfl d_M_about_14 ?_
      refine AW.iconst X (pc := 15) (v := 0) (by decide) d_M_about_15 ?_
      refine AW.iconst X (pc := 16) (v := 3) (by decide) d_M_about_16 ?_
      refine AW.callS X (pc := 17) (nA := 3) [.int 4, .int 0, .int 3] [] (c_M_in (kOf G ad N) 4 0 3 (m_up μ 250 0 0) hN) (gv_S wm_M_76 ws_M_in wn_M kw_M_in) rfl (by decide +kernel) rfl ⟨Nat.le_of_ble_eq_true rfl, Nat.le_of_ble_eq_true rfl⟩ ⟨Nat.zero_le _, Nat.zero_le _⟩ (Nat.le_of_ble_eq_true rfl) d_M_about_17 rfl (fun v μ2 hq => ?_)
      obtain ⟨rfl, hm⟩ := hq
      rw [hm]
      clear hm
      show AW G (rmD 2) 3 (0, 0, ad, N, fb) 20 [(0, .ref 250), (1, .int (nI i)), (2, .int 4)] [.int (bi (inB 0 3 4))] (m_up μ 250 0 0)
      refine AW.if_eq X (pc := 20) 34 d_M_about_20 (by decide) (fun c_20 => ?_) (fun c_20 => absurd c_20 (by decide))
      refine AW.iload_n X (pc := 34) 2 rfl rfl d_M_about_34 ?_
      refine AW.tableIn X (pc := 35) 68 d_M_about_35 (by decide) (by decide) (show _ = some 33 by decide) (by decide) ?_
      refine AW.aload_n X (pc := 68) 0 rfl rfl d_M_about_68 ?_
      refine AW.get X (pc := 69) (k := 250) (ci := 5) (j := 13) (v := .ref 260) (by omega) rfl rfl in_M (by decide) wf_M_39 rfl rfl d_M_about_69 ?_
      refine AW.iload_n X (pc := 72) 1 rfl rfl d_M_about_72 ?_
      refine AW.ialdN X (pc := 73) (k := 260) (t := 0) (n := 60) (j := i) (by omega) rfl rfl (by omega) (by decide) d_M_about_73 ?_
      refine AW.val (w := .int (nI (rnN σ i))) (congrArg Value.int (hM0.sc hi)) ?_
      exact hret 74 _ _ _ d_M_about_74 ⟨by rw [show G_about σ (nI i) 4 = nI (rnN σ i) by simp [G_about, hU, hci, c_9, show inB 0 3 4 = false from by decide]], rfl⟩
    by_cases n5 : w = 5
    · subst n5
      show AW G (rmD 2) 3 (0, 0, ad, N, fb) 0 [(0, .ref 250), (1, .int (nI i)), (2, .int 5)] [] μ
      refine AW.aload_n X (pc := 0) 0 rfl rfl d_M_about_0 ?_
      refine AW.iconst X (pc := 1) (v := 0) (by decide) d_M_about_1 ?_
      refine AW.put X (pc := 2) (k := 250) (ci := 5) (j := 0) (x := 0) (ty := .int) ft_M (by omega) rfl rfl in_M ft_M_ok n_M (by decide) wf_M_72 rfl rfl rfl rfl rfl d_M_about_2 ?_
      refine AW.iload_n X (pc := 5) 1 rfl rfl d_M_about_5 ?_
      refine AW.callS X (pc := 6) (nA := 1) [.int (nI i)] [] (c_M_isUnit (kOf G ad N) (nI i) (m_up μ 250 0 0) hN) (gv_S wm_M_149 ws_M_isUnit wn_M kw_M_isUnit) rfl (by decide +kernel) rfl ⟨Nat.le_of_ble_eq_true rfl, Nat.le_of_ble_eq_true rfl⟩ ⟨Nat.zero_le _, Nat.zero_le _⟩ (Nat.le_of_ble_eq_true rfl) d_M_about_6 rfl (fun v μ2 hq => ?_)
      obtain ⟨rfl, hm⟩ := hq
      rw [hm]
      clear hm
      show AW G (rmD 2) 3 (0, 0, ad, N, fb) 9 [(0, .ref 250), (1, .int (nI i)), (2, .int 5)] [.int (bi (okU (nI i)))] (m_up μ 250 0 0)
      refine AW.if_ne X (pc := 9) 14 d_M_about_9 (by decide) (fun c_9 => ?_) (fun c_9 => absurd c_9 (by rw [hU]; decide))
      refine AW.iload_n X (pc := 14) 2 rfl rfl d_M_about_14 ?_
      refine AW.iconst X (pc := 15) (v := 0) (by decide) d_M_about_15 ?_
      refine AW.iconst X (pc := 16) (v := 3) (by decide) d_M_about_16 ?_
      refine AW.callS X (pc := 17) (nA := 3) [.int 5, .int 0, .int 3] [] (c_M_in (kOf G ad N) 5 0 3 (m_up μ 250 0 0) hN) (gv_S wm_M_76 ws_M_in wn_M kw_M_in) rfl (by decide +kernel) rfl ⟨Nat.le_of_ble_eq_true rfl, Nat.le_of_ble_eq_true rfl⟩ ⟨Nat.zero_le _, Nat.zero_le _⟩ (Nat.le_of_ble_eq_true rfl) d_M_about_17 rfl (fun v μ2 hq => ?_)
      obtain ⟨rfl, hm⟩ := hq
      rw [hm]
      clear hm
      show AW G (rmD 2) 3 (0, 0, ad, N, fb) 20 [(0, .ref 250), (1, .int (nI i)), (2, .int 5)] [.int (bi (inB 0 3 5))] (m_up μ 250 0 0)
      refine AW.if_eq X (pc := 20) 34 d_M_about_20 (by decide) (fun c_20 => ?_) (fun c_20 => absurd c_20 (by decide))
      refine AW.iload_n X (pc := 34) 2 rfl rfl d_M_about_34 ?_
      refine AW.tableIn X (pc := 35) 75 d_M_about_35 (by decide) (by decide) (show _ = some 40 by decide) (by decide) ?_
      refine AW.aload_n X (pc := 75) 0 rfl rfl d_M_about_75 ?_
      refine AW.get X (pc := 76) (k := 250) (ci := 5) (j := 16) (v := .ref 263) (by omega) rfl rfl in_M (by decide) wf_M_48 rfl rfl d_M_about_76 ?_
      refine AW.iload_n X (pc := 79) 1 rfl rfl d_M_about_79 ?_
      refine AW.ialdN X (pc := 80) (k := 263) (t := 0) (n := 60) (j := i) (by omega) rfl rfl (by omega) (by decide) d_M_about_80 ?_
      refine AW.val (w := .int (σ (5 + 4 * i) 5)) (congrArg Value.int (hM0.ap hi)) ?_
      exact hret 81 _ _ _ d_M_about_81 ⟨by rw [show G_about σ (nI i) 5 = σ (5 + 4 * i) 5 by simp [G_about, hU, hci, c_9, show inB 0 3 5 = false from by decide]], rfl⟩
    by_cases n6 : w = 6
    · subst n6
      show AW G (rmD 2) 3 (0, 0, ad, N, fb) 0 [(0, .ref 250), (1, .int (nI i)), (2, .int 6)] [] μ
      refine AW.aload_n X (pc := 0) 0 rfl rfl d_M_about_0 ?_
      refine AW.iconst X (pc := 1) (v := 0) (by decide) d_M_about_1 ?_
      refine AW.put X (pc := 2) (k := 250) (ci := 5) (j := 0) (x := 0) (ty := .int) ft_M (by omega) rfl rfl in_M ft_M_ok n_M (by decide) wf_M_72 rfl rfl rfl rfl rfl d_M_about_2 ?_
      refine AW.iload_n X (pc := 5) 1 rfl rfl d_M_about_5 ?_
      refine AW.callS X (pc := 6) (nA := 1) [.int (nI i)] [] (c_M_isUnit (kOf G ad N) (nI i) (m_up μ 250 0 0) hN) (gv_S wm_M_149 ws_M_isUnit wn_M kw_M_isUnit) rfl (by decide +kernel) rfl ⟨Nat.le_of_ble_eq_true rfl, Nat.le_of_ble_eq_true rfl⟩ ⟨Nat.zero_le _, Nat.zero_le _⟩ (Nat.le_of_ble_eq_true rfl) d_M_about_6 rfl (fun v μ2 hq => ?_)
      obtain ⟨rfl, hm⟩ := hq
      rw [hm]
      clear hm
      show AW G (rmD 2) 3 (0, 0, ad, N, fb) 9 [(0, .ref 250), (1, .int (nI i)), (2, .int 6)] [.int (bi (okU (nI i)))] (m_up μ 250 0 0)
      refine AW.if_ne X (pc := 9) 14 d_M_about_9 (by decide) (fun c_9 => ?_) (fun c_9 => absurd c_9 (by rw [hU]; decide))
      refine AW.iload_n X (pc := 14) 2 rfl rfl d_M_about_14 ?_
      refine AW.iconst X (pc := 15) (v := 0) (by decide) d_M_about_15 ?_
      refine AW.iconst X (pc := 16) (v := 3) (by decide) d_M_about_16 ?_
      refine AW.callS X (pc := 17) (nA := 3) [.int 6, .int 0, .int 3] [] (c_M_in (kOf G ad N) 6 0 3 (m_up μ 250 0 0) hN) (gv_S wm_M_76 ws_M_in wn_M kw_M_in) rfl (by decide +kernel) rfl ⟨Nat.le_of_ble_eq_true rfl, Nat.le_of_ble_eq_true rfl⟩ ⟨Nat.zero_le _, Nat.zero_le _⟩ (Nat.le_of_ble_eq_true rfl) d_M_about_17 rfl (fun v μ2 hq => ?_)
      obtain ⟨rfl, hm⟩ := hq
      rw [hm]
      clear hm
      show AW G (rmD 2) 3 (0, 0, ad, N, fb) 20 [(0, .ref 250), (1, .int (nI i)), (2, .int 6)] [.int (bi (inB 0 3 6))] (m_up μ 250 0 0)
      refine AW.if_eq X (pc := 20) 34 d_M_about_20 (by decide) (fun c_20 => ?_) (fun c_20 => absurd c_20 (by decide))
      refine AW.iload_n X (pc := 34) 2 rfl rfl d_M_about_34 ?_
      refine AW.tableIn X (pc := 35) 82 d_M_about_35 (by decide) (by decide) (show _ = some 47 by decide) (by decide) ?_
      refine AW.aload_n X (pc := 82) 0 rfl rfl d_M_about_82 ?_
      refine AW.get X (pc := 83) (k := 250) (ci := 5) (j := 18) (v := .ref 265) (by omega) rfl rfl in_M (by decide) wf_M_54 rfl rfl d_M_about_83 ?_
      refine AW.iload_n X (pc := 86) 1 rfl rfl d_M_about_86 ?_
      refine AW.ialdN X (pc := 87) (k := 265) (t := 0) (n := 60) (j := i) (by omega) rfl rfl (by omega) (by decide) d_M_about_87 ?_
      refine AW.val (w := .int (σ (5 + 4 * i) 7)) (congrArg Value.int (hM0.dp hi)) ?_
      refine AW.if_lt X (pc := 88) 95 d_M_about_88 (by decide) (fun c_88 => ?_) (fun c_88 => ?_)
      · refine AW.iconst X (pc := 95) (v := 0) (by decide) d_M_about_95 ?_
        exact hret 96 _ _ _ d_M_about_96 ⟨by rw [show G_about σ (nI i) 6 = 0 by simp [G_about, hU, hci, c_9, c_88, show inB 0 3 6 = false from by decide]], rfl⟩
      · refine AW.iconst X (pc := 91) (v := 1) (by decide) d_M_about_91 ?_
        refine AW.goto X (pc := 92) 96 d_M_about_92 (by decide) ?_
        exact hret 96 _ _ _ d_M_about_96 ⟨by rw [show G_about σ (nI i) 6 = 1 by simp [G_about, hU, hci, c_9, c_88, show inB 0 3 6 = false from by decide]], rfl⟩
    by_cases n7 : w = 7
    · subst n7
      show AW G (rmD 2) 3 (0, 0, ad, N, fb) 0 [(0, .ref 250), (1, .int (nI i)), (2, .int 7)] [] μ
      refine AW.aload_n X (pc := 0) 0 rfl rfl d_M_about_0 ?_
      refine AW.iconst X (pc := 1) (v := 0) (by decide) d_M_about_1 ?_
      refine AW.put X (pc := 2) (k := 250) (ci := 5) (j := 0) (x := 0) (ty := .int) ft_M (by omega) rfl rfl in_M ft_M_ok n_M (by decide) wf_M_72 rfl rfl rfl rfl rfl d_M_about_2 ?_
      refine AW.iload_n X (pc := 5) 1 rfl rfl d_M_about_5 ?_
      refine AW.callS X (pc := 6) (nA := 1) [.int (nI i)] [] (c_M_isUnit (kOf G ad N) (nI i) (m_up μ 250 0 0) hN) (gv_S wm_M_149 ws_M_isUnit wn_M kw_M_isUnit) rfl (by decide +kernel) rfl ⟨Nat.le_of_ble_eq_true rfl, Nat.le_of_ble_eq_true rfl⟩ ⟨Nat.zero_le _, Nat.zero_le _⟩ (Nat.le_of_ble_eq_true rfl) d_M_about_6 rfl (fun v μ2 hq => ?_)
      obtain ⟨rfl, hm⟩ := hq
      rw [hm]
      clear hm
      show AW G (rmD 2) 3 (0, 0, ad, N, fb) 9 [(0, .ref 250), (1, .int (nI i)), (2, .int 7)] [.int (bi (okU (nI i)))] (m_up μ 250 0 0)
      refine AW.if_ne X (pc := 9) 14 d_M_about_9 (by decide) (fun c_9 => ?_) (fun c_9 => absurd c_9 (by rw [hU]; decide))
      refine AW.iload_n X (pc := 14) 2 rfl rfl d_M_about_14 ?_
      refine AW.iconst X (pc := 15) (v := 0) (by decide) d_M_about_15 ?_
      refine AW.iconst X (pc := 16) (v := 3) (by decide) d_M_about_16 ?_
      refine AW.callS X (pc := 17) (nA := 3) [.int 7, .int 0, .int 3] [] (c_M_in (kOf G ad N) 7 0 3 (m_up μ 250 0 0) hN) (gv_S wm_M_76 ws_M_in wn_M kw_M_in) rfl (by decide +kernel) rfl ⟨Nat.le_of_ble_eq_true rfl, Nat.le_of_ble_eq_true rfl⟩ ⟨Nat.zero_le _, Nat.zero_le _⟩ (Nat.le_of_ble_eq_true rfl) d_M_about_17 rfl (fun v μ2 hq => ?_)
      obtain ⟨rfl, hm⟩ := hq
      rw [hm]
      clear hm
      show AW G (rmD 2) 3 (0, 0, ad, N, fb) 20 [(0, .ref 250), (1, .int (nI i)), (2, .int 7)] [.int (bi (inB 0 3 7))] (m_up μ 250 0 0)
      refine AW.if_eq X (pc := 20) 34 d_M_about_20 (by decide) (fun c_20 => ?_) (fun c_20 => absurd c_20 (by decide))
      refine AW.iload_n X (pc := 34) 2 rfl rfl d_M_about_34 ?_
      refine AW.tableIn X (pc := 35) 97 d_M_about_35 (by decide) (by decide) (show _ = some 62 by decide) (by decide) ?_
      refine AW.aload_n X (pc := 97) 0 rfl rfl d_M_about_97 ?_
      refine AW.get X (pc := 98) (k := 250) (ci := 5) (j := 18) (v := .ref 265) (by omega) rfl rfl in_M (by decide) wf_M_54 rfl rfl d_M_about_98 ?_
      refine AW.iload_n X (pc := 101) 1 rfl rfl d_M_about_101 ?_
      refine AW.ialdN X (pc := 102) (k := 265) (t := 0) (n := 60) (j := i) (by omega) rfl rfl (by omega) (by decide) d_M_about_102 ?_
      refine AW.val (w := .int (σ (5 + 4 * i) 7)) (congrArg Value.int (hM0.dp hi)) ?_
      exact hret 103 _ _ _ d_M_about_103 ⟨by rw [show G_about σ (nI i) 7 = σ (5 + 4 * i) 7 by simp [G_about, hU, hci, c_9, show inB 0 3 7 = false from by decide]], rfl⟩
    by_cases n8 : w = 8
    · subst n8
      show AW G (rmD 2) 3 (0, 0, ad, N, fb) 0 [(0, .ref 250), (1, .int (nI i)), (2, .int 8)] [] μ
      refine AW.aload_n X (pc := 0) 0 rfl rfl d_M_about_0 ?_
      refine AW.iconst X (pc := 1) (v := 0) (by decide) d_M_about_1 ?_
      refine AW.put X (pc := 2) (k := 250) (ci := 5) (j := 0) (x := 0) (ty := .int) ft_M (by omega) rfl rfl in_M ft_M_ok n_M (by decide) wf_M_72 rfl rfl rfl rfl rfl d_M_about_2 ?_
      refine AW.iload_n X (pc := 5) 1 rfl rfl d_M_about_5 ?_
      refine AW.callS X (pc := 6) (nA := 1) [.int (nI i)] [] (c_M_isUnit (kOf G ad N) (nI i) (m_up μ 250 0 0) hN) (gv_S wm_M_149 ws_M_isUnit wn_M kw_M_isUnit) rfl (by decide +kernel) rfl ⟨Nat.le_of_ble_eq_true rfl, Nat.le_of_ble_eq_true rfl⟩ ⟨Nat.zero_le _, Nat.zero_le _⟩ (Nat.le_of_ble_eq_true rfl) d_M_about_6 rfl (fun v μ2 hq => ?_)
      obtain ⟨rfl, hm⟩ := hq
      rw [hm]
      clear hm
      show AW G (rmD 2) 3 (0, 0, ad, N, fb) 9 [(0, .ref 250), (1, .int (nI i)), (2, .int 8)] [.int (bi (okU (nI i)))] (m_up μ 250 0 0)
      refine AW.if_ne X (pc := 9) 14 d_M_about_9 (by decide) (fun c_9 => ?_) (fun c_9 => absurd c_9 (by rw [hU]; decide))
      refine AW.iload_n X (pc := 14) 2 rfl rfl d_M_about_14 ?_
      refine AW.iconst X (pc := 15) (v := 0) (by decide) d_M_about_15 ?_
      refine AW.iconst X (pc := 16) (v := 3) (by decide) d_M_about_16 ?_
      refine AW.callS X (pc := 17) (nA := 3) [.int 8, .int 0, .int 3] [] (c_M_in (kOf G ad N) 8 0 3 (m_up μ 250 0 0) hN) (gv_S wm_M_76 ws_M_in wn_M kw_M_in) rfl (by decide +kernel) rfl ⟨Nat.le_of_ble_eq_true rfl, Nat.le_of_ble_eq_true rfl⟩ ⟨Nat.zero_le _, Nat.zero_le _⟩ (Nat.le_of_ble_eq_true rfl) d_M_about_17 rfl (fun v μ2 hq => ?_)
      obtain ⟨rfl, hm⟩ := hq
      rw [hm]
      clear hm
      show AW G (rmD 2) 3 (0, 0, ad, N, fb) 20 [(0, .ref 250), (1, .int (nI i)), (2, .int 8)] [.int (bi (inB 0 3 8))] (m_up μ 250 0 0)
      refine AW.if_eq X (pc := 20) 34 d_M_about_20 (by decide) (fun c_20 => ?_) (fun c_20 => absurd c_20 (by decide))
      refine AW.iload_n X (pc := 34) 2 rfl rfl d_M_about_34 ?_
      refine AW.tableIn X (pc := 35) 104 d_M_about_35 (by decide) (by decide) (show _ = some 69 by decide) (by decide) ?_
      refine AW.aload_n X (pc := 104) 0 rfl rfl d_M_about_104 ?_
      refine AW.get X (pc := 105) (k := 250) (ci := 5) (j := 19) (v := .ref 266) (by omega) rfl rfl in_M (by decide) wf_M_57 rfl rfl d_M_about_105 ?_
      refine AW.iload_n X (pc := 108) 1 rfl rfl d_M_about_108 ?_
      refine AW.ialdN X (pc := 109) (k := 266) (t := 0) (n := 60) (j := i) (by omega) rfl rfl (by omega) (by decide) d_M_about_109 ?_
      refine AW.val (w := .int (σ (5 + 4 * i) 8)) (congrArg Value.int (hM0.ce hi)) ?_
      exact hret 110 _ _ _ d_M_about_110 ⟨by rw [show G_about σ (nI i) 8 = σ (5 + 4 * i) 8 by simp [G_about, hU, hci, c_9, show inB 0 3 8 = false from by decide]], rfl⟩
    refine AW.aload_n X (pc := 0) 0 rfl rfl d_M_about_0 ?_
    refine AW.iconst X (pc := 1) (v := 0) (by decide) d_M_about_1 ?_
    refine AW.put X (pc := 2) (k := 250) (ci := 5) (j := 0) (x := 0) (ty := .int) ft_M (by omega) rfl rfl in_M ft_M_ok n_M (by decide) wf_M_72 rfl rfl rfl rfl rfl d_M_about_2 ?_
    refine AW.iload_n X (pc := 5) 1 rfl rfl d_M_about_5 ?_
    refine AW.callS X (pc := 6) (nA := 1) [.int (nI i)] [] (c_M_isUnit (kOf G ad N) (nI i) (m_up μ 250 0 0) hN) (gv_S wm_M_149 ws_M_isUnit wn_M kw_M_isUnit) rfl (by decide +kernel) rfl ⟨Nat.le_of_ble_eq_true rfl, Nat.le_of_ble_eq_true rfl⟩ ⟨Nat.zero_le _, Nat.zero_le _⟩ (Nat.le_of_ble_eq_true rfl) d_M_about_6 rfl (fun v μ2 hq => ?_)
    obtain ⟨rfl, hm⟩ := hq
    rw [hm]
    clear hm
    show AW G (rmD 2) 3 (0, 0, ad, N, fb) 9 [(0, .ref 250), (1, .int (nI i)), (2, .int w)] [.int (bi (okU (nI i)))] (m_up μ 250 0 0)
    refine AW.if_ne X (pc := 9) 14 d_M_about_9 (by decide) (fun c_9 => ?_) (fun c_9 => absurd c_9 (by rw [hU]; decide))
    refine AW.iload_n X (pc := 14) 2 rfl rfl d_M_about_14 ?_
    refine AW.iconst X (pc := 15) (v := 0) (by decide) d_M_about_15 ?_
    refine AW.iconst X (pc := 16) (v := 3) (by decide) d_M_about_16 ?_
    refine AW.callS X (pc := 17) (nA := 3) [.int w, .int 0, .int 3] [] (c_M_in (kOf G ad N) w 0 3 (m_up μ 250 0 0) hN) (gv_S wm_M_76 ws_M_in wn_M kw_M_in) rfl (by decide +kernel) rfl ⟨Nat.le_of_ble_eq_true rfl, Nat.le_of_ble_eq_true rfl⟩ ⟨Nat.zero_le _, Nat.zero_le _⟩ (Nat.le_of_ble_eq_true rfl) d_M_about_17 rfl (fun v μ2 hq => ?_)
    obtain ⟨rfl, hm⟩ := hq
    rw [hm]
    clear hm
    show AW G (rmD 2) 3 (0, 0, ad, N, fb) 20 [(0, .ref 250), (1, .int (nI i)), (2, .int w)] [.int (bi (inB 0 3 w))] (m_up μ 250 0 0)
    refine AW.if_eq X (pc := 20) 34 d_M_about_20 (by decide) (fun c_20 => ?_) (fun c_20 => ?_)
    · have c_20 := bi_eq.mp c_20
      refine AW.iload_n X (pc := 34) 2 rfl rfl d_M_about_34 ?_
      refine AW.tableOut X (pc := 35) 111 d_M_about_35 (by have h4 := lv_neT n4 (a := 4) (by decide); have h5 := lv_neT n5 (a := 5) (by decide); have h6 := lv_neT n6 (a := 6) (by decide); have h7 := lv_neT n7 (a := 7) (by decide); have h8 := lv_neT n8 (a := 8) (by decide); omega) (by decide) ?_
      refine AW.iconst X (pc := 111) (v := -1) (by decide) d_M_about_111 ?_
      exact hret 112 _ _ _ d_M_about_112 ⟨by rw [show G_about σ (nI i) w = -1 by simp [G_about, hU, hci, n4, n5, n6, n7, n8, c_9, c_20]], rfl⟩
    · have c_20 := bi_ne.mp c_20
      obtain ⟨q, hq, rfl⟩ := okK_t c_20
      have hcq : (nI q).toNatClampNeg = q := nI_clamp (by omega)
      refine AW.aload_n X (pc := 23) 0 rfl rfl d_M_about_23 ?_
      refine AW.get X (pc := 24) (k := 250) (ci := 5) (j := 11) (v := .ref 258) (by omega) rfl rfl in_M (by decide) wf_M_33 rfl rfl d_M_about_24 ?_
      refine AW.iconst X (pc := 27) (v := 4) (by decide) d_M_about_27 ?_
      refine AW.iload_n X (pc := 28) 1 rfl rfl d_M_about_28 ?_
      refine AW.imul X (pc := 29) d_M_about_29 ?_
      refine AW.val (w := .int (nI (4 * i))) (congrArg Value.int (pk_mul 4 i)) ?_
      refine AW.iload_n X (pc := 30) 2 rfl rfl d_M_about_30 ?_
      refine AW.iadd X (pc := 31) d_M_about_31 ?_
      refine AW.val (w := .int (nI ((4 * i) + q))) (congrArg Value.int (nI_add (4 * i) q)) ?_
      refine AW.ialdN X (pc := 32) (k := 258) (t := 0) (n := 240) (j := (4 * i) + q) (by omega) rfl rfl (by omega) (by decide) d_M_about_32 ?_
      refine AW.val (w := .int (σ (5 + 4 * i + 1) q)) (congrArg Value.int (hM0.ev hi hq)) ?_
      exact hret 33 _ _ _ d_M_about_33 ⟨by rw [show G_about σ (nI i) (nI q) = σ (5 + 4 * i + 1) q by simp [G_about, hU, hci, n4, n5, n6, n7, n8, c_9, c_20, hcq]], rfl⟩
set_option maxHeartbeats 4000000 in
set_option maxRecDepth 100000 in
theorem c_M_change (K : KTy) (σ : Mu) (nr : Nat) (x y d : Int32) (μ : Mu) (hN : 272 ≤ KN K) (hI : CI σ nr) (hM : MR σ μ nr) (hV : VR σ nr) : CT K y_M_change (k_M_change :: GT) 2 [.ref 250, .int x, .int y, .int d] μ (fun v μ2 => v = some (.int (G_change σ μ nr x y d).1) ∧ μ2 = (G_change σ μ nr x y d).2) := by
  refine CT.int (cc := b_M_change) (maxL := 4) (by decide) rfl rfl (Nat.le_of_ble_eq_true rfl) ?_
  intro G ad N hK X hret
  subst hK
  have hN : 272 ≤ N := hN
  have hnr := hI.nr
  have hM0 := (hM.thr 0).1
  have hMr := hM.thr 0
  show AW G (rmD 2) 4 (0, 0, ad, N, fb) 0 [(0, .ref 250), (1, .int x), (2, .int y), (3, .int d)] [] μ
  cases hR : okR nr x with
  | false =>
    refine AW.aload_n X (pc := 0) 0 rfl rfl d_M_change_0 ?_
    refine AW.iconst X (pc := 1) (v := 0) (by decide) d_M_change_1 ?_
    refine AW.put X (pc := 2) (k := 250) (ci := 5) (j := 0) (x := 0) (ty := .int) ft_M (by omega) rfl rfl in_M ft_M_ok n_M (by decide) wf_M_72 rfl rfl rfl rfl rfl d_M_change_2 ?_
    refine AW.aload_n X (pc := 5) 0 rfl rfl d_M_change_5 ?_
    refine AW.iload_n X (pc := 6) 1 rfl rfl d_M_change_6 ?_
    refine AW.callV X (pc := 7) (b := 250) (ci := 5) (nA := 1) [.int x] [] (c_M_isRule (kOf G ad N) nr x (m_up μ 250 0 0) hN hnr hM0.ru) (gv_V wm_M_142 wi_M_isRule wl_M_isRule wn_M kw_M_isRule) rfl (by decide +kernel) rfl (by omega) rfl rfl ⟨Nat.le_of_ble_eq_true rfl, Nat.le_of_ble_eq_true rfl⟩ ⟨Nat.zero_le _, Nat.zero_le _⟩ (Nat.le_of_ble_eq_true rfl) d_M_change_7 rfl (fun v μ2 hq => ?_)
    obtain ⟨rfl, hm⟩ := hq
    rw [hm]
    clear hm
    show AW G (rmD 2) 4 (0, 0, ad, N, fb) 10 [(0, .ref 250), (1, .int x), (2, .int y), (3, .int d)] [.int (bi (okR nr x))] (m_up μ 250 0 0)
    refine AW.if_ne X (pc := 10) 15 d_M_change_10 (by decide) (fun c_10 => absurd c_10 (by rw [hR]; decide)) (fun c_10 => ?_)
    refine AW.iconst X (pc := 13) (v := -1) (by decide) d_M_change_13 ?_
    exact hret 14 _ _ _ d_M_change_14 (by rw [show G_change σ μ nr x y d = (-1, (m_up μ 250 0 0)) by first | (simp [G_change, hR, c_10]; done) | simp +contextual [G_change, hR, c_10]]; exact ⟨rfl, rfl⟩)
  | true =>
    obtain ⟨r, hr, rfl⟩ := okR_of hnr hR
    have hcr : (nI r).toNatClampNeg = r := nI_clamp (by omega)
    have hcc := (hI.cc hr).2
    show AW G (rmD 2) 4 (0, 0, ad, N, fb) 0 [(0, .ref 250), (1, .int (nI r)), (2, .int y), (3, .int d)] [] μ
    refine AW.aload_n X (pc := 0) 0 rfl rfl d_M_change_0 ?_
    refine AW.iconst X (pc := 1) (v := 0) (by decide) d_M_change_1 ?_
    refine AW.put X (pc := 2) (k := 250) (ci := 5) (j := 0) (x := 0) (ty := .int) ft_M (by omega) rfl rfl in_M ft_M_ok n_M (by decide) wf_M_72 rfl rfl rfl rfl rfl d_M_change_2 ?_
    refine AW.aload_n X (pc := 5) 0 rfl rfl d_M_change_5 ?_
    refine AW.iload_n X (pc := 6) 1 rfl rfl d_M_change_6 ?_
    refine AW.callV X (pc := 7) (b := 250) (ci := 5) (nA := 1) [.int (nI r)] [] (c_M_isRule (kOf G ad N) nr (nI r) (m_up μ 250 0 0) hN hnr hM0.ru) (gv_V wm_M_142 wi_M_isRule wl_M_isRule wn_M kw_M_isRule) rfl (by decide +kernel) rfl (by omega) rfl rfl ⟨Nat.le_of_ble_eq_true rfl, Nat.le_of_ble_eq_true rfl⟩ ⟨Nat.zero_le _, Nat.zero_le _⟩ (Nat.le_of_ble_eq_true rfl) d_M_change_7 rfl (fun v μ2 hq => ?_)
    obtain ⟨rfl, hm⟩ := hq
    rw [hm]
    clear hm
    show AW G (rmD 2) 4 (0, 0, ad, N, fb) 10 [(0, .ref 250), (1, .int (nI r)), (2, .int y), (3, .int d)] [.int (bi (okR nr (nI r)))] (m_up μ 250 0 0)
    refine AW.if_ne X (pc := 10) 15 d_M_change_10 (by decide) (fun c_10 => ?_) (fun c_10 => absurd c_10 (by rw [hR]; decide))
    refine AW.iload_n X (pc := 15) 2 rfl rfl d_M_change_15 ?_
    refine AW.iconst X (pc := 16) (v := 0) (by decide) d_M_change_16 ?_
    refine AW.sipush X (pc := 17) (v := 999) (by decide) d_M_change_17 ?_
    refine AW.callS X (pc := 20) (nA := 3) [.int y, .int 0, .int 999] [] (c_M_in (kOf G ad N) y 0 999 (m_up μ 250 0 0) hN) (gv_S wm_M_76 ws_M_in wn_M kw_M_in) rfl (by decide +kernel) rfl ⟨Nat.le_of_ble_eq_true rfl, Nat.le_of_ble_eq_true rfl⟩ ⟨Nat.zero_le _, Nat.zero_le _⟩ (Nat.le_of_ble_eq_true rfl) d_M_change_20 rfl (fun v μ2 hq => ?_)
    obtain ⟨rfl, hm⟩ := hq
    rw [hm]
    clear hm
    show AW G (rmD 2) 4 (0, 0, ad, N, fb) 23 [(0, .ref 250), (1, .int (nI r)), (2, .int y), (3, .int d)] [.int (bi (inB 0 999 y))] (m_up μ 250 0 0)
    refine AW.if_eq X (pc := 23) 33 d_M_change_23 (by decide) (fun c_23 => ?_) (fun c_23 => ?_)
    · have c_23 := bi_eq.mp c_23
      refine AW.bipush X (pc := 33) (v := -2) (by decide) d_M_change_33 ?_
      exact hret 35 _ _ _ d_M_change_35 (by rw [show G_change σ μ nr (nI r) y d = (-2, (m_up μ 250 0 0)) by first | (simp [G_change, hR, hcr, c_10, c_23]; done) | simp +contextual [G_change, hR, hcr, c_10, c_23]]; exact ⟨rfl, rfl⟩)
    · have c_23 := bi_ne.mp c_23
      refine AW.iload_n X (pc := 26) 3 rfl rfl d_M_change_26 ?_
      refine AW.callS X (pc := 27) (nA := 1) [.int d] [] (c_M_isDay (kOf G ad N) d (m_up μ 250 0 0) hN) (gv_S wm_M_146 ws_M_isDay wn_M kw_M_isDay) rfl (by decide +kernel) rfl ⟨Nat.le_of_ble_eq_true rfl, Nat.le_of_ble_eq_true rfl⟩ ⟨Nat.zero_le _, Nat.zero_le _⟩ (Nat.le_of_ble_eq_true rfl) d_M_change_27 rfl (fun v μ2 hq => ?_)
      obtain ⟨rfl, hm⟩ := hq
      rw [hm]
      clear hm
      show AW G (rmD 2) 4 (0, 0, ad, N, fb) 30 [(0, .ref 250), (1, .int (nI r)), (2, .int y), (3, .int d)] [.int (bi (okD d))] (m_up μ 250 0 0)
      refine AW.if_ne X (pc := 30) 36 d_M_change_30 (by decide) (fun c_30 => ?_) (fun c_30 => ?_)
      · have c_30 := bi_ne.mp c_30
        refine AW.aload_n X (pc := 36) 0 rfl rfl d_M_change_36 ?_
        refine AW.get X (pc := 37) (k := 250) (ci := 5) (j := 10) (v := .ref 257) (by omega) rfl rfl in_M (by decide) wf_M_30 rfl rfl d_M_change_37 ?_
        refine AW.bipush X (pc := 40) (v := 6) (by decide) d_M_change_40 ?_
        refine AW.iload_n X (pc := 42) 1 rfl rfl d_M_change_42 ?_
        refine AW.imul X (pc := 43) d_M_change_43 ?_
        refine AW.val (w := .int (nI (6 * r))) (congrArg Value.int (pk_mul 6 r)) ?_
        refine AW.aload_n X (pc := 44) 0 rfl rfl d_M_change_44 ?_
        refine AW.get X (pc := 45) (k := 250) (ci := 5) (j := 8) (v := .ref 255) (by omega) rfl rfl in_M (by decide) wf_M_24 rfl rfl d_M_change_45 ?_
        refine AW.iload_n X (pc := 48) 1 rfl rfl d_M_change_48 ?_
        refine AW.ialdN X (pc := 49) (k := 255) (t := 0) (n := 20) (j := r) (by omega) rfl rfl (by omega) (by decide) d_M_change_49 ?_
        refine AW.val (w := .int (nI (ccN σ r))) (congrArg Value.int (hM0.ch hr)) ?_
        refine AW.iadd X (pc := 50) d_M_change_50 ?_
        refine AW.val (w := .int (nI ((6 * r) + (ccN σ r)))) (congrArg Value.int (nI_add (6 * r) (ccN σ r))) ?_
        refine AW.ialdN X (pc := 51) (k := 257) (t := 0) (n := 120) (j := (6 * r) + (ccN σ r)) (by omega) rfl rfl (by omega) (by decide) d_M_change_51 ?_
        refine AW.val (w := .int (μ 257 (6 * r + ccN σ r))) (congrArg Value.int (congrFun (m_up_row (by decide)) _)) ?_
        refine AW.iload_n X (pc := 52) 3 rfl rfl d_M_change_52 ?_
        refine AW.icmp_lt X (pc := 53) 59 d_M_change_53 (by decide) (fun c_53 => ?_) (fun c_53 => ?_)
        · refine AW.aload_n X (pc := 59) 0 rfl rfl d_M_change_59 ?_
          refine AW.get X (pc := 60) (k := 250) (ci := 5) (j := 8) (v := .ref 255) (by omega) rfl rfl in_M (by decide) wf_M_24 rfl rfl d_M_change_60 ?_
          refine AW.iload_n X (pc := 63) 1 rfl rfl d_M_change_63 ?_
          refine AW.ialdN X (pc := 64) (k := 255) (t := 0) (n := 20) (j := r) (by omega) rfl rfl (by omega) (by decide) d_M_change_64 ?_
          refine AW.val (w := .int (nI (ccN σ r))) (congrArg Value.int (hM0.ch hr)) ?_
          refine AW.iconst X (pc := 65) (v := 5) (by decide) d_M_change_65 ?_
          refine AW.icmp_ne X (pc := 66) 72 d_M_change_66 (by decide) (fun c_66 => ?_) (fun c_66 => ?_)
          · rw [i_eq (nI_toInt (show ccN σ r < 2 ^ 31 by omega)) (show (5 : Int32).toInt = 5 by decide)] at c_66
            have c_66 : ¬ ccN σ r = 5 := by omega
            refine AW.aload_n X (pc := 72) 0 rfl rfl d_M_change_72 ?_
            refine AW.get X (pc := 73) (k := 250) (ci := 5) (j := 8) (v := .ref 255) (by omega) rfl rfl in_M (by decide) wf_M_24 rfl rfl d_M_change_73 ?_
            refine AW.iload_n X (pc := 76) 1 rfl rfl d_M_change_76 ?_
            refine AW.dup2 X (pc := 77) rfl rfl d_M_change_77 ?_
            refine AW.ialdN X (pc := 78) (k := 255) (t := 0) (n := 20) (j := r) (by omega) rfl rfl (by omega) (by decide) d_M_change_78 ?_
            refine AW.val (w := .int (nI (ccN σ r))) (congrArg Value.int (hM0.ch hr)) ?_
            refine AW.iconst X (pc := 79) (v := 1) (by decide) d_M_change_79 ?_
            refine AW.iadd X (pc := 80) d_M_change_80 ?_
            refine AW.val (w := .int (nI ((ccN σ r) + 1))) (congrArg Value.int (nI_add (ccN σ r) 1)) ?_
            refine AW.iastN X (pc := 81) (k := 255) (t := 0) (n := 20) (j := r) (x := nI ((ccN σ r) + 1)) (by omega) rfl rfl (by omega) (by decide) d_M_change_81 ?_
            refine AW.aload_n X (pc := 82) 0 rfl rfl d_M_change_82 ?_
            refine AW.get X (pc := 83) (k := 250) (ci := 5) (j := 9) (v := .ref 256) (by omega) rfl rfl in_M (by decide) wf_M_27 rfl rfl d_M_change_83 ?_
            refine AW.bipush X (pc := 86) (v := 6) (by decide) d_M_change_86 ?_
            refine AW.iload_n X (pc := 88) 1 rfl rfl d_M_change_88 ?_
            refine AW.imul X (pc := 89) d_M_change_89 ?_
            refine AW.val (w := .int (nI (6 * r))) (congrArg Value.int (pk_mul 6 r)) ?_
            refine AW.aload_n X (pc := 90) 0 rfl rfl d_M_change_90 ?_
            refine AW.get X (pc := 91) (k := 250) (ci := 5) (j := 8) (v := .ref 255) (by omega) rfl rfl in_M (by decide) wf_M_24 rfl rfl d_M_change_91 ?_
            refine AW.iload_n X (pc := 94) 1 rfl rfl d_M_change_94 ?_
            refine AW.ialdN X (pc := 95) (k := 255) (t := 0) (n := 20) (j := r) (by omega) rfl rfl (by omega) (by decide) d_M_change_95 ?_
            refine AW.val (w := .int (nI (ccN σ r + 1))) (congrArg Value.int (m_up_self _ _ _ _)) ?_
            refine AW.iadd X (pc := 96) d_M_change_96 ?_
            refine AW.val (w := .int (nI ((6 * r) + (ccN σ r + 1)))) (congrArg Value.int (nI_add (6 * r) (ccN σ r + 1))) ?_
            refine AW.iload_n X (pc := 97) 2 rfl rfl d_M_change_97 ?_
            refine AW.iastN X (pc := 98) (k := 256) (t := 0) (n := 120) (j := (6 * r) + (ccN σ r + 1)) (x := y) (by omega) rfl rfl (by omega) (by decide) d_M_change_98 ?_
            refine AW.aload_n X (pc := 99) 0 rfl rfl d_M_change_99 ?_
            refine AW.get X (pc := 100) (k := 250) (ci := 5) (j := 10) (v := .ref 257) (by omega) rfl rfl in_M (by decide) wf_M_30 rfl rfl d_M_change_100 ?_
            refine AW.bipush X (pc := 103) (v := 6) (by decide) d_M_change_103 ?_
            refine AW.iload_n X (pc := 105) 1 rfl rfl d_M_change_105 ?_
            refine AW.imul X (pc := 106) d_M_change_106 ?_
            refine AW.val (w := .int (nI (6 * r))) (congrArg Value.int (pk_mul 6 r)) ?_
            refine AW.aload_n X (pc := 107) 0 rfl rfl d_M_change_107 ?_
            refine AW.get X (pc := 108) (k := 250) (ci := 5) (j := 8) (v := .ref 255) (by omega) rfl rfl in_M (by decide) wf_M_24 rfl rfl d_M_change_108 ?_
            refine AW.iload_n X (pc := 111) 1 rfl rfl d_M_change_111 ?_
            refine AW.ialdN X (pc := 112) (k := 255) (t := 0) (n := 20) (j := r) (by omega) rfl rfl (by omega) (by decide) d_M_change_112 ?_
            refine AW.val (w := .int (nI (ccN σ r + 1))) (congrArg Value.int ((congrFun (m_up_row (by decide)) _).trans (m_up_self _ _ _ _))) ?_
            refine AW.iadd X (pc := 113) d_M_change_113 ?_
            refine AW.val (w := .int (nI ((6 * r) + (ccN σ r + 1)))) (congrArg Value.int (nI_add (6 * r) (ccN σ r + 1))) ?_
            refine AW.iload_n X (pc := 114) 3 rfl rfl d_M_change_114 ?_
            refine AW.iastN X (pc := 115) (k := 257) (t := 0) (n := 120) (j := (6 * r) + (ccN σ r + 1)) (x := d) (by omega) rfl rfl (by omega) (by decide) d_M_change_115 ?_
            refine AW.iconst X (pc := 116) (v := 1) (by decide) d_M_change_116 ?_
            exact hret 117 _ _ _ d_M_change_117 (by rw [show G_change σ μ nr (nI r) y d = (1, (m_up (m_up (m_up (m_up μ 250 0 0) 255 r (nI ((ccN σ r) + 1))) 256 ((6 * r) + (ccN σ r + 1)) y) 257 ((6 * r) + (ccN σ r + 1)) d)) by first | (simp [G_change, hR, hcr, c_10, c_23, c_30, c_53, c_66]; done) | simp +contextual [G_change, hR, hcr, c_10, c_23, c_30, c_53, c_66]]; exact ⟨rfl, rfl⟩)
          · rw [i_eq (nI_toInt (show ccN σ r < 2 ^ 31 by omega)) (show (5 : Int32).toInt = 5 by decide)] at c_66
            have c_66 : ccN σ r = 5 := by omega
            have c_53b : μ 257 (6 * r + 5) < d := by rw [← c_66]; exact c_53
            refine AW.bipush X (pc := 69) (v := -4) (by decide) d_M_change_69 ?_
            exact hret 71 _ _ _ d_M_change_71 (by rw [show G_change σ μ nr (nI r) y d = (-4, (m_up μ 250 0 0)) by first | (simp [G_change, hR, hcr, c_10, c_23, c_30, c_53, c_66, c_53b]; done) | simp +contextual [G_change, hR, hcr, c_10, c_23, c_30, c_53, c_66, c_53b]]; exact ⟨rfl, rfl⟩)
        · refine AW.bipush X (pc := 56) (v := -3) (by decide) d_M_change_56 ?_
          exact hret 58 _ _ _ d_M_change_58 (by rw [show G_change σ μ nr (nI r) y d = (-3, (m_up μ 250 0 0)) by first | (simp [G_change, hR, hcr, c_10, c_23, c_30, c_53]; done) | simp +contextual [G_change, hR, hcr, c_10, c_23, c_30, c_53]]; exact ⟨rfl, rfl⟩)
      · have c_30 := bi_eq.mp c_30
        refine AW.bipush X (pc := 33) (v := -2) (by decide) d_M_change_33 ?_
        exact hret 35 _ _ _ d_M_change_35 (by rw [show G_change σ μ nr (nI r) y d = (-2, (m_up μ 250 0 0)) by first | (simp [G_change, hR, hcr, c_10, c_23, c_30]; done) | simp +contextual [G_change, hR, hcr, c_10, c_23, c_30]]; exact ⟨rfl, rfl⟩)
set_option maxHeartbeats 4000000 in
set_option maxRecDepth 100000 in
theorem c_M_breaks (K : KTy) (σ : Mu) (nr : Nat) (x : Int32) (b : Bool) (μ : Mu) (hN : 272 ≤ KN K) (hI : CI σ nr) (hM : MR σ μ nr) (hV : VR σ nr) : CT K y_M_breaks (k_M_breaks :: GT) 2 [.ref 250, .int x, .int (bi b)] μ (fun v μ2 => v = some (.int (bi (G_breaks σ μ nr x b).1)) ∧ μ2 = (G_breaks σ μ nr x b).2) := by
  refine CT.bool (cc := b_M_breaks) (maxL := 4) (by decide) rfl rfl (Nat.le_of_ble_eq_true rfl) ?_
  intro G ad N hK X hret
  subst hK
  have hN : 272 ≤ N := hN
  have hnr := hI.nr
  have hM0 := (hM.thr 0).1
  have hMr := hM.thr 0
  show AW G (rmD 2) 4 (0, 0, ad, N, fb) 0 [(0, .ref 250), (1, .int x), (2, .int (bi b))] [] μ
  cases hR : okR nr x with
  | false =>
    refine AW.aload_n X (pc := 0) 0 rfl rfl d_M_breaks_0 ?_
    refine AW.iconst X (pc := 1) (v := 0) (by decide) d_M_breaks_1 ?_
    refine AW.put X (pc := 2) (k := 250) (ci := 5) (j := 0) (x := 0) (ty := .int) ft_M (by omega) rfl rfl in_M ft_M_ok n_M (by decide) wf_M_72 rfl rfl rfl rfl rfl d_M_breaks_2 ?_
    refine AW.aload_n X (pc := 5) 0 rfl rfl d_M_breaks_5 ?_
    refine AW.iload_n X (pc := 6) 1 rfl rfl d_M_breaks_6 ?_
    refine AW.callV X (pc := 7) (b := 250) (ci := 5) (nA := 1) [.int x] [] (c_M_isRule (kOf G ad N) nr x (m_up μ 250 0 0) hN hnr hM0.ru) (gv_V wm_M_142 wi_M_isRule wl_M_isRule wn_M kw_M_isRule) rfl (by decide +kernel) rfl (by omega) rfl rfl ⟨Nat.le_of_ble_eq_true rfl, Nat.le_of_ble_eq_true rfl⟩ ⟨Nat.zero_le _, Nat.zero_le _⟩ (Nat.le_of_ble_eq_true rfl) d_M_breaks_7 rfl (fun v μ2 hq => ?_)
    obtain ⟨rfl, hm⟩ := hq
    rw [hm]
    clear hm
    show AW G (rmD 2) 4 (0, 0, ad, N, fb) 10 [(0, .ref 250), (1, .int x), (2, .int (bi b))] [.int (bi (okR nr x))] (m_up μ 250 0 0)
    refine AW.if_eq X (pc := 10) 26 d_M_breaks_10 (by decide) (fun c_10 => ?_) (fun c_10 => absurd c_10 (by rw [hR]; decide))
    refine AW.iconst X (pc := 26) (v := 0) (by decide) d_M_breaks_26 ?_
    refine AW.istore_n X (pc := 27) (lv2 := [(3, .int 0), (0, .ref 250), (1, .int x), (2, .int (bi b))]) rfl d_M_breaks_27 (by decide) rfl ?_
    refine AW.aload_n X (pc := 28) 1 rfl rfl d_M_breaks_28 ?_
    refine AW.iload_n X (pc := 29) 2 rfl rfl d_M_breaks_29 ?_
    refine AW.callV X (pc := 30) (b := 250) (ci := 5) (nA := 1) [.int x] [] (c_M_isRule (kOf G ad N) nr x (m_up μ 250 0 0) hN hnr hM0.ru) (gv_V wm_M_142 wi_M_isRule wl_M_isRule wn_M kw_M_isRule) rfl (by decide +kernel) rfl (by omega) rfl rfl ⟨Nat.le_of_ble_eq_true rfl, Nat.le_of_ble_eq_true rfl⟩ ⟨Nat.zero_le _, Nat.zero_le _⟩ (Nat.le_of_ble_eq_true rfl) d_M_breaks_30 rfl (fun v μ2 hq => ?_)
    obtain ⟨rfl, hm⟩ := hq
    rw [hm]
    clear hm
    show AW G (rmD 2) 4 (0, 0, ad, N, fb) 33 [(3, .int 0), (0, .ref 250), (1, .int x), (2, .int (bi b))] [.int (bi (okR nr x))] (m_up μ 250 0 0)
    refine AW.if_eq X (pc := 33) 43 d_M_breaks_33 (by decide) (fun c_33 => ?_) (fun c_33 => absurd c_33 (by rw [hR]; decide))
    refine AW.iload_n X (pc := 43) 0 rfl rfl d_M_breaks_43 ?_
    exact hret 44 _ _ _ d_M_breaks_44 rfl ⟨by simp [G_breaks, bi, hR], by simp [G_breaks, bi, hR]⟩
  | true =>
    obtain ⟨r, hr, rfl⟩ := okR_of hnr hR
    have hcr : (nI r).toNatClampNeg = r := nI_clamp (by omega)
    have hcc := (hI.cc hr).2
    show AW G (rmD 2) 4 (0, 0, ad, N, fb) 0 [(0, .ref 250), (1, .int (nI r)), (2, .int (bi b))] [] μ
    refine AW.aload_n X (pc := 0) 0 rfl rfl d_M_breaks_0 ?_
    refine AW.iconst X (pc := 1) (v := 0) (by decide) d_M_breaks_1 ?_
    refine AW.put X (pc := 2) (k := 250) (ci := 5) (j := 0) (x := 0) (ty := .int) ft_M (by omega) rfl rfl in_M ft_M_ok n_M (by decide) wf_M_72 rfl rfl rfl rfl rfl d_M_breaks_2 ?_
    refine AW.aload_n X (pc := 5) 0 rfl rfl d_M_breaks_5 ?_
    refine AW.iload_n X (pc := 6) 1 rfl rfl d_M_breaks_6 ?_
    refine AW.callV X (pc := 7) (b := 250) (ci := 5) (nA := 1) [.int (nI r)] [] (c_M_isRule (kOf G ad N) nr (nI r) (m_up μ 250 0 0) hN hnr hM0.ru) (gv_V wm_M_142 wi_M_isRule wl_M_isRule wn_M kw_M_isRule) rfl (by decide +kernel) rfl (by omega) rfl rfl ⟨Nat.le_of_ble_eq_true rfl, Nat.le_of_ble_eq_true rfl⟩ ⟨Nat.zero_le _, Nat.zero_le _⟩ (Nat.le_of_ble_eq_true rfl) d_M_breaks_7 rfl (fun v μ2 hq => ?_)
    obtain ⟨rfl, hm⟩ := hq
    rw [hm]
    clear hm
    show AW G (rmD 2) 4 (0, 0, ad, N, fb) 10 [(0, .ref 250), (1, .int (nI r)), (2, .int (bi b))] [.int (bi (okR nr (nI r)))] (m_up μ 250 0 0)
    refine AW.if_eq X (pc := 10) 26 d_M_breaks_10 (by decide) (fun c_10 => absurd c_10 (by rw [hR]; decide)) (fun c_10 => ?_)
    refine AW.aload_n X (pc := 13) 0 rfl rfl d_M_breaks_13 ?_
    refine AW.get X (pc := 14) (k := 250) (ci := 5) (j := 7) (v := .ref 254) (by omega) rfl rfl in_M (by decide) wf_M_20 rfl rfl d_M_breaks_14 ?_
    refine AW.iload_n X (pc := 17) 1 rfl rfl d_M_breaks_17 ?_
    refine AW.zaldN X (pc := 18) (k := 254) (t := 5) (n := 20) (j := r) (by omega) rfl rfl (by omega) (by decide) d_M_breaks_18 ?_
    refine AW.val (w := .int (bi (brB σ r))) (congrArg Value.int (hM0.bk hr)) ?_
    refine AW.if_eq X (pc := 19) 26 d_M_breaks_19 (by decide) (fun c_19 => ?_) (fun c_19 => ?_)
    · have c_19 := bi_eq.mp c_19
      refine AW.iconst X (pc := 26) (v := 0) (by decide) d_M_breaks_26 ?_
      refine AW.istore_n X (pc := 27) (lv2 := [(3, .int 0), (0, .ref 250), (1, .int (nI r)), (2, .int (bi b))]) rfl d_M_breaks_27 (by decide) rfl ?_
      refine AW.aload_n X (pc := 28) 1 rfl rfl d_M_breaks_28 ?_
      refine AW.iload_n X (pc := 29) 2 rfl rfl d_M_breaks_29 ?_
      refine AW.callV X (pc := 30) (b := 250) (ci := 5) (nA := 1) [.int (nI r)] [] (c_M_isRule (kOf G ad N) nr (nI r) (m_up μ 250 0 0) hN hnr hM0.ru) (gv_V wm_M_142 wi_M_isRule wl_M_isRule wn_M kw_M_isRule) rfl (by decide +kernel) rfl (by omega) rfl rfl ⟨Nat.le_of_ble_eq_true rfl, Nat.le_of_ble_eq_true rfl⟩ ⟨Nat.zero_le _, Nat.zero_le _⟩ (Nat.le_of_ble_eq_true rfl) d_M_breaks_30 rfl (fun v μ2 hq => ?_)
      obtain ⟨rfl, hm⟩ := hq
      rw [hm]
      clear hm
      show AW G (rmD 2) 4 (0, 0, ad, N, fb) 33 [(3, .int 0), (0, .ref 250), (1, .int (nI r)), (2, .int (bi b))] [.int (bi (okR nr (nI r)))] (m_up μ 250 0 0)
      refine AW.if_eq X (pc := 33) 43 d_M_breaks_33 (by decide) (fun c_33 => absurd c_33 (by rw [hR]; decide)) (fun c_33 => ?_)
      refine AW.aload_n X (pc := 36) 1 rfl rfl d_M_breaks_36 ?_
      refine AW.get X (pc := 37) (k := 250) (ci := 5) (j := 7) (v := .ref 254) (by omega) rfl rfl in_M (by decide) wf_M_20 rfl rfl d_M_breaks_37 ?_
      refine AW.iload_n X (pc := 40) 2 rfl rfl d_M_breaks_40 ?_
      refine AW.iload_n X (pc := 41) 3 rfl rfl d_M_breaks_41 ?_
      refine AW.zastN X (pc := 42) (k := 254) (t := 5) (n := 20) (j := r) (x := bi b) (by omega) rfl rfl (by omega) (by decide) (by cases b <;> rfl) d_M_breaks_42 ?_
      refine AW.iload_n X (pc := 43) 0 rfl rfl d_M_breaks_43 ?_
      exact hret 44 _ _ _ d_M_breaks_44 rfl ⟨by simp [G_breaks, bi, hR, hcr, c_19], by simp [G_breaks, bi, hR, hcr, c_19]⟩
    · have c_19 := bi_ne.mp c_19
      refine AW.iconst X (pc := 22) (v := 1) (by decide) d_M_breaks_22 ?_
      refine AW.goto X (pc := 23) 27 d_M_breaks_23 (by decide) ?_
      refine AW.istore_n X (pc := 27) (lv2 := [(3, .int 1), (0, .ref 250), (1, .int (nI r)), (2, .int (bi b))]) rfl d_M_breaks_27 (by decide) rfl ?_
      refine AW.aload_n X (pc := 28) 1 rfl rfl d_M_breaks_28 ?_
      refine AW.iload_n X (pc := 29) 2 rfl rfl d_M_breaks_29 ?_
      refine AW.callV X (pc := 30) (b := 250) (ci := 5) (nA := 1) [.int (nI r)] [] (c_M_isRule (kOf G ad N) nr (nI r) (m_up μ 250 0 0) hN hnr hM0.ru) (gv_V wm_M_142 wi_M_isRule wl_M_isRule wn_M kw_M_isRule) rfl (by decide +kernel) rfl (by omega) rfl rfl ⟨Nat.le_of_ble_eq_true rfl, Nat.le_of_ble_eq_true rfl⟩ ⟨Nat.zero_le _, Nat.zero_le _⟩ (Nat.le_of_ble_eq_true rfl) d_M_breaks_30 rfl (fun v μ2 hq => ?_)
      obtain ⟨rfl, hm⟩ := hq
      rw [hm]
      clear hm
      show AW G (rmD 2) 4 (0, 0, ad, N, fb) 33 [(3, .int 1), (0, .ref 250), (1, .int (nI r)), (2, .int (bi b))] [.int (bi (okR nr (nI r)))] (m_up μ 250 0 0)
      refine AW.if_eq X (pc := 33) 43 d_M_breaks_33 (by decide) (fun c_33 => absurd c_33 (by rw [hR]; decide)) (fun c_33 => ?_)
      refine AW.aload_n X (pc := 36) 1 rfl rfl d_M_breaks_36 ?_
      refine AW.get X (pc := 37) (k := 250) (ci := 5) (j := 7) (v := .ref 254) (by omega) rfl rfl in_M (by decide) wf_M_20 rfl rfl d_M_breaks_37 ?_
      refine AW.iload_n X (pc := 40) 2 rfl rfl d_M_breaks_40 ?_
      refine AW.iload_n X (pc := 41) 3 rfl rfl d_M_breaks_41 ?_
      refine AW.zastN X (pc := 42) (k := 254) (t := 5) (n := 20) (j := r) (x := bi b) (by omega) rfl rfl (by omega) (by decide) (by cases b <;> rfl) d_M_breaks_42 ?_
      refine AW.iload_n X (pc := 43) 0 rfl rfl d_M_breaks_43 ?_
      exact hret 44 _ _ _ d_M_breaks_44 rfl ⟨by simp [G_breaks, bi, hR, hcr, c_19], by simp [G_breaks, bi, hR, hcr, c_19]⟩
