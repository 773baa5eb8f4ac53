set_option maxHeartbeats 4000000 in
set_option maxRecDepth 100000 in
theorem c_M_schedule (K : KTy) (σ : Mu) (nr : Nat) (u x : Int32) (μ : Mu) (hN : 272 ≤ KN K) (hI : CI σ nr) (hM : MR σ μ nr) (hV : VR σ nr) : CT K y_M_schedule (k_M_schedule :: GT) 2 [.ref 250, .int u, .int x] μ (fun v μ2 => v = some (.int (G_schedule σ μ nr u x).1) ∧ μ2 = (G_schedule σ μ nr u x).2) := by
  refine CT.int (cc := b_M_schedule) (maxL := 5) (by decide) rfl rfl (Nat.le_of_ble_eq_true rfl) ?_
  intro G ad N hK X hret
  subst hK
  have hN : 272 ≤ N := hN
  have hnr := hI.nr
  have hM0 := (hM.thr 0).1
  have hMr := hM.thr 0
  show AW G (rmD 2) 5 (0, 0, ad, N, fb) 0 [(0, .ref 250), (1, .int u), (2, .int x)] [] μ
  cases hU : okU u with
  | false =>
    refine AW.aload_n X (pc := 0) 0 rfl rfl d_M_schedule_0 ?_
    refine AW.iconst X (pc := 1) (v := 0) (by decide) d_M_schedule_1 ?_
    refine AW.put X (pc := 2) (k := 250) (ci := 5) (j := 0) (x := 0) (ty := .int) ft_M (by omega) rfl rfl in_M ft_M_ok n_M (by decide) wf_M_72 rfl rfl rfl rfl rfl d_M_schedule_2 ?_
    refine AW.iload_n X (pc := 5) 1 rfl rfl d_M_schedule_5 ?_
    refine AW.callS X (pc := 6) (nA := 1) [.int u] [] (c_M_isUnit (kOf G ad N) u (m_up μ 250 0 0) hN) (gv_S wm_M_149 ws_M_isUnit wn_M kw_M_isUnit) rfl (by decide +kernel) rfl ⟨Nat.le_of_ble_eq_true rfl, Nat.le_of_ble_eq_true rfl⟩ ⟨Nat.zero_le _, Nat.zero_le _⟩ (Nat.le_of_ble_eq_true rfl) d_M_schedule_6 rfl (fun v μ2 hq => ?_)
    obtain ⟨rfl, hm⟩ := hq
    rw [hm]
    clear hm
    show AW G (rmD 2) 5 (0, 0, ad, N, fb) 9 [(0, .ref 250), (1, .int u), (2, .int x)] [.int (bi (okU u))] (m_up μ 250 0 0)
    refine AW.if_eq X (pc := 9) 20 d_M_schedule_9 (by decide) (fun c_9 => ?_) (fun c_9 => absurd c_9 (by rw [hU]; decide))
    refine AW.iconst X (pc := 20) (v := -1) (by decide) d_M_schedule_20 ?_
    exact hret 21 _ _ _ d_M_schedule_21 (by rw [show G_schedule σ μ nr u x = (-1, (m_up μ 250 0 0)) by simp [G_schedule, hU]]; exact ⟨rfl, rfl⟩)
  | true =>
    obtain ⟨i, hi, rfl⟩ := okU_of hU
    have hci : (nI i).toNatClampNeg = i := nI_clamp (by omega)
    have hrn := (hI.rn hi).2
    cases hR : okR nr x with
    | false =>
      show AW G (rmD 2) 5 (0, 0, ad, N, fb) 0 [(0, .ref 250), (1, .int (nI i)), (2, .int x)] [] μ
      refine AW.aload_n X (pc := 0) 0 rfl rfl d_M_schedule_0 ?_
      refine AW.iconst X (pc := 1) (v := 0) (by decide) d_M_schedule_1 ?_
      refine AW.put X (pc := 2) (k := 250) (ci := 5) (j := 0) (x := 0) (ty := .int) ft_M (by omega) rfl rfl in_M ft_M_ok n_M (by decide) wf_M_72 rfl rfl rfl rfl rfl d_M_schedule_2 ?_
      refine AW.iload_n X (pc := 5) 1 rfl rfl d_M_schedule_5 ?_
      refine AW.callS X (pc := 6) (nA := 1) [.int (nI i)] [] (c_M_isUnit (kOf G ad N) (nI i) (m_up μ 250 0 0) hN) (gv_S wm_M_149 ws_M_isUnit wn_M kw_M_isUnit) rfl (by decide +kernel) rfl ⟨Nat.le_of_ble_eq_true rfl, Nat.le_of_ble_eq_true rfl⟩ ⟨Nat.zero_le _, Nat.zero_le _⟩ (Nat.le_of_ble_eq_true rfl) d_M_schedule_6 rfl (fun v μ2 hq => ?_)
      obtain ⟨rfl, hm⟩ := hq
      rw [hm]
      clear hm
      show AW G (rmD 2) 5 (0, 0, ad, N, fb) 9 [(0, .ref 250), (1, .int (nI i)), (2, .int x)] [.int (bi (okU (nI i)))] (m_up μ 250 0 0)
      refine AW.if_eq X (pc := 9) 20 d_M_schedule_9 (by decide) (fun c_9 => absurd c_9 (by rw [hU]; decide)) (fun c_9 => ?_)
      refine AW.aload_n X (pc := 12) 0 rfl rfl d_M_schedule_12 ?_
      refine AW.iload_n X (pc := 13) 2 rfl rfl d_M_schedule_13 ?_
      refine AW.callV X (pc := 14) (b := 250) (ci := 5) (nA := 1) [.int x] [] (c_M_isRule (kOf G ad N) nr x (m_up μ 250 0 0) hN hnr hM0.ru) (gv_V wm_M_142 wi_M_isRule wl_M_isRule wn_M kw_M_isRule) rfl (by decide +kernel) rfl (by omega) rfl rfl ⟨Nat.le_of_ble_eq_true rfl, Nat.le_of_ble_eq_true rfl⟩ ⟨Nat.zero_le _, Nat.zero_le _⟩ (Nat.le_of_ble_eq_true rfl) d_M_schedule_14 rfl (fun v μ2 hq => ?_)
      obtain ⟨rfl, hm⟩ := hq
      rw [hm]
      clear hm
      show AW G (rmD 2) 5 (0, 0, ad, N, fb) 17 [(0, .ref 250), (1, .int (nI i)), (2, .int x)] [.int (bi (okR nr x))] (m_up μ 250 0 0)
      refine AW.if_ne X (pc := 17) 22 d_M_schedule_17 (by decide) (fun c_17 => absurd c_17 (by rw [hR]; decide)) (fun c_17 => ?_)
      refine AW.iconst X (pc := 20) (v := -1) (by decide) d_M_schedule_20 ?_
      exact hret 21 _ _ _ d_M_schedule_21 (by rw [show G_schedule σ μ nr (nI i) x = (-1, (m_up μ 250 0 0)) by simp [G_schedule, hU, hci, hR]]; exact ⟨rfl, rfl⟩)
    | true =>
      obtain ⟨r, hr, rfl⟩ := okR_of hnr hR
      have hcr : (nI r).toNatClampNeg = r := nI_clamp (by omega)
      have key : ∀ (n j : Nat) (x y : Int32) (b : Bool), rnN σ i - j < n → j ≤ rnN σ i → x = nI j → y = bi b → b = (decide (¬ σ (5 + 4 * i) 7 < 0) || anyB (fun j => decide (rwN σ i j = r)) j) → AW G (rmD 2) 5 (0, 0, ad, N, fb) 40 [(4, .int x), (3, .int y), (0, .ref 250), (1, .int (nI i)), (2, .int (nI r))] [] (m_up μ 250 0 0) := by
        intro n
        induction n with
        | zero =>
          intro j x y b hlt
          exact absurd hlt (Nat.not_lt_zero _)
        | succ n ih =>
          intro j x y b hlt hj ex ey hb
          subst ex
          subst ey
          refine AW.iload X (pc := 40) 0 rfl d_M_schedule_40 ?_
          refine AW.aload_n X (pc := 42) 2 rfl rfl d_M_schedule_42 ?_
          refine AW.get X (pc := 43) (k := 250) (ci := 5) (j := 13) (v := .ref 260) (by omega) rfl rfl in_M (by decide) wf_M_39 rfl rfl d_M_schedule_43 ?_
          refine AW.iload_n X (pc := 46) 3 rfl rfl d_M_schedule_46 ?_
          refine AW.ialdN X (pc := 47) (k := 260) (t := 0) (n := 60) (j := i) (by omega) rfl rfl (by omega) (by decide) d_M_schedule_47 ?_
          refine AW.val (w := .int (nI (rnN σ i))) (congrArg Value.int (hM0.sc hi)) ?_
          refine AW.icmp_ge X (pc := 48) 82 d_M_schedule_48 (by decide) (fun c_48 => ?_) (fun c_48 => ?_)
          · rw [i_le (nI_toInt (show rnN σ i < 2 ^ 31 by omega)) (nI_toInt (show j < 2 ^ 31 by omega))] at c_48
            have hjr : rnN σ i = j := by omega
            refine AW.iload_n X (pc := 82) 1 rfl rfl d_M_schedule_82 ?_
            refine AW.if_eq X (pc := 83) 89 d_M_schedule_83 (by decide) (fun c_83 => ?_) (fun c_83 => ?_)
            · have c_83 := bi_eq.mp c_83
              have hB : ¬ (¬ σ (5 + 4 * i) 7 < 0 ∨ anyB (fun j => decide (rwN σ i j = r)) (rnN σ i) = true) := by
                intro q
                rw [hb] at c_83
                rw [hjr] at q
                simp only [Bool.or_eq_false_iff, decide_eq_false_iff_not] at c_83
                rcases q with q | q
                · exact c_83.1 q
                · rw [c_83.2] at q; cases q
              refine AW.aload_n X (pc := 89) 2 rfl rfl d_M_schedule_89 ?_
              refine AW.get X (pc := 90) (k := 250) (ci := 5) (j := 13) (v := .ref 260) (by omega) rfl rfl in_M (by decide) wf_M_39 rfl rfl d_M_schedule_90 ?_
              refine AW.iload_n X (pc := 93) 3 rfl rfl d_M_schedule_93 ?_
              refine AW.ialdN X (pc := 94) (k := 260) (t := 0) (n := 60) (j := i) (by omega) rfl rfl (by omega) (by decide) d_M_schedule_94 ?_
              refine AW.val (w := .int (nI (rnN σ i))) (congrArg Value.int (hM0.sc hi)) ?_
              refine AW.iconst X (pc := 95) (v := 4) (by decide) d_M_schedule_95 ?_
              refine AW.icmp_ne X (pc := 96) 102 d_M_schedule_96 (by decide) (fun c_96 => ?_) (fun c_96 => ?_)
              · rw [i_eq (nI_toInt (show rnN σ i < 2 ^ 31 by omega)) (show (4 : Int32).toInt = 4 by decide)] at c_96
                have c_96 : ¬ rnN σ i = 4 := by omega
                refine AW.aload_n X (pc := 102) 2 rfl rfl d_M_schedule_102 ?_
                refine AW.get X (pc := 103) (k := 250) (ci := 5) (j := 12) (v := .ref 259) (by omega) rfl rfl in_M (by decide) wf_M_36 rfl rfl d_M_schedule_103 ?_
                refine AW.iconst X (pc := 106) (v := 4) (by decide) d_M_schedule_106 ?_
                refine AW.iload_n X (pc := 107) 3 rfl rfl d_M_schedule_107 ?_
                refine AW.imul X (pc := 108) d_M_schedule_108 ?_
                refine AW.val (w := .int (nI (4 * i))) (congrArg Value.int (pk_mul 4 i)) ?_
                refine AW.aload_n X (pc := 109) 2 rfl rfl d_M_schedule_109 ?_
                refine AW.get X (pc := 110) (k := 250) (ci := 5) (j := 13) (v := .ref 260) (by omega) rfl rfl in_M (by decide) wf_M_39 rfl rfl d_M_schedule_110 ?_
                refine AW.iload_n X (pc := 113) 3 rfl rfl d_M_schedule_113 ?_
                refine AW.ialdN X (pc := 114) (k := 260) (t := 0) (n := 60) (j := i) (by omega) rfl rfl (by omega) (by decide) d_M_schedule_114 ?_
                refine AW.val (w := .int (nI (rnN σ i))) (congrArg Value.int (hM0.sc hi)) ?_
                refine AW.iadd X (pc := 115) d_M_schedule_115 ?_
                refine AW.val (w := .int (nI ((4 * i) + (rnN σ i)))) (congrArg Value.int (nI_add (4 * i) (rnN σ i))) ?_
                refine AW.iload_n X (pc := 116) 4 rfl rfl d_M_schedule_116 ?_
                refine AW.iastN X (pc := 117) (k := 259) (t := 0) (n := 240) (j := (4 * i) + (rnN σ i)) (x := nI r) (by omega) rfl rfl (by omega) (by decide) d_M_schedule_117 ?_
                refine AW.aload_n X (pc := 118) 2 rfl rfl d_M_schedule_118 ?_
                refine AW.get X (pc := 119) (k := 250) (ci := 5) (j := 13) (v := .ref 260) (by omega) rfl rfl in_M (by decide) wf_M_39 rfl rfl d_M_schedule_119 ?_
                refine AW.iload_n X (pc := 122) 3 rfl rfl d_M_schedule_122 ?_
                refine AW.dup2 X (pc := 123) rfl rfl d_M_schedule_123 ?_
                refine AW.ialdN X (pc := 124) (k := 260) (t := 0) (n := 60) (j := i) (by omega) rfl rfl (by omega) (by decide) d_M_schedule_124 ?_
                refine AW.val (w := .int (nI (rnN σ i))) (congrArg Value.int ((congrFun (m_up_row (by decide)) _).trans (hM0.sc hi))) ?_
                refine AW.iconst X (pc := 125) (v := 1) (by decide) d_M_schedule_125 ?_
                refine AW.iadd X (pc := 126) d_M_schedule_126 ?_
                refine AW.val (w := .int (nI ((rnN σ i) + 1))) (congrArg Value.int (nI_add (rnN σ i) 1)) ?_
                refine AW.iastN X (pc := 127) (k := 260) (t := 0) (n := 60) (j := i) (x := nI ((rnN σ i) + 1)) (by omega) rfl rfl (by omega) (by decide) d_M_schedule_127 ?_
                refine AW.aload_n X (pc := 128) 2 rfl rfl d_M_schedule_128 ?_
                refine AW.get X (pc := 129) (k := 250) (ci := 5) (j := 16) (v := .ref 263) (by omega) rfl rfl in_M (by decide) wf_M_48 rfl rfl d_M_schedule_129 ?_
                refine AW.iload_n X (pc := 132) 3 rfl rfl d_M_schedule_132 ?_
                refine AW.iconst X (pc := 133) (v := 0) (by decide) d_M_schedule_133 ?_
                refine AW.iastN X (pc := 134) (k := 263) (t := 0) (n := 60) (j := i) (x := 0) (by omega) rfl rfl (by omega) (by decide) d_M_schedule_134 ?_
                refine AW.aload_n X (pc := 135) 2 rfl rfl d_M_schedule_135 ?_
                refine AW.get X (pc := 136) (k := 250) (ci := 5) (j := 13) (v := .ref 260) (by omega) rfl rfl in_M (by decide) wf_M_39 rfl rfl d_M_schedule_136 ?_
                refine AW.iload_n X (pc := 139) 3 rfl rfl d_M_schedule_139 ?_
                refine AW.ialdN X (pc := 140) (k := 260) (t := 0) (n := 60) (j := i) (by omega) rfl rfl (by omega) (by decide) d_M_schedule_140 ?_
                refine AW.val (w := .int (nI (rnN σ i + 1))) (congrArg Value.int ((congrFun (m_up_row (by decide)) _).trans (m_up_self _ _ _ _))) ?_
                exact hret 141 _ _ _ d_M_schedule_141 (by rw [show G_schedule σ μ nr (nI i) (nI r) = (nI (rnN σ i + 1), (m_up (m_up (m_up (m_up μ 250 0 0) 259 ((4 * i) + (rnN σ i)) (nI r)) 260 i (nI ((rnN σ i) + 1))) 263 i 0)) by rw [G_schedule, if_neg (by rw [hU, hR]; decide), hci, hcr, if_neg hB, if_neg c_96]]; exact ⟨rfl, rfl⟩)
              · rw [i_eq (nI_toInt (show rnN σ i < 2 ^ 31 by omega)) (show (4 : Int32).toInt = 4 by decide)] at c_96
                have c_96 : rnN σ i = 4 := by omega
                refine AW.bipush X (pc := 99) (v := -4) (by decide) d_M_schedule_99 ?_
                exact hret 101 _ _ _ d_M_schedule_101 (by rw [show G_schedule σ μ nr (nI i) (nI r) = (-4, (m_up μ 250 0 0)) by rw [G_schedule, if_neg (by rw [hU, hR]; decide), hci, hcr, if_neg hB, if_pos c_96]]; exact ⟨rfl, rfl⟩)
            · have c_83 := bi_ne.mp c_83
              have hB : (¬ σ (5 + 4 * i) 7 < 0 ∨ anyB (fun j => decide (rwN σ i j = r)) (rnN σ i) = true) := by
                rw [hb] at c_83
                rw [hjr]
                simpa only [Bool.or_eq_true, decide_eq_true_eq] using c_83
              refine AW.bipush X (pc := 86) (v := -3) (by decide) d_M_schedule_86 ?_
              exact hret 88 _ _ _ d_M_schedule_88 (by rw [show G_schedule σ μ nr (nI i) (nI r) = (-3, (m_up μ 250 0 0)) by rw [G_schedule, if_neg (by rw [hU, hR]; decide), hci, hcr, if_pos hB]]; exact ⟨rfl, rfl⟩)
          · rw [i_le (nI_toInt (show rnN σ i < 2 ^ 31 by omega)) (nI_toInt (show j < 2 ^ 31 by omega))] at c_48
            have hw := (hI.rw hi (show j < rnN σ i by omega)).2
            refine AW.iload_n X (pc := 51) 1 rfl rfl d_M_schedule_51 ?_
            refine AW.if_ne X (pc := 52) 70 d_M_schedule_52 (by decide) (fun c_52 => ?_) (fun c_52 => ?_)
            · have c_52 := bi_ne.mp c_52
              refine AW.iconst X (pc := 70) (v := 1) (by decide) d_M_schedule_70 ?_
              refine AW.goto X (pc := 71) 75 d_M_schedule_71 (by decide) ?_
              refine AW.istore_n X (pc := 75) (lv2 := [(3, .int 1), (4, .int (nI j)), (0, .ref 250), (1, .int (nI i)), (2, .int (nI r))]) rfl d_M_schedule_75 (by decide) rfl ?_
              refine AW.iinc X (pc := 76) (v := nI (j + 1)) (lv2 := [(4, .int (nI (j + 1))), (3, .int 1), (0, .ref 250), (1, .int (nI i)), (2, .int (nI r))]) 1 rfl (nI_1 _) d_M_schedule_76 (by decide) rfl ?_
              refine AW.goto X (pc := 79) 40 d_M_schedule_79 (by decide) ?_
              refine AW.locs (lv2 := [(4, .int (nI (j + 1))), (3, .int 1), (0, .ref 250), (1, .int (nI i)), (2, .int (nI r))]) [0, 1, 2, 3, 4] rfl ?_
              exact ih (j + 1) _ _ true (by omega) (by omega) rfl rfl (by rw [anyB_succ, ← Bool.or_assoc, ← hb]; simp [c_52])
            · have c_52 := bi_eq.mp c_52
              refine AW.aload_n X (pc := 55) 2 rfl rfl d_M_schedule_55 ?_
              refine AW.get X (pc := 56) (k := 250) (ci := 5) (j := 12) (v := .ref 259) (by omega) rfl rfl in_M (by decide) wf_M_36 rfl rfl d_M_schedule_56 ?_
              refine AW.iconst X (pc := 59) (v := 4) (by decide) d_M_schedule_59 ?_
              refine AW.iload_n X (pc := 60) 3 rfl rfl d_M_schedule_60 ?_
              refine AW.imul X (pc := 61) d_M_schedule_61 ?_
              refine AW.val (w := .int (nI (4 * i))) (congrArg Value.int (pk_mul 4 i)) ?_
              refine AW.iload X (pc := 62) 0 rfl d_M_schedule_62 ?_
              refine AW.iadd X (pc := 64) d_M_schedule_64 ?_
              refine AW.val (w := .int (nI ((4 * i) + j))) (congrArg Value.int (nI_add (4 * i) j)) ?_
              refine AW.ialdN X (pc := 65) (k := 259) (t := 0) (n := 240) (j := (4 * i) + j) (by omega) rfl rfl (by omega) (by decide) d_M_schedule_65 ?_
              refine AW.val (w := .int (nI (rwN σ i j))) (congrArg Value.int (hM0.sd hi (show j < rnN σ i by omega))) ?_
              refine AW.iload_n X (pc := 66) 4 rfl rfl d_M_schedule_66 ?_
              refine AW.icmp_ne X (pc := 67) 74 d_M_schedule_67 (by decide) (fun c_67 => ?_) (fun c_67 => ?_)
              · have c_67 : ¬ rwN σ i j = r := fun q => c_67 (by rw [q])
                refine AW.iconst X (pc := 74) (v := 0) (by decide) d_M_schedule_74 ?_
                refine AW.istore_n X (pc := 75) (lv2 := [(3, .int 0), (4, .int (nI j)), (0, .ref 250), (1, .int (nI i)), (2, .int (nI r))]) rfl d_M_schedule_75 (by decide) rfl ?_
                refine AW.iinc X (pc := 76) (v := nI (j + 1)) (lv2 := [(4, .int (nI (j + 1))), (3, .int 0), (0, .ref 250), (1, .int (nI i)), (2, .int (nI r))]) 1 rfl (nI_1 _) d_M_schedule_76 (by decide) rfl ?_
                refine AW.goto X (pc := 79) 40 d_M_schedule_79 (by decide) ?_
                refine AW.locs (lv2 := [(4, .int (nI (j + 1))), (3, .int 0), (0, .ref 250), (1, .int (nI i)), (2, .int (nI r))]) [0, 1, 2, 3, 4] rfl ?_
                exact ih (j + 1) _ _ false (by omega) (by omega) rfl rfl (by rw [anyB_succ, ← Bool.or_assoc, ← hb]; simp [c_52, c_67])
              · have c_67 : rwN σ i j = r := (nI_eq (by omega) (by omega)).mp c_67
                refine AW.iconst X (pc := 70) (v := 1) (by decide) d_M_schedule_70 ?_
                refine AW.goto X (pc := 71) 75 d_M_schedule_71 (by decide) ?_
                refine AW.istore_n X (pc := 75) (lv2 := [(3, .int 1), (4, .int (nI j)), (0, .ref 250), (1, .int (nI i)), (2, .int (nI r))]) rfl d_M_schedule_75 (by decide) rfl ?_
                refine AW.iinc X (pc := 76) (v := nI (j + 1)) (lv2 := [(4, .int (nI (j + 1))), (3, .int 1), (0, .ref 250), (1, .int (nI i)), (2, .int (nI r))]) 1 rfl (nI_1 _) d_M_schedule_76 (by decide) rfl ?_
                refine AW.goto X (pc := 79) 40 d_M_schedule_79 (by decide) ?_
                refine AW.locs (lv2 := [(4, .int (nI (j + 1))), (3, .int 1), (0, .ref 250), (1, .int (nI i)), (2, .int (nI r))]) [0, 1, 2, 3, 4] rfl ?_
                exact ih (j + 1) _ _ true (by omega) (by omega) rfl rfl (by rw [anyB_succ, ← Bool.or_assoc, ← hb]; simp [c_52, c_67])
      show AW G (rmD 2) 5 (0, 0, ad, N, fb) 0 [(0, .ref 250), (1, .int (nI i)), (2, .int (nI r))] [] μ
      refine AW.aload_n X (pc := 0) 0 rfl rfl d_M_schedule_0 ?_
      refine AW.iconst X (pc := 1) (v := 0) (by decide) d_M_schedule_1 ?_
      refine AW.put X (pc := 2) (k := 250) (ci := 5) (j := 0) (x := 0) (ty := .int) ft_M (by omega) rfl rfl in_M ft_M_ok n_M (by decide) wf_M_72 rfl rfl rfl rfl rfl d_M_schedule_2 ?_
      refine AW.iload_n X (pc := 5) 1 rfl rfl d_M_schedule_5 ?_
      refine AW.callS X (pc := 6) (nA := 1) [.int (nI i)] [] (c_M_isUnit (kOf G ad N) (nI i) (m_up μ 250 0 0) hN) (gv_S wm_M_149 ws_M_isUnit wn_M kw_M_isUnit) rfl (by decide +kernel) rfl ⟨Nat.le_of_ble_eq_true rfl, Nat.le_of_ble_eq_true rfl⟩ ⟨Nat.zero_le _, Nat.zero_le _⟩ (Nat.le_of_ble_eq_true rfl) d_M_schedule_6 rfl (fun v μ2 hq => ?_)
      obtain ⟨rfl, hm⟩ := hq
      rw [hm]
      clear hm
      show AW G (rmD 2) 5 (0, 0, ad, N, fb) 9 [(0, .ref 250), (1, .int (nI i)), (2, .int (nI r))] [.int (bi (okU (nI i)))] (m_up μ 250 0 0)
      refine AW.if_eq X (pc := 9) 20 d_M_schedule_9 (by decide) (fun c_9 => absurd c_9 (by rw [hU]; decide)) (fun c_9 => ?_)
      refine AW.aload_n X (pc := 12) 0 rfl rfl d_M_schedule_12 ?_
      refine AW.iload_n X (pc := 13) 2 rfl rfl d_M_schedule_13 ?_
      refine AW.callV X (pc := 14) (b := 250) (ci := 5) (nA := 1) [.int (nI r)] [] (c_M_isRule (kOf G ad N) nr (nI r) (m_up μ 250 0 0) hN hnr hM0.ru) (gv_V wm_M_142 wi_M_isRule wl_M_isRule wn_M kw_M_isRule) rfl (by decide +kernel) rfl (by omega) rfl rfl ⟨Nat.le_of_ble_eq_true rfl, Nat.le_of_ble_eq_true rfl⟩ ⟨Nat.zero_le _, Nat.zero_le _⟩ (Nat.le_of_ble_eq_true rfl) d_M_schedule_14 rfl (fun v μ2 hq => ?_)
      obtain ⟨rfl, hm⟩ := hq
      rw [hm]
      clear hm
      show AW G (rmD 2) 5 (0, 0, ad, N, fb) 17 [(0, .ref 250), (1, .int (nI i)), (2, .int (nI r))] [.int (bi (okR nr (nI r)))] (m_up μ 250 0 0)
      refine AW.if_ne X (pc := 17) 22 d_M_schedule_17 (by decide) (fun c_17 => ?_) (fun c_17 => absurd c_17 (by rw [hR]; decide))
      refine AW.aload_n X (pc := 22) 0 rfl rfl d_M_schedule_22 ?_
      refine AW.get X (pc := 23) (k := 250) (ci := 5) (j := 18) (v := .ref 265) (by omega) rfl rfl in_M (by decide) wf_M_54 rfl rfl d_M_schedule_23 ?_
      refine AW.iload_n X (pc := 26) 1 rfl rfl d_M_schedule_26 ?_
      refine AW.ialdN X (pc := 27) (k := 265) (t := 0) (n := 60) (j := i) (by omega) rfl rfl (by omega) (by decide) d_M_schedule_27 ?_
      refine AW.val (w := .int (σ (5 + 4 * i) 7)) (congrArg Value.int (hM0.dp hi)) ?_
      refine AW.if_lt X (pc := 28) 35 d_M_schedule_28 (by decide) (fun c_28 => ?_) (fun c_28 => ?_)
      · refine AW.iconst X (pc := 35) (v := 0) (by decide) d_M_schedule_35 ?_
        refine AW.istore_n X (pc := 36) (lv2 := [(3, .int 0), (0, .ref 250), (1, .int (nI i)), (2, .int (nI r))]) rfl d_M_schedule_36 (by decide) rfl ?_
        refine AW.iconst X (pc := 37) (v := 0) (by decide) d_M_schedule_37 ?_
        refine AW.istore X (pc := 38) (lv2 := [(4, .int 0), (3, .int 0), (0, .ref 250), (1, .int (nI i)), (2, .int (nI r))]) d_M_schedule_38 (by decide) rfl ?_
        exact key (rnN σ i + 1) 0 _ _ false (by omega) (Nat.zero_le _) nI_0.symm rfl (by simp [anyB, c_28])
      · refine AW.iconst X (pc := 31) (v := 1) (by decide) d_M_schedule_31 ?_
        refine AW.goto X (pc := 32) 36 d_M_schedule_32 (by decide) ?_
        refine AW.istore_n X (pc := 36) (lv2 := [(3, .int 1), (0, .ref 250), (1, .int (nI i)), (2, .int (nI r))]) rfl d_M_schedule_36 (by decide) rfl ?_
        refine AW.iconst X (pc := 37) (v := 0) (by decide) d_M_schedule_37 ?_
        refine AW.istore X (pc := 38) (lv2 := [(4, .int 0), (3, .int 1), (0, .ref 250), (1, .int (nI i)), (2, .int (nI r))]) d_M_schedule_38 (by decide) rfl ?_
        exact key (rnN σ i + 1) 0 _ _ true (by omega) (Nat.zero_le _) nI_0.symm rfl (by simp [anyB, c_28])
set_option maxHeartbeats 4000000 in
set_option maxRecDepth 100000 in
theorem c_M_against (K : KTy) (σ : Mu) (i nr : Nat) (how dd : Int32) (μ : Mu) (hN : 272 ≤ KN K) (hi : i < 60) (hI : CI σ nr) (hM : MR σ μ nr) (hV : VR σ nr) : CT K y_M_against (k_M_against :: GT) 4 [.ref 250, .int (nI i), .int how, .int dd] μ (fun v μ2 => v = some (.int (g_against σ i how dd)) ∧ μ2 = μ) := by
  refine CT.int (cc := b_M_against) (maxL := 4) (by decide) rfl rfl (Nat.le_of_ble_eq_true rfl) ?_
  intro G ad N hK X hret
  subst hK
  have hN : 272 ≤ N := hN
  have hnr := hI.nr
  have hrn := (hI.rn hi).2
  have hdn := hI.dn.2
  show AW G (rmD 4) 4 (0, 0, ad, N, fb) 0 [(0, .ref 250), (1, .int (nI i)), (2, .int how), (3, .int dd)] [] μ
  refine AW.aload_n X (pc := 0) 0 rfl rfl d_M_against_0 ?_
  refine AW.get X (pc := 1) (k := 250) (ci := 5) (j := 18) (v := .ref 265) (by omega) rfl rfl in_M (by decide) wf_M_54 rfl rfl d_M_against_1 ?_
  refine AW.iload_n X (pc := 4) 1 rfl rfl d_M_against_4 ?_
  refine AW.ialdN X (pc := 5) (k := 265) (t := 0) (n := 60) (j := i) (by omega) rfl rfl (by omega) (by decide) d_M_against_5 ?_
  refine AW.val (w := .int (σ (5 + 4 * i) 7)) (congrArg Value.int (hM.1.dp hi)) ?_
  refine AW.if_lt X (pc := 6) 11 d_M_against_6 (by decide) (fun c_6 => ?_) (fun c_6 => ?_)
  · refine AW.aload_n X (pc := 11) 0 rfl rfl d_M_against_11 ?_
    refine AW.get X (pc := 12) (k := 250) (ci := 5) (j := 20) (v := .int (μ 250 20)) (by omega) rfl rfl in_M (by decide) wf_M_176 rfl rfl d_M_against_12 ?_
    refine AW.val (w := .int (nI (dnN σ))) (congrArg Value.int (hM.go)) ?_
    refine AW.if_le X (pc := 15) 39 d_M_against_15 (by decide) (fun c_15 => ?_) (fun c_15 => ?_)
    · rw [i_le (nI_toInt (show dnN σ < 2 ^ 31 by omega)) (show (0 : Int32).toInt = 0 by decide)] at c_15
      have c_15 : ¬ 0 < dnN σ := by omega
      refine AW.aload_n X (pc := 39) 0 rfl rfl d_M_against_39 ?_
      refine AW.iload_n X (pc := 40) 1 rfl rfl d_M_against_40 ?_
      refine AW.callV X (pc := 41) (b := 250) (ci := 5) (nA := 1) [.int (nI i)] [] (c_M_fails (kOf G ad N) σ i nr μ hN hi hI hM.1 hV) (gv_V wm_M_156 wi_M_fails wl_M_fails wn_M kw_M_fails) rfl (by decide +kernel) rfl (by omega) rfl rfl ⟨Nat.le_of_ble_eq_true rfl, Nat.le_of_ble_eq_true rfl⟩ ⟨Nat.zero_le _, Nat.zero_le _⟩ (Nat.le_of_ble_eq_true rfl) d_M_against_41 rfl (fun v μ2 hq => ?_)
      obtain ⟨rfl, hm⟩ := hq
      rw [hm]
      clear hm
      show AW G (rmD 4) 4 (0, 0, ad, N, fb) 44 [(0, .ref 250), (1, .int (nI i)), (2, .int how), (3, .int dd)] [.int (bi (f_fails σ i))] μ
      refine AW.if_eq X (pc := 44) 49 d_M_against_44 (by decide) (fun c_44 => ?_) (fun c_44 => ?_)
      · have c_44 := bi_eq.mp c_44
        refine AW.aload_n X (pc := 49) 0 rfl rfl d_M_against_49 ?_
        refine AW.iload_n X (pc := 50) 1 rfl rfl d_M_against_50 ?_
        refine AW.iload_n X (pc := 51) 3 rfl rfl d_M_against_51 ?_
        refine AW.callV X (pc := 52) (b := 250) (ci := 5) (nA := 2) [.int (nI i), .int dd] [] (c_M_isDue (kOf G ad N) σ i nr dd μ hN hi hI hM.1 hV) (gv_V wm_M_169 wi_M_isDue wl_M_isDue wn_M kw_M_isDue) rfl (by decide +kernel) rfl (by omega) rfl rfl ⟨Nat.le_of_ble_eq_true rfl, Nat.le_of_ble_eq_true rfl⟩ ⟨Nat.zero_le _, Nat.zero_le _⟩ (Nat.le_of_ble_eq_true rfl) d_M_against_52 rfl (fun v μ2 hq => ?_)
        obtain ⟨rfl, hm⟩ := hq
        rw [hm]
        clear hm
        show AW G (rmD 4) 4 (0, 0, ad, N, fb) 55 [(0, .ref 250), (1, .int (nI i)), (2, .int how), (3, .int dd)] [.int (bi (g_isDue σ i dd))] μ
        refine AW.if_ne X (pc := 55) 60 d_M_against_55 (by decide) (fun c_55 => ?_) (fun c_55 => ?_)
        · have c_55 := bi_ne.mp c_55
          refine AW.aload_n X (pc := 60) 0 rfl rfl d_M_against_60 ?_
          refine AW.iload_n X (pc := 61) 1 rfl rfl d_M_against_61 ?_
          refine AW.iload_n X (pc := 62) 3 rfl rfl d_M_against_62 ?_
          refine AW.callV X (pc := 63) (b := 250) (ci := 5) (nA := 2) [.int (nI i), .int dd] [] (c_M_isHeld (kOf G ad N) σ i nr dd μ hN hi hI hM.1 hV) (gv_V wm_M_179 wi_M_isHeld wl_M_isHeld wn_M kw_M_isHeld) rfl (by decide +kernel) rfl (by omega) rfl rfl ⟨Nat.le_of_ble_eq_true rfl, Nat.le_of_ble_eq_true rfl⟩ ⟨Nat.zero_le _, Nat.zero_le _⟩ (Nat.le_of_ble_eq_true rfl) d_M_against_63 rfl (fun v μ2 hq => ?_)
          obtain ⟨rfl, hm⟩ := hq
          rw [hm]
          clear hm
          show AW G (rmD 4) 4 (0, 0, ad, N, fb) 66 [(0, .ref 250), (1, .int (nI i)), (2, .int how), (3, .int dd)] [.int (bi (f_held σ i dd))] μ
          refine AW.if_eq X (pc := 66) 71 d_M_against_66 (by decide) (fun c_66 => ?_) (fun c_66 => ?_)
          · have c_66 := bi_eq.mp c_66
            refine AW.aload_n X (pc := 71) 0 rfl rfl d_M_against_71 ?_
            refine AW.get X (pc := 72) (k := 250) (ci := 5) (j := 16) (v := .ref 263) (by omega) rfl rfl in_M (by decide) wf_M_48 rfl rfl d_M_against_72 ?_
            refine AW.iload_n X (pc := 75) 1 rfl rfl d_M_against_75 ?_
            refine AW.ialdN X (pc := 76) (k := 263) (t := 0) (n := 60) (j := i) (by omega) rfl rfl (by omega) (by decide) d_M_against_76 ?_
            refine AW.val (w := .int (σ (5 + 4 * i) 5)) (congrArg Value.int (hM.1.ap hi)) ?_
            refine AW.iconst X (pc := 77) (v := 2) (by decide) d_M_against_77 ?_
            refine AW.icmp_ge X (pc := 78) 84 d_M_against_78 (by decide) (fun c_78 => ?_) (fun c_78 => ?_)
            · refine AW.aload_n X (pc := 84) 0 rfl rfl d_M_against_84 ?_
              refine AW.iload_n X (pc := 85) 1 rfl rfl d_M_against_85 ?_
              refine AW.iload_n X (pc := 86) 3 rfl rfl d_M_against_86 ?_
              refine AW.callV X (pc := 87) (b := 250) (ci := 5) (nA := 2) [.int (nI i), .int dd] [] (c_M_actionOf (kOf G ad N) σ i nr dd μ hN hi hI hM.1 hV) (gv_V wm_M_173 wi_M_actionOf wl_M_actionOf wn_M kw_M_actionOf) rfl (by decide +kernel) rfl (by omega) rfl rfl ⟨Nat.le_of_ble_eq_true rfl, Nat.le_of_ble_eq_true rfl⟩ ⟨Nat.zero_le _, Nat.zero_le _⟩ (Nat.le_of_ble_eq_true rfl) d_M_against_87 rfl (fun v μ2 hq => ?_)
              obtain ⟨rfl, hm⟩ := hq
              rw [hm]
              clear hm
              show AW G (rmD 4) 4 (0, 0, ad, N, fb) 90 [(0, .ref 250), (1, .int (nI i)), (2, .int how), (3, .int dd)] [.int (g_act σ i dd (g_dueDay σ i dd) (rnN σ i) (-1))] μ
              refine AW.iload_n X (pc := 90) 2 rfl rfl d_M_against_90 ?_
              refine AW.icmp_ne X (pc := 91) 98 d_M_against_91 (by decide) (fun c_91 => ?_) (fun c_91 => ?_)
              · refine AW.bipush X (pc := 98) (v := 7) (by decide) d_M_against_98 ?_
                exact hret 100 _ _ _ d_M_against_100 ⟨by rw [show g_against σ i how dd = 7 by simp [g_against, c_6, c_15, c_44, c_55, c_66, c_78, c_91]], rfl⟩
              · refine AW.iconst X (pc := 94) (v := 0) (by decide) d_M_against_94 ?_
                refine AW.goto X (pc := 95) 100 d_M_against_95 (by decide) ?_
                exact hret 100 _ _ _ d_M_against_100 ⟨by rw [show g_against σ i how dd = 0 by simp [g_against, c_6, c_15, c_44, c_55, c_66, c_78, c_91]], rfl⟩
            · refine AW.bipush X (pc := 81) (v := 6) (by decide) d_M_against_81 ?_
              exact hret 83 _ _ _ d_M_against_83 ⟨by rw [show g_against σ i how dd = 6 by simp [g_against, c_6, c_15, c_44, c_55, c_66, c_78]], rfl⟩
          · have c_66 := bi_ne.mp c_66
            refine AW.iconst X (pc := 69) (v := 5) (by decide) d_M_against_69 ?_
            exact hret 70 _ _ _ d_M_against_70 ⟨by rw [show g_against σ i how dd = 5 by simp [g_against, c_6, c_15, c_44, c_55, c_66]], rfl⟩
        · have c_55 := bi_eq.mp c_55
          refine AW.iconst X (pc := 58) (v := 4) (by decide) d_M_against_58 ?_
          exact hret 59 _ _ _ d_M_against_59 ⟨by rw [show g_against σ i how dd = 4 by simp [g_against, c_6, c_15, c_44, c_55]], rfl⟩
      · have c_44 := bi_ne.mp c_44
        refine AW.iconst X (pc := 47) (v := 3) (by decide) d_M_against_47 ?_
        exact hret 48 _ _ _ d_M_against_48 ⟨by rw [show g_against σ i how dd = 3 by simp [g_against, c_6, c_15, c_44]], rfl⟩
    · rw [i_le (nI_toInt (show dnN σ < 2 ^ 31 by omega)) (show (0 : Int32).toInt = 0 by decide)] at c_15
      have c_15 : 0 < dnN σ := by omega
      have hdi := (hI.di (show dnN σ - 1 < dnN σ by omega)).2
      refine AW.aload_n X (pc := 18) 0 rfl rfl d_M_against_18 ?_
      refine AW.get X (pc := 19) (k := 250) (ci := 5) (j := 19) (v := .ref 266) (by omega) rfl rfl in_M (by decide) wf_M_57 rfl rfl d_M_against_19 ?_
      refine AW.aload_n X (pc := 22) 0 rfl rfl d_M_against_22 ?_
      refine AW.get X (pc := 23) (k := 250) (ci := 5) (j := 21) (v := .ref 267) (by omega) rfl rfl in_M (by decide) wf_M_60 rfl rfl d_M_against_23 ?_
      refine AW.aload_n X (pc := 26) 0 rfl rfl d_M_against_26 ?_
      refine AW.get X (pc := 27) (k := 250) (ci := 5) (j := 20) (v := .int (μ 250 20)) (by omega) rfl rfl in_M (by decide) wf_M_176 rfl rfl d_M_against_27 ?_
      refine AW.val (w := .int (nI (dnN σ))) (congrArg Value.int (hM.go)) ?_
      refine AW.iconst X (pc := 30) (v := 1) (by decide) d_M_against_30 ?_
      refine AW.isub X (pc := 31) d_M_against_31 ?_
      rw [show (nI (dnN σ)) - 1 = nI (dnN σ - 1) from pk_sub (b := 1) c_15]
      refine AW.ialdN X (pc := 32) (k := 267) (t := 0) (n := 60) (j := dnN σ - 1) (by omega) rfl rfl (by omega) (by decide) d_M_against_32 ?_
      refine AW.val (w := .int (nI (diN σ (dnN σ - 1)))) (congrArg Value.int (hM.hi (show dnN σ - 1 < dnN σ by omega))) ?_
      refine AW.ialdN X (pc := 33) (k := 266) (t := 0) (n := 60) (j := diN σ (dnN σ - 1)) (by omega) rfl rfl (by omega) (by decide) d_M_against_33 ?_
      refine AW.val (w := .int (σ (5 + 4 * diN σ (dnN σ - 1)) 8)) (congrArg Value.int (hM.1.ce hdi)) ?_
      refine AW.if_ge X (pc := 34) 39 d_M_against_34 (by decide) (fun c_34 => ?_) (fun c_34 => ?_)
      · have c_34 := Int32.not_lt.mpr c_34
        refine AW.aload_n X (pc := 39) 0 rfl rfl d_M_against_39 ?_
        refine AW.iload_n X (pc := 40) 1 rfl rfl d_M_against_40 ?_
        refine AW.callV X (pc := 41) (b := 250) (ci := 5) (nA := 1) [.int (nI i)] [] (c_M_fails (kOf G ad N) σ i nr μ hN hi hI hM.1 hV) (gv_V wm_M_156 wi_M_fails wl_M_fails wn_M kw_M_fails) rfl (by decide +kernel) rfl (by omega) rfl rfl ⟨Nat.le_of_ble_eq_true rfl, Nat.le_of_ble_eq_true rfl⟩ ⟨Nat.zero_le _, Nat.zero_le _⟩ (Nat.le_of_ble_eq_true rfl) d_M_against_41 rfl (fun v μ2 hq => ?_)
        obtain ⟨rfl, hm⟩ := hq
        rw [hm]
        clear hm
        show AW G (rmD 4) 4 (0, 0, ad, N, fb) 44 [(0, .ref 250), (1, .int (nI i)), (2, .int how), (3, .int dd)] [.int (bi (f_fails σ i))] μ
        refine AW.if_eq X (pc := 44) 49 d_M_against_44 (by decide) (fun c_44 => ?_) (fun c_44 => ?_)
        · have c_44 := bi_eq.mp c_44
          refine AW.aload_n X (pc := 49) 0 rfl rfl d_M_against_49 ?_
          refine AW.iload_n X (pc := 50) 1 rfl rfl d_M_against_50 ?_
          refine AW.iload_n X (pc := 51) 3 rfl rfl d_M_against_51 ?_
          refine AW.callV X (pc := 52) (b := 250) (ci := 5) (nA := 2) [.int (nI i), .int dd] [] (c_M_isDue (kOf G ad N) σ i nr dd μ hN hi hI hM.1 hV) (gv_V wm_M_169 wi_M_isDue wl_M_isDue wn_M kw_M_isDue) rfl (by decide +kernel) rfl (by omega) rfl rfl ⟨Nat.le_of_ble_eq_true rfl, Nat.le_of_ble_eq_true rfl⟩ ⟨Nat.zero_le _, Nat.zero_le _⟩ (Nat.le_of_ble_eq_true rfl) d_M_against_52 rfl (fun v μ2 hq => ?_)
          obtain ⟨rfl, hm⟩ := hq
          rw [hm]
          clear hm
          show AW G (rmD 4) 4 (0, 0, ad, N, fb) 55 [(0, .ref 250), (1, .int (nI i)), (2, .int how), (3, .int dd)] [.int (bi (g_isDue σ i dd))] μ
          refine AW.if_ne X (pc := 55) 60 d_M_against_55 (by decide) (fun c_55 => ?_) (fun c_55 => ?_)
          · have c_55 := bi_ne.mp c_55
            refine AW.aload_n X (pc := 60) 0 rfl rfl d_M_against_60 ?_
            refine AW.iload_n X (pc := 61) 1 rfl rfl d_M_against_61 ?_
            refine AW.iload_n X (pc := 62) 3 rfl rfl d_M_against_62 ?_
            refine AW.callV X (pc := 63) (b := 250) (ci := 5) (nA := 2) [.int (nI i), .int dd] [] (c_M_isHeld (kOf G ad N) σ i nr dd μ hN hi hI hM.1 hV) (gv_V wm_M_179 wi_M_isHeld wl_M_isHeld wn_M kw_M_isHeld) rfl (by decide +kernel) rfl (by omega) rfl rfl ⟨Nat.le_of_ble_eq_true rfl, Nat.le_of_ble_eq_true rfl⟩ ⟨Nat.zero_le _, Nat.zero_le _⟩ (Nat.le_of_ble_eq_true rfl) d_M_against_63 rfl (fun v μ2 hq => ?_)
            obtain ⟨rfl, hm⟩ := hq
            rw [hm]
            clear hm
            show AW G (rmD 4) 4 (0, 0, ad, N, fb) 66 [(0, .ref 250), (1, .int (nI i)), (2, .int how), (3, .int dd)] [.int (bi (f_held σ i dd))] μ
            refine AW.if_eq X (pc := 66) 71 d_M_against_66 (by decide) (fun c_66 => ?_) (fun c_66 => ?_)
            · have c_66 := bi_eq.mp c_66
              refine AW.aload_n X (pc := 71) 0 rfl rfl d_M_against_71 ?_
              refine AW.get X (pc := 72) (k := 250) (ci := 5) (j := 16) (v := .ref 263) (by omega) rfl rfl in_M (by decide) wf_M_48 rfl rfl d_M_against_72 ?_
              refine AW.iload_n X (pc := 75) 1 rfl rfl d_M_against_75 ?_
              refine AW.ialdN X (pc := 76) (k := 263) (t := 0) (n := 60) (j := i) (by omega) rfl rfl (by omega) (by decide) d_M_against_76 ?_
              refine AW.val (w := .int (σ (5 + 4 * i) 5)) (congrArg Value.int (hM.1.ap hi)) ?_
              refine AW.iconst X (pc := 77) (v := 2) (by decide) d_M_against_77 ?_
              refine AW.icmp_ge X (pc := 78) 84 d_M_against_78 (by decide) (fun c_78 => ?_) (fun c_78 => ?_)
              · refine AW.aload_n X (pc := 84) 0 rfl rfl d_M_against_84 ?_
                refine AW.iload_n X (pc := 85) 1 rfl rfl d_M_against_85 ?_
                refine AW.iload_n X (pc := 86) 3 rfl rfl d_M_against_86 ?_
                refine AW.callV X (pc := 87) (b := 250) (ci := 5) (nA := 2) [.int (nI i), .int dd] [] (c_M_actionOf (kOf G ad N) σ i nr dd μ hN hi hI hM.1 hV) (gv_V wm_M_173 wi_M_actionOf wl_M_actionOf wn_M kw_M_actionOf) rfl (by decide +kernel) rfl (by omega) rfl rfl ⟨Nat.le_of_ble_eq_true rfl, Nat.le_of_ble_eq_true rfl⟩ ⟨Nat.zero_le _, Nat.zero_le _⟩ (Nat.le_of_ble_eq_true rfl) d_M_against_87 rfl (fun v μ2 hq => ?_)
                obtain ⟨rfl, hm⟩ := hq
                rw [hm]
                clear hm
                show AW G (rmD 4) 4 (0, 0, ad, N, fb) 90 [(0, .ref 250), (1, .int (nI i)), (2, .int how), (3, .int dd)] [.int (g_act σ i dd (g_dueDay σ i dd) (rnN σ i) (-1))] μ
                refine AW.iload_n X (pc := 90) 2 rfl rfl d_M_against_90 ?_
                refine AW.icmp_ne X (pc := 91) 98 d_M_against_91 (by decide) (fun c_91 => ?_) (fun c_91 => ?_)
                · refine AW.bipush X (pc := 98) (v := 7) (by decide) d_M_against_98 ?_
                  exact hret 100 _ _ _ d_M_against_100 ⟨by rw [show g_against σ i how dd = 7 by simp [g_against, c_6, c_15, c_34, c_44, c_55, c_66, c_78, c_91]], rfl⟩
                · refine AW.iconst X (pc := 94) (v := 0) (by decide) d_M_against_94 ?_
                  refine AW.goto X (pc := 95) 100 d_M_against_95 (by decide) ?_
                  exact hret 100 _ _ _ d_M_against_100 ⟨by rw [show g_against σ i how dd = 0 by simp [g_against, c_6, c_15, c_34, c_44, c_55, c_66, c_78, c_91]], rfl⟩
              · refine AW.bipush X (pc := 81) (v := 6) (by decide) d_M_against_81 ?_
                exact hret 83 _ _ _ d_M_against_83 ⟨by rw [show g_against σ i how dd = 6 by simp [g_against, c_6, c_15, c_34, c_44, c_55, c_66, c_78]], rfl⟩
            · have c_66 := bi_ne.mp c_66
              refine AW.iconst X (pc := 69) (v := 5) (by decide) d_M_against_69 ?_
              exact hret 70 _ _ _ d_M_against_70 ⟨by rw [show g_against σ i how dd = 5 by simp [g_against, c_6, c_15, c_34, c_44, c_55, c_66]], rfl⟩
          · have c_55 := bi_eq.mp c_55
            refine AW.iconst X (pc := 58) (v := 4) (by decide) d_M_against_58 ?_
            exact hret 59 _ _ _ d_M_against_59 ⟨by rw [show g_against σ i how dd = 4 by simp [g_against, c_6, c_15, c_34, c_44, c_55]], rfl⟩
        · have c_44 := bi_ne.mp c_44
          refine AW.iconst X (pc := 47) (v := 3) (by decide) d_M_against_47 ?_
          exact hret 48 _ _ _ d_M_against_48 ⟨by rw [show g_against σ i how dd = 3 by simp [g_against, c_6, c_15, c_34, c_44]], rfl⟩
      · have c_34 := Int32.not_le.mp c_34
        refine AW.iconst X (pc := 37) (v := 2) (by decide) d_M_against_37 ?_
        exact hret 38 _ _ _ d_M_against_38 ⟨by rw [show g_against σ i how dd = 2 by simp [g_against, c_6, c_15, c_34]], rfl⟩
  · refine AW.iconst X (pc := 9) (v := 1) (by decide) d_M_against_9 ?_
    exact hret 10 _ _ _ d_M_against_10 ⟨by rw [show g_against σ i how dd = 1 by simp [g_against, c_6]], rfl⟩
set_option maxHeartbeats 4000000 in
set_option maxRecDepth 100000 in
theorem c_M_dispose (K : KTy) (σ : Mu) (nr : Nat) (u how d : Int32) (μ : Mu) (hN : 272 ≤ KN K) (hI : CI σ nr) (hM : MR σ μ nr) (hV : VR σ nr) (hg : ∀ i, i < 60 → σ (5 + 4 * i) 7 < 0 → dnN σ < 60) : CT K y_M_dispose (k_M_dispose :: GT) 5 [.ref 250, .int u, .int how, .int d] μ (fun v μ2 => v = some (.int (G_dispose σ μ u how d).1) ∧ μ2 = (G_dispose σ μ u how d).2) := by
  refine CT.int (cc := b_M_dispose) (maxL := 5) (by decide) rfl rfl (Nat.le_of_ble_eq_true rfl) ?_
  intro G ad N hK X hret
  subst hK
  have hN : 272 ≤ N := hN
  have hnr := hI.nr
  have hM0 := (hM.thr 0).1
  have hMr := hM.thr 0
  show AW G (rmD 5) 5 (0, 0, ad, N, fb) 0 [(0, .ref 250), (1, .int u), (2, .int how), (3, .int d)] [] μ
  cases hU : okU u with
  | false =>
    refine AW.aload_n X (pc := 0) 0 rfl rfl d_M_dispose_0 ?_
    refine AW.iconst X (pc := 1) (v := 0) (by decide) d_M_dispose_1 ?_
    refine AW.put X (pc := 2) (k := 250) (ci := 5) (j := 0) (x := 0) (ty := .int) ft_M (by omega) rfl rfl in_M ft_M_ok n_M (by decide) wf_M_72 rfl rfl rfl rfl rfl d_M_dispose_2 ?_
    refine AW.iload_n X (pc := 5) 1 rfl rfl d_M_dispose_5 ?_
    refine AW.callS X (pc := 6) (nA := 1) [.int u] [] (c_M_isUnit (kOf G ad N) u (m_up μ 250 0 0) hN) (gv_S wm_M_149 ws_M_isUnit wn_M kw_M_isUnit) rfl (by decide +kernel) rfl ⟨Nat.le_of_ble_eq_true rfl, Nat.le_of_ble_eq_true rfl⟩ ⟨Nat.zero_le _, Nat.zero_le _⟩ (Nat.le_of_ble_eq_true rfl) d_M_dispose_6 rfl (fun v μ2 hq => ?_)
    obtain ⟨rfl, hm⟩ := hq
    rw [hm]
    clear hm
    show AW G (rmD 5) 5 (0, 0, ad, N, fb) 9 [(0, .ref 250), (1, .int u), (2, .int how), (3, .int d)] [.int (bi (okU u))] (m_up μ 250 0 0)
    refine AW.if_ne X (pc := 9) 14 d_M_dispose_9 (by decide) (fun c_9 => absurd c_9 (by rw [hU]; decide)) (fun c_9 => ?_)
    refine AW.iconst X (pc := 12) (v := -1) (by decide) d_M_dispose_12 ?_
    exact hret 13 _ _ _ d_M_dispose_13 (by rw [show G_dispose σ μ u how d = (-1, (m_up μ 250 0 0)) by first | (simp [G_dispose, hU, c_9]; done) | simp +contextual [G_dispose, hU, c_9]]; exact ⟨rfl, rfl⟩)
  | true =>
    obtain ⟨i, hi, rfl⟩ := okU_of hU
    have hci : (nI i).toNatClampNeg = i := nI_clamp (by omega)
    show AW G (rmD 5) 5 (0, 0, ad, N, fb) 0 [(0, .ref 250), (1, .int (nI i)), (2, .int how), (3, .int d)] [] μ
    refine AW.aload_n X (pc := 0) 0 rfl rfl d_M_dispose_0 ?_
    refine AW.iconst X (pc := 1) (v := 0) (by decide) d_M_dispose_1 ?_
    refine AW.put X (pc := 2) (k := 250) (ci := 5) (j := 0) (x := 0) (ty := .int) ft_M (by omega) rfl rfl in_M ft_M_ok n_M (by decide) wf_M_72 rfl rfl rfl rfl rfl d_M_dispose_2 ?_
    refine AW.iload_n X (pc := 5) 1 rfl rfl d_M_dispose_5 ?_
    refine AW.callS X (pc := 6) (nA := 1) [.int (nI i)] [] (c_M_isUnit (kOf G ad N) (nI i) (m_up μ 250 0 0) hN) (gv_S wm_M_149 ws_M_isUnit wn_M kw_M_isUnit) rfl (by decide +kernel) rfl ⟨Nat.le_of_ble_eq_true rfl, Nat.le_of_ble_eq_true rfl⟩ ⟨Nat.zero_le _, Nat.zero_le _⟩ (Nat.le_of_ble_eq_true rfl) d_M_dispose_6 rfl (fun v μ2 hq => ?_)
    obtain ⟨rfl, hm⟩ := hq
    rw [hm]
    clear hm
    show AW G (rmD 5) 5 (0, 0, ad, N, fb) 9 [(0, .ref 250), (1, .int (nI i)), (2, .int how), (3, .int d)] [.int (bi (okU (nI i)))] (m_up μ 250 0 0)
    refine AW.if_ne X (pc := 9) 14 d_M_dispose_9 (by decide) (fun c_9 => ?_) (fun c_9 => absurd c_9 (by rw [hU]; decide))
    refine AW.iload_n X (pc := 14) 2 rfl rfl d_M_dispose_14 ?_
    refine AW.iconst X (pc := 15) (v := 0) (by decide) d_M_dispose_15 ?_
    refine AW.iconst X (pc := 16) (v := 1) (by decide) d_M_dispose_16 ?_
    refine AW.callS X (pc := 17) (nA := 3) [.int how, .int 0, .int 1] [] (c_M_in (kOf G ad N) how 0 1 (m_up μ 250 0 0) hN) (gv_S wm_M_76 ws_M_in wn_M kw_M_in) rfl (by decide +kernel) rfl ⟨Nat.le_of_ble_eq_true rfl, Nat.le_of_ble_eq_true rfl⟩ ⟨Nat.zero_le _, Nat.zero_le _⟩ (Nat.le_of_ble_eq_true rfl) d_M_dispose_17 rfl (fun v μ2 hq => ?_)
    obtain ⟨rfl, hm⟩ := hq
    rw [hm]
    clear hm
    show AW G (rmD 5) 5 (0, 0, ad, N, fb) 20 [(0, .ref 250), (1, .int (nI i)), (2, .int how), (3, .int d)] [.int (bi (inB 0 1 how))] (m_up μ 250 0 0)
    refine AW.if_eq X (pc := 20) 30 d_M_dispose_20 (by decide) (fun c_20 => ?_) (fun c_20 => ?_)
    · have c_20 := bi_eq.mp c_20
      refine AW.bipush X (pc := 30) (v := -2) (by decide) d_M_dispose_30 ?_
      exact hret 32 _ _ _ d_M_dispose_32 (by rw [show G_dispose σ μ (nI i) how d = (-2, (m_up μ 250 0 0)) by first | (simp [G_dispose, hU, hci, c_9, c_20]; done) | simp +contextual [G_dispose, hU, hci, c_9, c_20]]; exact ⟨rfl, rfl⟩)
    · have c_20 := bi_ne.mp c_20
      refine AW.iload_n X (pc := 23) 3 rfl rfl d_M_dispose_23 ?_
      refine AW.callS X (pc := 24) (nA := 1) [.int d] [] (c_M_isDay (kOf G ad N) d (m_up μ 250 0 0) hN) (gv_S wm_M_146 ws_M_isDay wn_M kw_M_isDay) rfl (by decide +kernel) rfl ⟨Nat.le_of_ble_eq_true rfl, Nat.le_of_ble_eq_true rfl⟩ ⟨Nat.zero_le _, Nat.zero_le _⟩ (Nat.le_of_ble_eq_true rfl) d_M_dispose_24 rfl (fun v μ2 hq => ?_)
      obtain ⟨rfl, hm⟩ := hq
      rw [hm]
      clear hm
      show AW G (rmD 5) 5 (0, 0, ad, N, fb) 27 [(0, .ref 250), (1, .int (nI i)), (2, .int how), (3, .int d)] [.int (bi (okD d))] (m_up μ 250 0 0)
      refine AW.if_ne X (pc := 27) 33 d_M_dispose_27 (by decide) (fun c_27 => ?_) (fun c_27 => ?_)
      · have c_27 := bi_ne.mp c_27
        refine AW.aload_n X (pc := 33) 0 rfl rfl d_M_dispose_33 ?_
        refine AW.iload_n X (pc := 34) 1 rfl rfl d_M_dispose_34 ?_
        refine AW.iload_n X (pc := 35) 2 rfl rfl d_M_dispose_35 ?_
        refine AW.iload_n X (pc := 36) 3 rfl rfl d_M_dispose_36 ?_
        refine AW.callV X (pc := 37) (b := 250) (ci := 5) (nA := 3) [.int (nI i), .int how, .int d] [] (c_M_against (kOf G ad N) σ i nr how d (m_up μ 250 0 0) hN hi hI hMr hV) (gv_V wm_M_182 wi_M_against wl_M_against wn_M kw_M_against) rfl (by decide +kernel) rfl (by omega) rfl rfl ⟨Nat.le_of_ble_eq_true rfl, Nat.le_of_ble_eq_true rfl⟩ ⟨Nat.zero_le _, Nat.zero_le _⟩ (Nat.le_of_ble_eq_true rfl) d_M_dispose_37 rfl (fun v μ2 hq => ?_)
        obtain ⟨rfl, hm⟩ := hq
        rw [hm]
        clear hm
        show AW G (rmD 5) 5 (0, 0, ad, N, fb) 40 [(0, .ref 250), (1, .int (nI i)), (2, .int how), (3, .int d)] [.int (g_against σ i how d)] (m_up μ 250 0 0)
        refine AW.istore X (pc := 40) (lv2 := [(4, .int (g_against σ i how d)), (0, .ref 250), (1, .int (nI i)), (2, .int how), (3, .int d)]) d_M_dispose_40 (by decide) rfl ?_
        refine AW.iload X (pc := 42) 0 rfl d_M_dispose_42 ?_
        refine AW.if_le X (pc := 44) 53 d_M_dispose_44 (by decide) (fun c_44 => ?_) (fun c_44 => ?_)
        · have hd6 : dnN σ < 60 := hg i hi (by
            refine Decidable.by_contra (fun q => ?_)
            rw [g_against, if_pos q] at c_44
            exact absurd c_44 (by decide))
          refine AW.aload_n X (pc := 53) 1 rfl rfl d_M_dispose_53 ?_
          refine AW.get X (pc := 54) (k := 250) (ci := 5) (j := 18) (v := .ref 265) (by omega) rfl rfl in_M (by decide) wf_M_54 rfl rfl d_M_dispose_54 ?_
          refine AW.iload_n X (pc := 57) 2 rfl rfl d_M_dispose_57 ?_
          refine AW.iload_n X (pc := 58) 4 rfl rfl d_M_dispose_58 ?_
          refine AW.iastN X (pc := 59) (k := 265) (t := 0) (n := 60) (j := i) (x := d) (by omega) rfl rfl (by omega) (by decide) d_M_dispose_59 ?_
          refine AW.aload_n X (pc := 60) 1 rfl rfl d_M_dispose_60 ?_
          refine AW.get X (pc := 61) (k := 250) (ci := 5) (j := 21) (v := .ref 267) (by omega) rfl rfl in_M (by decide) wf_M_60 rfl rfl d_M_dispose_61 ?_
          refine AW.aload_n X (pc := 64) 1 rfl rfl d_M_dispose_64 ?_
          refine AW.get X (pc := 65) (k := 250) (ci := 5) (j := 20) (v := .int ((m_up (m_up μ 250 0 0) 265 i d) 250 20)) (by omega) rfl rfl in_M (by decide) wf_M_176 rfl rfl d_M_dispose_65 ?_
          refine AW.val (w := .int (nI (dnN σ))) (congrArg Value.int ((congrFun (m_up_row (by decide)) _).trans hMr.go)) ?_
          refine AW.iload_n X (pc := 68) 2 rfl rfl d_M_dispose_68 ?_
          refine AW.iastN X (pc := 69) (k := 267) (t := 0) (n := 60) (j := dnN σ) (x := nI i) (by omega) rfl rfl (by omega) (by decide) d_M_dispose_69 ?_
          refine AW.aload_n X (pc := 70) 1 rfl rfl d_M_dispose_70 ?_
          refine AW.dup X (pc := 71) rfl d_M_dispose_71 ?_
          refine AW.get X (pc := 72) (k := 250) (ci := 5) (j := 20) (v := .int ((m_up (m_up (m_up μ 250 0 0) 265 i d) 267 (dnN σ) (nI i)) 250 20)) (by omega) rfl rfl in_M (by decide) wf_M_176 rfl rfl d_M_dispose_72 ?_
          refine AW.val (w := .int (nI (dnN σ))) (congrArg Value.int ((congrFun (m_up_row (by decide)) _).trans ((congrFun (m_up_row (by decide)) _).trans hMr.go))) ?_
          refine AW.iconst X (pc := 75) (v := 1) (by decide) d_M_dispose_75 ?_
          refine AW.iadd X (pc := 76) d_M_dispose_76 ?_
          refine AW.val (w := .int (nI ((dnN σ) + 1))) (congrArg Value.int (nI_add (dnN σ) 1)) ?_
          refine AW.put X (pc := 77) (k := 250) (ci := 5) (j := 20) (x := nI ((dnN σ) + 1)) (ty := .int) ft_M (by omega) rfl rfl in_M ft_M_ok n_M (by decide) wf_M_176 rfl rfl rfl rfl rfl d_M_dispose_77 ?_
          refine AW.iconst X (pc := 80) (v := 1) (by decide) d_M_dispose_80 ?_
          exact hret 81 _ _ _ d_M_dispose_81 (by rw [show G_dispose σ μ (nI i) how d = (1, (m_up (m_up (m_up (m_up μ 250 0 0) 265 i d) 267 (dnN σ) (nI i)) 250 20 (nI ((dnN σ) + 1)))) by first | (simp [G_dispose, hU, hci, c_9, c_20, c_27, c_44]; done) | simp +contextual [G_dispose, hU, hci, c_9, c_20, c_27, c_44]]; exact ⟨rfl, rfl⟩)
        · refine AW.bipush X (pc := 47) (v := -10) (by decide) d_M_dispose_47 ?_
          refine AW.iload X (pc := 49) 0 rfl d_M_dispose_49 ?_
          refine AW.isub X (pc := 51) d_M_dispose_51 ?_
          exact hret 52 _ _ _ d_M_dispose_52 (by rw [show G_dispose σ μ (nI i) how d = ((-10) - (g_against σ i how d), (m_up μ 250 0 0)) by first | (simp [G_dispose, hU, hci, c_9, c_20, c_27, c_44]; done) | simp +contextual [G_dispose, hU, hci, c_9, c_20, c_27, c_44]]; exact ⟨rfl, rfl⟩)
      · have c_27 := bi_eq.mp c_27
        refine AW.bipush X (pc := 30) (v := -2) (by decide) d_M_dispose_30 ?_
        exact hret 32 _ _ _ d_M_dispose_32 (by rw [show G_dispose σ μ (nI i) how d = (-2, (m_up μ 250 0 0)) by first | (simp [G_dispose, hU, hci, c_9, c_20, c_27]; done) | simp +contextual [G_dispose, hU, hci, c_9, c_20, c_27]]; exact ⟨rfl, rfl⟩)
set_option maxHeartbeats 4000000 in
set_option maxRecDepth 100000 in
theorem c_M_due (K : KTy) (σ : Mu) (nr n6 : Nat) (on : Int32) (μ : Mu) (hN : 272 ≤ KN K) (h6 : n6 = 60) (hI : CI σ nr) (hM : MR σ μ nr) (hV : VR σ nr) : CT K y_M_due (k_M_due :: GT) 4 [.ref 250, .int on] μ (fun v μ2 => if okD on = false then v = some (.int (-2)) ∧ μ2 = (m_up μ 250 0 0) else v = some (.int (nI (dueG σ μ on n6).2)) ∧ μ2 = (dueG σ μ on n6).1) := by
  refine CT.int (cc := b_M_due) (maxL := 5) (by decide) rfl rfl (Nat.le_of_ble_eq_true rfl) ?_
  intro G ad N hK X hret
  subst hK
  have hN : 272 ≤ N := hN
  have hnr := hI.nr
  show AW G (rmD 4) 5 (0, 0, ad, N, fb) 0 [(0, .ref 250), (1, .int on)] [] μ
  cases hD : okD on with
  | false =>
    refine AW.aload_n X (pc := 0) 0 rfl rfl d_M_due_0 ?_
    refine AW.iconst X (pc := 1) (v := 0) (by decide) d_M_due_1 ?_
    refine AW.put X (pc := 2) (k := 250) (ci := 5) (j := 0) (x := 0) (ty := .int) ft_M (by omega) rfl rfl in_M ft_M_ok n_M (by decide) wf_M_72 rfl rfl rfl rfl rfl d_M_due_2 ?_
    refine AW.iload_n X (pc := 5) 1 rfl rfl d_M_due_5 ?_
    refine AW.callS X (pc := 6) (nA := 1) [.int on] [] (c_M_isDay (kOf G ad N) on (m_up μ 250 0 0) hN) (gv_S wm_M_146 ws_M_isDay wn_M kw_M_isDay) rfl (by decide +kernel) rfl ⟨Nat.le_of_ble_eq_true rfl, Nat.le_of_ble_eq_true rfl⟩ ⟨Nat.zero_le _, Nat.zero_le _⟩ (Nat.le_of_ble_eq_true rfl) d_M_due_6 rfl (fun v μ2 hq => ?_)
    obtain ⟨rfl, hm⟩ := hq
    rw [hm]
    clear hm
    show AW G (rmD 4) 5 (0, 0, ad, N, fb) 9 [(0, .ref 250), (1, .int on)] [.int (bi (okD on))] (m_up μ 250 0 0)
    refine AW.if_ne X (pc := 9) 15 d_M_due_9 (by decide) (fun c_9 => absurd c_9 (by rw [hD]; decide)) (fun c_9 => ?_)
    refine AW.bipush X (pc := 12) (v := -2) (by decide) d_M_due_12 ?_
    exact hret 14 _ _ _ d_M_due_14 (by rw [if_pos hD]; exact ⟨rfl, rfl⟩)
  | true =>
    have key : ∀ (n : Nat) (j : Nat) (x : Int32), 60 - j < n → (j ≤ 60) → (x = nI j) → AW G (rmD 4) 5 (0, 0, ad, N, fb) 22 [(2, .int x), (0, .ref 250), (1, .int on)] [] (dueG σ μ on j).1 := by
      intro n
      induction n with
      | zero =>
        intro j x hlt
        exact absurd hlt (Nat.not_lt_zero _)
      | succ n ih =>
        intro j x hlt hj ex
        subst ex
        have ihj := ih
        have hMj := dueG_MU hM.1 on j
        have h22 := dueG_22 σ μ on j
        have hle := dueG_le σ μ on j
        refine AW.iload_n X (pc := 22) 0 rfl rfl d_M_due_22 ?_
        refine AW.bipush X (pc := 23) (v := 60) (by decide) d_M_due_23 ?_
        refine AW.icmp_ge X (pc := 25) 170 d_M_due_25 (by decide) (fun c_25 => ?_) (fun c_25 => ?_)
        · rw [i_le (show (60 : Int32).toInt = 60 by decide) (nI_toInt (show j < 2 ^ 31 by omega))] at c_25
          have hj6 : j = n6 := by omega
          subst hj6
          refine AW.aload_n X (pc := 170) 1 rfl rfl d_M_due_170 ?_
          refine AW.get X (pc := 171) (k := 250) (ci := 5) (j := 22) (v := .int ((dueG σ μ on j).1 250 22)) (by omega) rfl rfl in_M (by decide) wf_M_166 rfl rfl d_M_due_171 ?_
          refine AW.val (w := .int (nI (dueG σ μ on j).2)) (congrArg Value.int (h22)) ?_
          exact hret 174 _ _ _ d_M_due_174 (by rw [if_neg (by rw [hD]; decide)]; exact ⟨rfl, rfl⟩)
        · rw [i_le (show (60 : Int32).toInt = 60 by decide) (nI_toInt (show j < 2 ^ 31 by omega))] at c_25
          have hi : j < 60 := by omega
          refine AW.aload_n X (pc := 28) 1 rfl rfl d_M_due_28 ?_
          refine AW.iload_n X (pc := 29) 0 rfl rfl d_M_due_29 ?_
          refine AW.iload_n X (pc := 30) 2 rfl rfl d_M_due_30 ?_
          refine AW.callV X (pc := 31) (b := 250) (ci := 5) (nA := 2) [.int (nI j), .int on] [] (c_M_isDue (kOf G ad N) σ j nr on (dueG σ μ on j).1 hN hi hI hMj hV) (gv_V wm_M_169 wi_M_isDue wl_M_isDue wn_M kw_M_isDue) rfl (by decide +kernel) rfl (by omega) rfl rfl ⟨Nat.le_of_ble_eq_true rfl, Nat.le_of_ble_eq_true rfl⟩ ⟨Nat.zero_le _, Nat.zero_le _⟩ (Nat.le_of_ble_eq_true rfl) d_M_due_31 rfl (fun v μ2 hq => ?_)
          obtain ⟨rfl, hm⟩ := hq
          rw [hm]
          clear hm
          show AW G (rmD 4) 5 (0, 0, ad, N, fb) 34 [(2, .int (nI j)), (0, .ref 250), (1, .int on)] [.int (bi (g_isDue σ j on))] (dueG σ μ on j).1
          refine AW.if_ne X (pc := 34) 40 d_M_due_34 (by decide) (fun c_34 => ?_) (fun c_34 => ?_)
          · have c_34 := bi_ne.mp c_34
            refine AW.aload_n X (pc := 40) 1 rfl rfl d_M_due_40 ?_
            refine AW.iload_n X (pc := 41) 0 rfl rfl d_M_due_41 ?_
            refine AW.iload_n X (pc := 42) 2 rfl rfl d_M_due_42 ?_
            refine AW.callV X (pc := 43) (b := 250) (ci := 5) (nA := 2) [.int (nI j), .int on] [] (c_M_dueDay (kOf G ad N) σ j nr on (dueG σ μ on j).1 hN hi hI hMj hV) (gv_V wm_M_163 wi_M_dueDay wl_M_dueDay wn_M kw_M_dueDay) rfl (by decide +kernel) rfl (by omega) rfl rfl ⟨Nat.le_of_ble_eq_true rfl, Nat.le_of_ble_eq_true rfl⟩ ⟨Nat.zero_le _, Nat.zero_le _⟩ (Nat.le_of_ble_eq_true rfl) d_M_due_43 rfl (fun v μ2 hq => ?_)
            obtain ⟨rfl, hm⟩ := hq
            rw [hm]
            clear hm
            show AW G (rmD 4) 5 (0, 0, ad, N, fb) 46 [(2, .int (nI j)), (0, .ref 250), (1, .int on)] [.int (g_dueDay σ j on)] (dueG σ μ on j).1
            refine AW.istore_n X (pc := 46) (lv2 := [(3, .int (g_dueDay σ j on)), (2, .int (nI j)), (0, .ref 250), (1, .int on)]) rfl d_M_due_46 (by decide) rfl ?_
            refine AW.aload_n X (pc := 47) 2 rfl rfl d_M_due_47 ?_
            refine AW.get X (pc := 48) (k := 250) (ci := 5) (j := 22) (v := .int ((dueG σ μ on j).1 250 22)) (by omega) rfl rfl in_M (by decide) wf_M_166 rfl rfl d_M_due_48 ?_
            refine AW.val (w := .int (nI (dueG σ μ on j).2)) (congrArg Value.int (h22)) ?_
            refine AW.istore X (pc := 51) (lv2 := [(4, .int (nI (dueG σ μ on j).2)), (3, .int (g_dueDay σ j on)), (2, .int (nI j)), (0, .ref 250), (1, .int on)]) d_M_due_51 (by decide) rfl ?_
            have keyi : ∀ (n f : Nat) (y : Int32) (μ1 : Mu), f < n → f ≤ (dueG σ μ on j).2 → y = nI f → μ1 250 22 = nI (dueG σ μ on j).2 → MU σ μ1 nr → ins 268 269 270 (g_dueDay σ j on) f μ1 = ins 268 269 270 (g_dueDay σ j on) (dueG σ μ on j).2 (dueG σ μ on j).1 → AW G (rmD 4) 5 (0, 0, ad, N, fb) 53 [(4, .int y), (3, .int (g_dueDay σ j on)), (2, .int (nI j)), (0, .ref 250), (1, .int on)] [] μ1 := by
              intro n
              induction n with
              | zero =>
                intro f y μ1 hlt
                exact absurd hlt (Nat.not_lt_zero _)
              | succ n ih =>
                intro f y μ1 hlt hf ex hz hM1 he
                subst ex
                cases f with
                | zero =>
                  refine AW.iload X (pc := 53) 0 rfl d_M_due_53 ?_
                  refine AW.if_le X (pc := 55) 125 d_M_due_55 (by decide) (fun c_55 => ?_) (fun c_55 => absurd c_55 (by decide))
                  refine AW.aload_n X (pc := 125) 3 rfl rfl d_M_due_125 ?_
                  refine AW.get X (pc := 126) (k := 250) (ci := 5) (j := 23) (v := .ref 268) (by omega) rfl rfl in_M (by decide) wf_M_63 rfl rfl d_M_due_126 ?_
                  refine AW.iload X (pc := 129) 0 rfl d_M_due_129 ?_
                  refine AW.iload_n X (pc := 131) 2 rfl rfl d_M_due_131 ?_
                  refine AW.iastN X (pc := 132) (k := 268) (t := 0) (n := 60) (j := 0) (x := nI j) (by omega) rfl rfl (by omega) (by decide) d_M_due_132 ?_
                  refine AW.aload_n X (pc := 133) 3 rfl rfl d_M_due_133 ?_
                  refine AW.get X (pc := 134) (k := 250) (ci := 5) (j := 24) (v := .ref 269) (by omega) rfl rfl in_M (by decide) wf_M_66 rfl rfl d_M_due_134 ?_
                  refine AW.iload X (pc := 137) 0 rfl d_M_due_137 ?_
                  refine AW.iload_n X (pc := 139) 1 rfl rfl d_M_due_139 ?_
                  refine AW.iastN X (pc := 140) (k := 269) (t := 0) (n := 60) (j := 0) (x := g_dueDay σ j on) (by omega) rfl rfl (by omega) (by decide) d_M_due_140 ?_
                  refine AW.aload_n X (pc := 141) 3 rfl rfl d_M_due_141 ?_
                  refine AW.get X (pc := 142) (k := 250) (ci := 5) (j := 25) (v := .ref 270) (by omega) rfl rfl in_M (by decide) wf_M_69 rfl rfl d_M_due_142 ?_
                  refine AW.iload X (pc := 145) 0 rfl d_M_due_145 ?_
                  refine AW.aload_n X (pc := 147) 3 rfl rfl d_M_due_147 ?_
                  refine AW.iload_n X (pc := 148) 2 rfl rfl d_M_due_148 ?_
                  refine AW.iload_n X (pc := 149) 4 rfl rfl d_M_due_149 ?_
                  have hM2 : MU σ (m_up (m_up μ1 268 0 (nI j)) 269 0 (g_dueDay σ j on)) nr := hM1.of (fun k h1 h2 => by rw [m_up_row (by omega), m_up_row (by omega)]) (by rw [m_up_row (by decide), m_up_row (by decide)])
                  refine AW.callV X (pc := 150) (b := 250) (ci := 5) (nA := 2) [.int (nI j), .int on] [.int (nI 0), .ref 270] (c_M_actionOf (kOf G ad N) σ j nr on (m_up (m_up μ1 268 0 (nI j)) 269 0 (g_dueDay σ j on)) hN hi hI hM2 hV) (gv_V wm_M_173 wi_M_actionOf wl_M_actionOf wn_M kw_M_actionOf) rfl (by decide +kernel) rfl (by omega) rfl rfl ⟨Nat.le_of_ble_eq_true rfl, Nat.le_of_ble_eq_true rfl⟩ ⟨Nat.zero_le _, Nat.zero_le _⟩ (Nat.le_of_ble_eq_true rfl) d_M_due_150 rfl (fun v μ2 hq => ?_)
                  obtain ⟨rfl, hm⟩ := hq
                  rw [hm]
                  clear hm
                  show AW G (rmD 4) 5 (0, 0, ad, N, fb) 153 [(4, .int (nI 0)), (3, .int (g_dueDay σ j on)), (2, .int (nI j)), (0, .ref 250), (1, .int on)] [.int (g_act σ j on (g_dueDay σ j on) (rnN σ j) (-1)), .int (nI 0), .ref 270] (m_up (m_up μ1 268 0 (nI j)) 269 0 (g_dueDay σ j on))
                  refine AW.iastN X (pc := 153) (k := 270) (t := 0) (n := 60) (j := 0) (x := g_act σ j on (g_dueDay σ j on) (rnN σ j) (-1)) (by omega) rfl rfl (by omega) (by decide) d_M_due_153 ?_
                  refine AW.aload_n X (pc := 154) 3 rfl rfl d_M_due_154 ?_
                  refine AW.dup X (pc := 155) rfl d_M_due_155 ?_
                  refine AW.get X (pc := 156) (k := 250) (ci := 5) (j := 22) (v := .int ((m_up (m_up (m_up μ1 268 0 (nI j)) 269 0 (g_dueDay σ j on)) 270 0 (g_act σ j on (g_dueDay σ j on) (rnN σ j) (-1))) 250 22)) (by omega) rfl rfl in_M (by decide) wf_M_166 rfl rfl d_M_due_156 ?_
                  refine AW.val (w := .int (nI (dueG σ μ on j).2)) (congrArg Value.int ((congrFun (put3_out (by decide) (by decide) (by decide)) 22).trans hz)) ?_
                  refine AW.iconst X (pc := 159) (v := 1) (by decide) d_M_due_159 ?_
                  refine AW.iadd X (pc := 160) d_M_due_160 ?_
                  refine AW.put X (pc := 161) (k := 250) (ci := 5) (j := 22) (x := (nI (dueG σ μ on j).2) + 1) (ty := .int) ft_M (by omega) rfl rfl in_M ft_M_ok n_M (by decide) wf_M_166 rfl rfl rfl rfl rfl d_M_due_161 ?_
                  refine AW.iinc X (pc := 164) (v := nI (j + 1)) (lv2 := [(2, .int (nI (j + 1))), (4, .int (nI 0)), (3, .int (g_dueDay σ j on)), (0, .ref 250), (1, .int on)]) 2 rfl (nI_1 _) d_M_due_164 (by decide) rfl ?_
                  refine AW.goto X (pc := 167) 22 d_M_due_167 (by decide) ?_
                  refine AW.locs (lv2 := [(2, .int (nI (j + 1))), (0, .ref 250), (1, .int on)]) [0, 3, 4] rfl ?_
                  have e : (dueG σ μ on (j + 1)).1 = (m_up (m_up (m_up (m_up μ1 268 0 (nI j)) 269 0 (g_dueDay σ j on)) 270 0 (g_act σ j on (g_dueDay σ j on) (rnN σ j) (-1))) 250 22 ((nI (dueG σ μ on j).2) + 1)) := by
                    rw [dueG, if_pos c_34]
                    show insG _ _ _ _ _ = _
                    rw [insG, ← he, ← nI_1 (dueG σ μ on j).2]
                    rfl
                  rw [← e]
                  exact ihj (j + 1) _ (by omega) (by omega) rfl
                | succ g =>
                  refine AW.iload X (pc := 53) 0 rfl d_M_due_53 ?_
                  refine AW.if_le X (pc := 55) 125 d_M_due_55 (by decide) (fun c_55 => absurd c_55 (by rw [i_le (nI_toInt (show g + 1 < 2 ^ 31 by omega)) (show (0 : Int32).toInt = 0 by decide)]; omega)) (fun c_55 => ?_)
                  refine AW.aload_n X (pc := 58) 3 rfl rfl d_M_due_58 ?_
                  refine AW.get X (pc := 59) (k := 250) (ci := 5) (j := 24) (v := .ref 269) (by omega) rfl rfl in_M (by decide) wf_M_66 rfl rfl d_M_due_59 ?_
                  refine AW.iload X (pc := 62) 0 rfl d_M_due_62 ?_
                  refine AW.iconst X (pc := 64) (v := 1) (by decide) d_M_due_64 ?_
                  refine AW.isub X (pc := 65) d_M_due_65 ?_
                  rw [show (nI (g + 1)) - 1 = nI g from nI_pred g]
                  refine AW.ialdN X (pc := 66) (k := 269) (t := 0) (n := 60) (j := g) (by omega) rfl rfl (by omega) (by decide) d_M_due_66 ?_
                  refine AW.iload_n X (pc := 67) 1 rfl rfl d_M_due_67 ?_
                  refine AW.icmp_le X (pc := 68) 125 d_M_due_68 (by decide) (fun c_68 => ?_) (fun c_68 => ?_)
                  · refine AW.aload_n X (pc := 125) 3 rfl rfl d_M_due_125 ?_
                    refine AW.get X (pc := 126) (k := 250) (ci := 5) (j := 23) (v := .ref 268) (by omega) rfl rfl in_M (by decide) wf_M_63 rfl rfl d_M_due_126 ?_
                    refine AW.iload X (pc := 129) 0 rfl d_M_due_129 ?_
                    refine AW.iload_n X (pc := 131) 2 rfl rfl d_M_due_131 ?_
                    refine AW.iastN X (pc := 132) (k := 268) (t := 0) (n := 60) (j := g + 1) (x := nI j) (by omega) rfl rfl (by omega) (by decide) d_M_due_132 ?_
                    refine AW.aload_n X (pc := 133) 3 rfl rfl d_M_due_133 ?_
                    refine AW.get X (pc := 134) (k := 250) (ci := 5) (j := 24) (v := .ref 269) (by omega) rfl rfl in_M (by decide) wf_M_66 rfl rfl d_M_due_134 ?_
                    refine AW.iload X (pc := 137) 0 rfl d_M_due_137 ?_
                    refine AW.iload_n X (pc := 139) 1 rfl rfl d_M_due_139 ?_
                    refine AW.iastN X (pc := 140) (k := 269) (t := 0) (n := 60) (j := g + 1) (x := g_dueDay σ j on) (by omega) rfl rfl (by omega) (by decide) d_M_due_140 ?_
                    refine AW.aload_n X (pc := 141) 3 rfl rfl d_M_due_141 ?_
                    refine AW.get X (pc := 142) (k := 250) (ci := 5) (j := 25) (v := .ref 270) (by omega) rfl rfl in_M (by decide) wf_M_69 rfl rfl d_M_due_142 ?_
                    refine AW.iload X (pc := 145) 0 rfl d_M_due_145 ?_
                    refine AW.aload_n X (pc := 147) 3 rfl rfl d_M_due_147 ?_
                    refine AW.iload_n X (pc := 148) 2 rfl rfl d_M_due_148 ?_
                    refine AW.iload_n X (pc := 149) 4 rfl rfl d_M_due_149 ?_
                    have hM2 : MU σ (m_up (m_up μ1 268 (g + 1) (nI j)) 269 (g + 1) (g_dueDay σ j on)) nr := hM1.of (fun k h1 h2 => by rw [m_up_row (by omega), m_up_row (by omega)]) (by rw [m_up_row (by decide), m_up_row (by decide)])
                    refine AW.callV X (pc := 150) (b := 250) (ci := 5) (nA := 2) [.int (nI j), .int on] [.int (nI (g + 1)), .ref 270] (c_M_actionOf (kOf G ad N) σ j nr on (m_up (m_up μ1 268 (g + 1) (nI j)) 269 (g + 1) (g_dueDay σ j on)) hN hi hI hM2 hV) (gv_V wm_M_173 wi_M_actionOf wl_M_actionOf wn_M kw_M_actionOf) rfl (by decide +kernel) rfl (by omega) rfl rfl ⟨Nat.le_of_ble_eq_true rfl, Nat.le_of_ble_eq_true rfl⟩ ⟨Nat.zero_le _, Nat.zero_le _⟩ (Nat.le_of_ble_eq_true rfl) d_M_due_150 rfl (fun v μ2 hq => ?_)
                    obtain ⟨rfl, hm⟩ := hq
                    rw [hm]
                    clear hm
                    show AW G (rmD 4) 5 (0, 0, ad, N, fb) 153 [(4, .int (nI (g + 1))), (3, .int (g_dueDay σ j on)), (2, .int (nI j)), (0, .ref 250), (1, .int on)] [.int (g_act σ j on (g_dueDay σ j on) (rnN σ j) (-1)), .int (nI (g + 1)), .ref 270] (m_up (m_up μ1 268 (g + 1) (nI j)) 269 (g + 1) (g_dueDay σ j on))
                    refine AW.iastN X (pc := 153) (k := 270) (t := 0) (n := 60) (j := g + 1) (x := g_act σ j on (g_dueDay σ j on) (rnN σ j) (-1)) (by omega) rfl rfl (by omega) (by decide) d_M_due_153 ?_
                    refine AW.aload_n X (pc := 154) 3 rfl rfl d_M_due_154 ?_
                    refine AW.dup X (pc := 155) rfl d_M_due_155 ?_
                    refine AW.get X (pc := 156) (k := 250) (ci := 5) (j := 22) (v := .int ((m_up (m_up (m_up μ1 268 (g + 1) (nI j)) 269 (g + 1) (g_dueDay σ j on)) 270 (g + 1) (g_act σ j on (g_dueDay σ j on) (rnN σ j) (-1))) 250 22)) (by omega) rfl rfl in_M (by decide) wf_M_166 rfl rfl d_M_due_156 ?_
                    refine AW.val (w := .int (nI (dueG σ μ on j).2)) (congrArg Value.int ((congrFun (put3_out (by decide) (by decide) (by decide)) 22).trans hz)) ?_
                    refine AW.iconst X (pc := 159) (v := 1) (by decide) d_M_due_159 ?_
                    refine AW.iadd X (pc := 160) d_M_due_160 ?_
                    refine AW.put X (pc := 161) (k := 250) (ci := 5) (j := 22) (x := (nI (dueG σ μ on j).2) + 1) (ty := .int) ft_M (by omega) rfl rfl in_M ft_M_ok n_M (by decide) wf_M_166 rfl rfl rfl rfl rfl d_M_due_161 ?_
                    refine AW.iinc X (pc := 164) (v := nI (j + 1)) (lv2 := [(2, .int (nI (j + 1))), (4, .int (nI (g + 1))), (3, .int (g_dueDay σ j on)), (0, .ref 250), (1, .int on)]) 2 rfl (nI_1 _) d_M_due_164 (by decide) rfl ?_
                    refine AW.goto X (pc := 167) 22 d_M_due_167 (by decide) ?_
                    refine AW.locs (lv2 := [(2, .int (nI (j + 1))), (0, .ref 250), (1, .int on)]) [0, 3, 4] rfl ?_
                    have e : (dueG σ μ on (j + 1)).1 = (m_up (m_up (m_up (m_up μ1 268 (g + 1) (nI j)) 269 (g + 1) (g_dueDay σ j on)) 270 (g + 1) (g_act σ j on (g_dueDay σ j on) (rnN σ j) (-1))) 250 22 ((nI (dueG σ μ on j).2) + 1)) := by
                      rw [dueG, if_pos c_34]
                      show insG _ _ _ _ _ = _
                      rw [insG, ← he, ins, if_pos c_68, ← nI_1 (dueG σ μ on j).2]
                    rw [← e]
                    exact ihj (j + 1) _ (by omega) (by omega) rfl
                  · refine AW.aload_n X (pc := 71) 3 rfl rfl d_M_due_71 ?_
                    refine AW.get X (pc := 72) (k := 250) (ci := 5) (j := 23) (v := .ref 268) (by omega) rfl rfl in_M (by decide) wf_M_63 rfl rfl d_M_due_72 ?_
                    refine AW.iload X (pc := 75) 0 rfl d_M_due_75 ?_
                    refine AW.aload_n X (pc := 77) 3 rfl rfl d_M_due_77 ?_
                    refine AW.get X (pc := 78) (k := 250) (ci := 5) (j := 23) (v := .ref 268) (by omega) rfl rfl in_M (by decide) wf_M_63 rfl rfl d_M_due_78 ?_
                    refine AW.iload X (pc := 81) 0 rfl d_M_due_81 ?_
                    refine AW.iconst X (pc := 83) (v := 1) (by decide) d_M_due_83 ?_
                    refine AW.isub X (pc := 84) d_M_due_84 ?_
                    rw [show (nI (g + 1)) - 1 = nI g from nI_pred g]
                    refine AW.ialdN X (pc := 85) (k := 268) (t := 0) (n := 60) (j := g) (by omega) rfl rfl (by omega) (by decide) d_M_due_85 ?_
                    refine AW.iastN X (pc := 86) (k := 268) (t := 0) (n := 60) (j := g + 1) (x := μ1 268 g) (by omega) rfl rfl (by omega) (by decide) d_M_due_86 ?_
                    refine AW.aload_n X (pc := 87) 3 rfl rfl d_M_due_87 ?_
                    refine AW.get X (pc := 88) (k := 250) (ci := 5) (j := 24) (v := .ref 269) (by omega) rfl rfl in_M (by decide) wf_M_66 rfl rfl d_M_due_88 ?_
                    refine AW.iload X (pc := 91) 0 rfl d_M_due_91 ?_
                    refine AW.aload_n X (pc := 93) 3 rfl rfl d_M_due_93 ?_
                    refine AW.get X (pc := 94) (k := 250) (ci := 5) (j := 24) (v := .ref 269) (by omega) rfl rfl in_M (by decide) wf_M_66 rfl rfl d_M_due_94 ?_
                    refine AW.iload X (pc := 97) 0 rfl d_M_due_97 ?_
                    refine AW.iconst X (pc := 99) (v := 1) (by decide) d_M_due_99 ?_
                    refine AW.isub X (pc := 100) d_M_due_100 ?_
                    rw [show (nI (g + 1)) - 1 = nI g from nI_pred g]
                    refine AW.ialdN X (pc := 101) (k := 269) (t := 0) (n := 60) (j := g) (by omega) rfl rfl (by omega) (by decide) d_M_due_101 ?_
                    refine AW.val (w := .int (μ1 269 g)) (congrArg Value.int (congrFun (m_up_row (by decide)) _)) ?_
                    refine AW.iastN X (pc := 102) (k := 269) (t := 0) (n := 60) (j := g + 1) (x := μ1 269 g) (by omega) rfl rfl (by omega) (by decide) d_M_due_102 ?_
                    refine AW.aload_n X (pc := 103) 3 rfl rfl d_M_due_103 ?_
                    refine AW.get X (pc := 104) (k := 250) (ci := 5) (j := 25) (v := .ref 270) (by omega) rfl rfl in_M (by decide) wf_M_69 rfl rfl d_M_due_104 ?_
                    refine AW.iload X (pc := 107) 0 rfl d_M_due_107 ?_
                    refine AW.aload_n X (pc := 109) 3 rfl rfl d_M_due_109 ?_
                    refine AW.get X (pc := 110) (k := 250) (ci := 5) (j := 25) (v := .ref 270) (by omega) rfl rfl in_M (by decide) wf_M_69 rfl rfl d_M_due_110 ?_
                    refine AW.iload X (pc := 113) 0 rfl d_M_due_113 ?_
                    refine AW.iconst X (pc := 115) (v := 1) (by decide) d_M_due_115 ?_
                    refine AW.isub X (pc := 116) d_M_due_116 ?_
                    rw [show (nI (g + 1)) - 1 = nI g from nI_pred g]
                    refine AW.ialdN X (pc := 117) (k := 270) (t := 0) (n := 60) (j := g) (by omega) rfl rfl (by omega) (by decide) d_M_due_117 ?_
                    refine AW.val (w := .int (μ1 270 g)) (congrArg Value.int ((congrFun (m_up_row (by decide)) _).trans (congrFun (m_up_row (by decide)) _))) ?_
                    refine AW.iastN X (pc := 118) (k := 270) (t := 0) (n := 60) (j := g + 1) (x := μ1 270 g) (by omega) rfl rfl (by omega) (by decide) d_M_due_118 ?_
                    refine AW.iinc X (pc := 119) (v := nI g) (lv2 := [(4, .int (nI g)), (3, .int (g_dueDay σ j on)), (2, .int (nI j)), (0, .ref 250), (1, .int on)]) 0 rfl (i_dec _) d_M_due_119 (by decide) rfl ?_
                    refine AW.goto X (pc := 122) 53 d_M_due_122 (by decide) ?_
                    exact ih g _ _ (by omega) (by omega) rfl ((congrFun (put3_out (by decide) (by decide) (by decide)) 22).trans hz) (hM1.of (fun k h1 h2 => put3_out (by omega) (by omega) (by omega)) (congrFun (put3_out (by decide) (by decide) (by decide)) 4)) (by rw [← he, ins, if_neg c_68])
            exact keyi ((dueG σ μ on j).2 + 1) (dueG σ μ on j).2 _ _ (by omega) (Nat.le_refl _) rfl h22 hMj rfl
          · have c_34 := bi_eq.mp c_34
            refine AW.goto X (pc := 37) 164 d_M_due_37 (by decide) ?_
            refine AW.iinc X (pc := 164) (v := nI (j + 1)) (lv2 := [(2, .int (nI (j + 1))), (0, .ref 250), (1, .int on)]) 0 rfl (nI_1 _) d_M_due_164 (by decide) rfl ?_
            refine AW.goto X (pc := 167) 22 d_M_due_167 (by decide) ?_
            refine AW.locs (lv2 := [(2, .int (nI (j + 1))), (0, .ref 250), (1, .int on)]) [0, 1, 2] rfl ?_
            have e : dueG σ μ on (j + 1) = dueG σ μ on j := by rw [dueG, if_neg (by rw [c_34]; decide)]
            rw [← e]
            exact ihj (j + 1) _ (by omega) (by omega) rfl
    refine AW.aload_n X (pc := 0) 0 rfl rfl d_M_due_0 ?_
    refine AW.iconst X (pc := 1) (v := 0) (by decide) d_M_due_1 ?_
    refine AW.put X (pc := 2) (k := 250) (ci := 5) (j := 0) (x := 0) (ty := .int) ft_M (by omega) rfl rfl in_M ft_M_ok n_M (by decide) wf_M_72 rfl rfl rfl rfl rfl d_M_due_2 ?_
    refine AW.iload_n X (pc := 5) 1 rfl rfl d_M_due_5 ?_
    refine AW.callS X (pc := 6) (nA := 1) [.int on] [] (c_M_isDay (kOf G ad N) on (m_up μ 250 0 0) hN) (gv_S wm_M_146 ws_M_isDay wn_M kw_M_isDay) rfl (by decide +kernel) rfl ⟨Nat.le_of_ble_eq_true rfl, Nat.le_of_ble_eq_true rfl⟩ ⟨Nat.zero_le _, Nat.zero_le _⟩ (Nat.le_of_ble_eq_true rfl) d_M_due_6 rfl (fun v μ2 hq => ?_)
    obtain ⟨rfl, hm⟩ := hq
    rw [hm]
    clear hm
    show AW G (rmD 4) 5 (0, 0, ad, N, fb) 9 [(0, .ref 250), (1, .int on)] [.int (bi (okD on))] (m_up μ 250 0 0)
    refine AW.if_ne X (pc := 9) 15 d_M_due_9 (by decide) (fun c_9 => ?_) (fun c_9 => absurd c_9 (by rw [hD]; decide))
    refine AW.aload_n X (pc := 15) 0 rfl rfl d_M_due_15 ?_
    refine AW.iconst X (pc := 16) (v := 0) (by decide) d_M_due_16 ?_
    refine AW.put X (pc := 17) (k := 250) (ci := 5) (j := 22) (x := 0) (ty := .int) ft_M (by omega) rfl rfl in_M ft_M_ok n_M (by decide) wf_M_166 rfl rfl rfl rfl rfl d_M_due_17 ?_
    refine AW.iconst X (pc := 20) (v := 0) (by decide) d_M_due_20 ?_
    refine AW.istore_n X (pc := 21) (lv2 := [(2, .int 0), (0, .ref 250), (1, .int on)]) rfl d_M_due_21 (by decide) rfl ?_
    exact key 61 0 _ (by omega) (Nat.zero_le _) nI_0.symm
set_option maxHeartbeats 4000000 in
set_option maxRecDepth 100000 in
theorem c_M_at (K : KTy) (σ : Mu) (nr : Nat) (x w : Int32) (μ : Mu) (hN : 272 ≤ KN K) (hI : CI σ nr) (hM : MR σ μ nr) (hV : VR σ nr) : CT K y_M_at (k_M_at :: GT) 1 [.ref 250, .int x, .int w] μ (fun v μ2 => v = some (.int (G_at σ μ x w).1) ∧ μ2 = (G_at σ μ x w).2) := by
  refine CT.int (cc := b_M_at) (maxL := 3) (by decide) rfl rfl (Nat.le_of_ble_eq_true rfl) ?_
  intro G ad N hK X hret
  subst hK
  have hN : 272 ≤ N := hN
  have hnr := hI.nr
  show AW G (rmD 1) 3 (0, 0, ad, N, fb) 0 [(0, .ref 250), (1, .int x), (2, .int w)] [] μ
  have hln := hI.ln.2
  cases hB : inB 0 (nI (lnN σ) - 1) x with
  | false =>
    refine AW.aload_n X (pc := 0) 0 rfl rfl d_M_at_0 ?_
    refine AW.iload_n X (pc := 1) 1 rfl rfl d_M_at_1 ?_
    refine AW.iconst X (pc := 2) (v := 0) (by decide) d_M_at_2 ?_
    refine AW.aload_n X (pc := 3) 0 rfl rfl d_M_at_3 ?_
    refine AW.get X (pc := 4) (k := 250) (ci := 5) (j := 22) (v := .int (μ 250 22)) (by omega) rfl rfl in_M (by decide) wf_M_166 rfl rfl d_M_at_4 ?_
    refine AW.val (w := .int (nI (lnN σ))) (congrArg Value.int (hM.ls)) ?_
    refine AW.iconst X (pc := 7) (v := 1) (by decide) d_M_at_7 ?_
    refine AW.isub X (pc := 8) d_M_at_8 ?_
    refine AW.callS X (pc := 9) (nA := 3) [.int x, .int 0, .int ((nI (lnN σ)) - 1)] [.ref 250] (c_M_in (kOf G ad N) x 0 ((nI (lnN σ)) - 1) μ hN) (gv_S wm_M_76 ws_M_in wn_M kw_M_in) rfl (by decide +kernel) rfl ⟨Nat.le_of_ble_eq_true rfl, Nat.le_of_ble_eq_true rfl⟩ ⟨Nat.zero_le _, Nat.zero_le _⟩ (Nat.le_of_ble_eq_true rfl) d_M_at_9 rfl (fun v μ2 hq => ?_)
    obtain ⟨rfl, hm⟩ := hq
    rw [hm]
    clear hm
    show AW G (rmD 1) 3 (0, 0, ad, N, fb) 12 [(0, .ref 250), (1, .int x), (2, .int w)] [.int (bi (inB 0 ((nI (lnN σ)) - 1) x)), .ref 250] μ
    refine AW.if_eq X (pc := 12) 24 d_M_at_12 (by decide) (fun c_12 => ?_) (fun c_12 => absurd c_12 (by rw [hB]; decide))
    refine AW.iconst X (pc := 24) (v := 1) (by decide) d_M_at_24 ?_
    refine AW.goto X (pc := 25) 29 d_M_at_25 (by decide) ?_
    refine AW.put X (pc := 29) (k := 250) (ci := 5) (j := 0) (x := 1) (ty := .int) ft_M (by omega) rfl rfl in_M ft_M_ok n_M (by decide) wf_M_72 rfl rfl rfl rfl rfl d_M_at_29 ?_
    refine AW.aload_n X (pc := 32) 0 rfl rfl d_M_at_32 ?_
    refine AW.get X (pc := 33) (k := 250) (ci := 5) (j := 0) (v := .int ((m_up μ 250 0 1) 250 0)) (by omega) rfl rfl in_M (by decide) wf_M_72 rfl rfl d_M_at_33 ?_
    refine AW.val (w := .int 1) (congrArg Value.int (m_up_self _ _ _ _)) ?_
    refine AW.if_le X (pc := 36) 41 d_M_at_36 (by decide) (fun c_36 => absurd c_36 (by decide)) (fun c_36 => ?_)
    refine AW.iconst X (pc := 39) (v := 0) (by decide) d_M_at_39 ?_
    exact hret 40 _ _ _ d_M_at_40 (by rw [show G_at σ μ x w = (0, (m_up μ 250 0 1)) by rw [G_at, if_pos (by rw [atB, hB]; rfl)]]; exact ⟨rfl, rfl⟩)
  | true =>
    obtain ⟨q, hq, rfl⟩ := inB_1 (by omega) hB
    have hcq : (nI q).toNatClampNeg = q := nI_clamp (by omega)
    show AW G (rmD 1) 3 (0, 0, ad, N, fb) 0 [(0, .ref 250), (1, .int (nI q)), (2, .int w)] [] μ
    refine AW.aload_n X (pc := 0) 0 rfl rfl d_M_at_0 ?_
    refine AW.iload_n X (pc := 1) 1 rfl rfl d_M_at_1 ?_
    refine AW.iconst X (pc := 2) (v := 0) (by decide) d_M_at_2 ?_
    refine AW.aload_n X (pc := 3) 0 rfl rfl d_M_at_3 ?_
    refine AW.get X (pc := 4) (k := 250) (ci := 5) (j := 22) (v := .int (μ 250 22)) (by omega) rfl rfl in_M (by decide) wf_M_166 rfl rfl d_M_at_4 ?_
    refine AW.val (w := .int (nI (lnN σ))) (congrArg Value.int (hM.ls)) ?_
    refine AW.iconst X (pc := 7) (v := 1) (by decide) d_M_at_7 ?_
    refine AW.isub X (pc := 8) d_M_at_8 ?_
    refine AW.callS X (pc := 9) (nA := 3) [.int (nI q), .int 0, .int ((nI (lnN σ)) - 1)] [.ref 250] (c_M_in (kOf G ad N) (nI q) 0 ((nI (lnN σ)) - 1) μ hN) (gv_S wm_M_76 ws_M_in wn_M kw_M_in) rfl (by decide +kernel) rfl ⟨Nat.le_of_ble_eq_true rfl, Nat.le_of_ble_eq_true rfl⟩ ⟨Nat.zero_le _, Nat.zero_le _⟩ (Nat.le_of_ble_eq_true rfl) d_M_at_9 rfl (fun v μ2 hq => ?_)
    obtain ⟨rfl, hm⟩ := hq
    rw [hm]
    clear hm
    show AW G (rmD 1) 3 (0, 0, ad, N, fb) 12 [(0, .ref 250), (1, .int (nI q)), (2, .int w)] [.int (bi (inB 0 ((nI (lnN σ)) - 1) (nI q))), .ref 250] μ
    refine AW.if_eq X (pc := 12) 24 d_M_at_12 (by decide) (fun c_12 => absurd c_12 (by rw [hB]; decide)) (fun c_12 => ?_)
    refine AW.iload_n X (pc := 15) 2 rfl rfl d_M_at_15 ?_
    refine AW.iconst X (pc := 16) (v := 0) (by decide) d_M_at_16 ?_
    refine AW.iconst X (pc := 17) (v := 2) (by decide) d_M_at_17 ?_
    refine AW.callS X (pc := 18) (nA := 3) [.int w, .int 0, .int 2] [.ref 250] (c_M_in (kOf G ad N) w 0 2 μ hN) (gv_S wm_M_76 ws_M_in wn_M kw_M_in) rfl (by decide +kernel) rfl ⟨Nat.le_of_ble_eq_true rfl, Nat.le_of_ble_eq_true rfl⟩ ⟨Nat.zero_le _, Nat.zero_le _⟩ (Nat.le_of_ble_eq_true rfl) d_M_at_18 rfl (fun v μ2 hq => ?_)
    obtain ⟨rfl, hm⟩ := hq
    rw [hm]
    clear hm
    show AW G (rmD 1) 3 (0, 0, ad, N, fb) 21 [(0, .ref 250), (1, .int (nI q)), (2, .int w)] [.int (bi (inB 0 2 w)), .ref 250] μ
    refine AW.if_ne X (pc := 21) 28 d_M_at_21 (by decide) (fun c_21 => ?_) (fun c_21 => ?_)
    · have c_21 := bi_ne.mp c_21
      refine AW.iconst X (pc := 28) (v := 0) (by decide) d_M_at_28 ?_
      refine AW.put X (pc := 29) (k := 250) (ci := 5) (j := 0) (x := 0) (ty := .int) ft_M (by omega) rfl rfl in_M ft_M_ok n_M (by decide) wf_M_72 rfl rfl rfl rfl rfl d_M_at_29 ?_
      refine AW.aload_n X (pc := 32) 0 rfl rfl d_M_at_32 ?_
      refine AW.get X (pc := 33) (k := 250) (ci := 5) (j := 0) (v := .int ((m_up μ 250 0 0) 250 0)) (by omega) rfl rfl in_M (by decide) wf_M_72 rfl rfl d_M_at_33 ?_
      refine AW.val (w := .int 0) (congrArg Value.int (m_up_self _ _ _ _)) ?_
      refine AW.if_le X (pc := 36) 41 d_M_at_36 (by decide) (fun c_36 => ?_) (fun c_36 => absurd c_36 (by decide))
      refine AW.iload_n X (pc := 41) 2 rfl rfl d_M_at_41 ?_
      refine AW.if_ne X (pc := 42) 54 d_M_at_42 (by decide) (fun c_42 => ?_) (fun c_42 => ?_)
      · refine AW.iload_n X (pc := 54) 2 rfl rfl d_M_at_54 ?_
        refine AW.iconst X (pc := 55) (v := 1) (by decide) d_M_at_55 ?_
        refine AW.icmp_ne X (pc := 56) 68 d_M_at_56 (by decide) (fun c_56 => ?_) (fun c_56 => ?_)
        · refine AW.aload_n X (pc := 68) 0 rfl rfl d_M_at_68 ?_
          refine AW.get X (pc := 69) (k := 250) (ci := 5) (j := 25) (v := .ref 270) (by omega) rfl rfl in_M (by decide) wf_M_69 rfl rfl d_M_at_69 ?_
          refine AW.iload_n X (pc := 72) 1 rfl rfl d_M_at_72 ?_
          refine AW.ialdN X (pc := 73) (k := 270) (t := 0) (n := 60) (j := q) (by omega) rfl rfl (by omega) (by decide) d_M_at_73 ?_
          refine AW.val (w := .int (μ 270 q)) (congrArg Value.int (congrFun (m_up_row (by decide)) _)) ?_
          exact hret 74 _ _ _ d_M_at_74 (by rw [show G_at σ μ (nI q) w = (μ 270 q, (m_up μ 250 0 0)) by rw [G_at, if_neg (by rw [atB, hB, c_21]; decide), hcq, if_neg c_42, if_neg c_56]]; exact ⟨rfl, rfl⟩)
        · refine AW.aload_n X (pc := 59) 0 rfl rfl d_M_at_59 ?_
          refine AW.get X (pc := 60) (k := 250) (ci := 5) (j := 24) (v := .ref 269) (by omega) rfl rfl in_M (by decide) wf_M_66 rfl rfl d_M_at_60 ?_
          refine AW.iload_n X (pc := 63) 1 rfl rfl d_M_at_63 ?_
          refine AW.ialdN X (pc := 64) (k := 269) (t := 0) (n := 60) (j := q) (by omega) rfl rfl (by omega) (by decide) d_M_at_64 ?_
          refine AW.val (w := .int (μ 269 q)) (congrArg Value.int (congrFun (m_up_row (by decide)) _)) ?_
          refine AW.goto X (pc := 65) 74 d_M_at_65 (by decide) ?_
          exact hret 74 _ _ _ d_M_at_74 (by rw [show G_at σ μ (nI q) w = (μ 269 q, (m_up μ 250 0 0)) by rw [G_at, if_neg (by rw [atB, hB, c_21]; decide), hcq, if_neg c_42, if_pos c_56]]; exact ⟨rfl, rfl⟩)
      · refine AW.aload_n X (pc := 45) 0 rfl rfl d_M_at_45 ?_
        refine AW.get X (pc := 46) (k := 250) (ci := 5) (j := 23) (v := .ref 268) (by omega) rfl rfl in_M (by decide) wf_M_63 rfl rfl d_M_at_46 ?_
        refine AW.iload_n X (pc := 49) 1 rfl rfl d_M_at_49 ?_
        refine AW.ialdN X (pc := 50) (k := 268) (t := 0) (n := 60) (j := q) (by omega) rfl rfl (by omega) (by decide) d_M_at_50 ?_
        refine AW.val (w := .int (μ 268 q)) (congrArg Value.int (congrFun (m_up_row (by decide)) _)) ?_
        refine AW.goto X (pc := 51) 74 d_M_at_51 (by decide) ?_
        exact hret 74 _ _ _ d_M_at_74 (by rw [show G_at σ μ (nI q) w = (μ 268 q, (m_up μ 250 0 0)) by rw [G_at, if_neg (by rw [atB, hB, c_21]; decide), hcq, if_pos c_42]]; exact ⟨rfl, rfl⟩)
    · have c_21 := bi_eq.mp c_21
      refine AW.iconst X (pc := 24) (v := 1) (by decide) d_M_at_24 ?_
      refine AW.goto X (pc := 25) 29 d_M_at_25 (by decide) ?_
      refine AW.put X (pc := 29) (k := 250) (ci := 5) (j := 0) (x := 1) (ty := .int) ft_M (by omega) rfl rfl in_M ft_M_ok n_M (by decide) wf_M_72 rfl rfl rfl rfl rfl d_M_at_29 ?_
      refine AW.aload_n X (pc := 32) 0 rfl rfl d_M_at_32 ?_
      refine AW.get X (pc := 33) (k := 250) (ci := 5) (j := 0) (v := .int ((m_up μ 250 0 1) 250 0)) (by omega) rfl rfl in_M (by decide) wf_M_72 rfl rfl d_M_at_33 ?_
      refine AW.val (w := .int 1) (congrArg Value.int (m_up_self _ _ _ _)) ?_
      refine AW.if_le X (pc := 36) 41 d_M_at_36 (by decide) (fun c_36 => absurd c_36 (by decide)) (fun c_36 => ?_)
      refine AW.iconst X (pc := 39) (v := 0) (by decide) d_M_at_39 ?_
      exact hret 40 _ _ _ d_M_at_40 (by rw [show G_at σ μ (nI q) w = (0, (m_up μ 250 0 1)) by rw [G_at, if_pos (by rw [atB, hB]; rw [c_21]; rfl)]]; exact ⟨rfl, rfl⟩)
set_option maxHeartbeats 4000000 in
set_option maxRecDepth 100000 in
theorem c_M_history (K : KTy) (σ : Mu) (nr : Nat) (x : Int32) (μ : Mu) (hN : 272 ≤ KN K) (hI : CI σ nr) (hM : MR σ μ nr) (hV : VR σ nr) : CT K y_M_history (k_M_history :: GT) 1 [.ref 250, .int x] μ (fun v μ2 => v = some (.int (G_history σ μ x).1) ∧ μ2 = (G_history σ μ x).2) := by
  refine CT.int (cc := b_M_history) (maxL := 2) (by decide) rfl rfl (Nat.le_of_ble_eq_true rfl) ?_
  intro G ad N hK X hret
  subst hK
  have hN : 272 ≤ N := hN
  have hnr := hI.nr
  show AW G (rmD 1) 2 (0, 0, ad, N, fb) 0 [(0, .ref 250), (1, .int x)] [] μ
  have hdn := hI.dn.2
  cases hB : inB 0 (nI (dnN σ) - 1) x with
  | false =>
    refine AW.aload_n X (pc := 0) 0 rfl rfl d_M_history_0 ?_
    refine AW.iload_n X (pc := 1) 1 rfl rfl d_M_history_1 ?_
    refine AW.iconst X (pc := 2) (v := 0) (by decide) d_M_history_2 ?_
    refine AW.aload_n X (pc := 3) 0 rfl rfl d_M_history_3 ?_
    refine AW.get X (pc := 4) (k := 250) (ci := 5) (j := 20) (v := .int (μ 250 20)) (by omega) rfl rfl in_M (by decide) wf_M_176 rfl rfl d_M_history_4 ?_
    refine AW.val (w := .int (nI (dnN σ))) (congrArg Value.int (hM.go)) ?_
    refine AW.iconst X (pc := 7) (v := 1) (by decide) d_M_history_7 ?_
    refine AW.isub X (pc := 8) d_M_history_8 ?_
    refine AW.callS X (pc := 9) (nA := 3) [.int x, .int 0, .int ((nI (dnN σ)) - 1)] [.ref 250] (c_M_in (kOf G ad N) x 0 ((nI (dnN σ)) - 1) μ hN) (gv_S wm_M_76 ws_M_in wn_M kw_M_in) rfl (by decide +kernel) rfl ⟨Nat.le_of_ble_eq_true rfl, Nat.le_of_ble_eq_true rfl⟩ ⟨Nat.zero_le _, Nat.zero_le _⟩ (Nat.le_of_ble_eq_true rfl) d_M_history_9 rfl (fun v μ2 hq => ?_)
    obtain ⟨rfl, hm⟩ := hq
    rw [hm]
    clear hm
    show AW G (rmD 1) 2 (0, 0, ad, N, fb) 12 [(0, .ref 250), (1, .int x)] [.int (bi (inB 0 ((nI (dnN σ)) - 1) x)), .ref 250] μ
    refine AW.if_eq X (pc := 12) 19 d_M_history_12 (by decide) (fun c_12 => ?_) (fun c_12 => absurd c_12 (by rw [hB]; decide))
    refine AW.iconst X (pc := 19) (v := 1) (by decide) d_M_history_19 ?_
    refine AW.put X (pc := 20) (k := 250) (ci := 5) (j := 0) (x := 1) (ty := .int) ft_M (by omega) rfl rfl in_M ft_M_ok n_M (by decide) wf_M_72 rfl rfl rfl rfl rfl d_M_history_20 ?_
    refine AW.aload_n X (pc := 23) 0 rfl rfl d_M_history_23 ?_
    refine AW.get X (pc := 24) (k := 250) (ci := 5) (j := 0) (v := .int ((m_up μ 250 0 1) 250 0)) (by omega) rfl rfl in_M (by decide) wf_M_72 rfl rfl d_M_history_24 ?_
    refine AW.val (w := .int 1) (congrArg Value.int (m_up_self _ _ _ _)) ?_
    refine AW.if_le X (pc := 27) 34 d_M_history_27 (by decide) (fun c_27 => absurd c_27 (by decide)) (fun c_27 => ?_)
    refine AW.iconst X (pc := 30) (v := 0) (by decide) d_M_history_30 ?_
    refine AW.goto X (pc := 31) 40 d_M_history_31 (by decide) ?_
    exact hret 40 _ _ _ d_M_history_40 (by rw [show G_history σ μ x = (0, (m_up μ 250 0 1)) by first | (simp [G_history, hB, c_12, c_27]; done) | simp +contextual [G_history, hB, c_12, c_27]]; exact ⟨rfl, rfl⟩)
  | true =>
    obtain ⟨q, hq, rfl⟩ := inB_1 (by omega) hB
    have hcq : (nI q).toNatClampNeg = q := nI_clamp (by omega)
    show AW G (rmD 1) 2 (0, 0, ad, N, fb) 0 [(0, .ref 250), (1, .int (nI q))] [] μ
    refine AW.aload_n X (pc := 0) 0 rfl rfl d_M_history_0 ?_
    refine AW.iload_n X (pc := 1) 1 rfl rfl d_M_history_1 ?_
    refine AW.iconst X (pc := 2) (v := 0) (by decide) d_M_history_2 ?_
    refine AW.aload_n X (pc := 3) 0 rfl rfl d_M_history_3 ?_
    refine AW.get X (pc := 4) (k := 250) (ci := 5) (j := 20) (v := .int (μ 250 20)) (by omega) rfl rfl in_M (by decide) wf_M_176 rfl rfl d_M_history_4 ?_
    refine AW.val (w := .int (nI (dnN σ))) (congrArg Value.int (hM.go)) ?_
    refine AW.iconst X (pc := 7) (v := 1) (by decide) d_M_history_7 ?_
    refine AW.isub X (pc := 8) d_M_history_8 ?_
    refine AW.callS X (pc := 9) (nA := 3) [.int (nI q), .int 0, .int ((nI (dnN σ)) - 1)] [.ref 250] (c_M_in (kOf G ad N) (nI q) 0 ((nI (dnN σ)) - 1) μ hN) (gv_S wm_M_76 ws_M_in wn_M kw_M_in) rfl (by decide +kernel) rfl ⟨Nat.le_of_ble_eq_true rfl, Nat.le_of_ble_eq_true rfl⟩ ⟨Nat.zero_le _, Nat.zero_le _⟩ (Nat.le_of_ble_eq_true rfl) d_M_history_9 rfl (fun v μ2 hq => ?_)
    obtain ⟨rfl, hm⟩ := hq
    rw [hm]
    clear hm
    show AW G (rmD 1) 2 (0, 0, ad, N, fb) 12 [(0, .ref 250), (1, .int (nI q))] [.int (bi (inB 0 ((nI (dnN σ)) - 1) (nI q))), .ref 250] μ
    refine AW.if_eq X (pc := 12) 19 d_M_history_12 (by decide) (fun c_12 => absurd c_12 (by rw [hB]; decide)) (fun c_12 => ?_)
    refine AW.iconst X (pc := 15) (v := 0) (by decide) d_M_history_15 ?_
    refine AW.goto X (pc := 16) 20 d_M_history_16 (by decide) ?_
    refine AW.put X (pc := 20) (k := 250) (ci := 5) (j := 0) (x := 0) (ty := .int) ft_M (by omega) rfl rfl in_M ft_M_ok n_M (by decide) wf_M_72 rfl rfl rfl rfl rfl d_M_history_20 ?_
    refine AW.aload_n X (pc := 23) 0 rfl rfl d_M_history_23 ?_
    refine AW.get X (pc := 24) (k := 250) (ci := 5) (j := 0) (v := .int ((m_up μ 250 0 0) 250 0)) (by omega) rfl rfl in_M (by decide) wf_M_72 rfl rfl d_M_history_24 ?_
    refine AW.val (w := .int 0) (congrArg Value.int (m_up_self _ _ _ _)) ?_
    refine AW.if_le X (pc := 27) 34 d_M_history_27 (by decide) (fun c_27 => ?_) (fun c_27 => absurd c_27 (by decide))
    refine AW.aload_n X (pc := 34) 0 rfl rfl d_M_history_34 ?_
    refine AW.get X (pc := 35) (k := 250) (ci := 5) (j := 21) (v := .ref 267) (by omega) rfl rfl in_M (by decide) wf_M_60 rfl rfl d_M_history_35 ?_
    refine AW.iload_n X (pc := 38) 1 rfl rfl d_M_history_38 ?_
    refine AW.ialdN X (pc := 39) (k := 267) (t := 0) (n := 60) (j := q) (by omega) rfl rfl (by omega) (by decide) d_M_history_39 ?_
    refine AW.val (w := .int (nI (diN σ q))) (congrArg Value.int ((congrFun (m_up_row (by decide)) _).trans (hM.hi hq))) ?_
    exact hret 40 _ _ _ d_M_history_40 (by rw [show G_history σ μ (nI q) = (nI (diN σ q), (m_up μ 250 0 0)) by first | (simp [G_history, hB, hcq, c_12, c_27]; done) | simp +contextual [G_history, hB, hcq, c_12, c_27]]; exact ⟨rfl, rfl⟩)
set_option maxHeartbeats 4000000 in
set_option maxRecDepth 100000 in
theorem c_M_sign (K : KTy) (σ : Mu) (nr : Nat) (c : Int32) (μ : Mu) (hN : 272 ≤ KN K) (hI : CI σ nr) (hM : MR σ μ nr) (hV : VR σ nr) : CT K y_M_sign (k_M_sign :: GT) 0 [.ref 250, .int c] μ (fun v μ2 => v = none ∧ μ2 = G_sign σ μ c) := by
  refine CT.void (cc := b_M_sign) (maxL := 2) (by decide) rfl rfl (Nat.le_of_ble_eq_true rfl) ?_
  intro G ad N hK X hret
  subst hK
  have hN : 272 ≤ N := hN
  have hnr := hI.nr
  have hM0 := (hM.thr 0).1
  have hMr := hM.thr 0
  have htl := hI.tl.2
  show AW G (rmD 0) 2 (0, 0, ad, N, fb) 0 [(0, .ref 250), (1, .int c)] [] μ
  refine AW.aload_n X (pc := 0) 0 rfl rfl d_M_sign_0 ?_
  refine AW.iconst X (pc := 1) (v := 0) (by decide) d_M_sign_1 ?_
  refine AW.put X (pc := 2) (k := 250) (ci := 5) (j := 0) (x := 0) (ty := .int) ft_M (by omega) rfl rfl in_M ft_M_ok n_M (by decide) wf_M_72 rfl rfl rfl rfl rfl d_M_sign_2 ?_
  refine AW.aload_n X (pc := 5) 0 rfl rfl d_M_sign_5 ?_
  refine AW.get X (pc := 6) (k := 250) (ci := 5) (j := 2) (v := .int ((m_up μ 250 0 0) 250 2)) (by omega) rfl rfl in_M (by decide) wf_M_84 rfl rfl d_M_sign_6 ?_
  refine AW.val (w := .int (nI (tlN σ))) (congrArg Value.int (hMr.sz)) ?_
  refine AW.bipush X (pc := 9) (v := 40) (by decide) d_M_sign_9 ?_
  refine AW.icmp_ne X (pc := 11) 15 d_M_sign_11 (by decide) (fun c_11 => ?_) (fun c_11 => ?_)
  · rw [i_eq (nI_toInt (show tlN σ < 2 ^ 31 by omega)) (show (40 : Int32).toInt = 40 by decide)] at c_11
    have c_11 : ¬ tlN σ = 40 := by omega
    refine AW.aload_n X (pc := 15) 0 rfl rfl d_M_sign_15 ?_
    refine AW.get X (pc := 16) (k := 250) (ci := 5) (j := 1) (v := .ref 251) (by omega) rfl rfl in_M (by decide) wf_M_7 rfl rfl d_M_sign_16 ?_
    refine AW.aload_n X (pc := 19) 0 rfl rfl d_M_sign_19 ?_
    refine AW.get X (pc := 20) (k := 250) (ci := 5) (j := 2) (v := .int ((m_up μ 250 0 0) 250 2)) (by omega) rfl rfl in_M (by decide) wf_M_84 rfl rfl d_M_sign_20 ?_
    refine AW.val (w := .int (nI (tlN σ))) (congrArg Value.int (hMr.sz)) ?_
    refine AW.iload_n X (pc := 23) 1 rfl rfl d_M_sign_23 ?_
    refine AW.i2b X (pc := 24) d_M_sign_24 ?_
    refine AW.bastN X (pc := 25) (k := 251) (t := 4) (n := 40) (j := tlN σ) (x := c.toInt8.toInt32) (by omega) rfl rfl (by omega) (by decide) (pk_vb _) d_M_sign_25 ?_
    refine AW.aload_n X (pc := 26) 0 rfl rfl d_M_sign_26 ?_
    refine AW.dup X (pc := 27) rfl d_M_sign_27 ?_
    refine AW.get X (pc := 28) (k := 250) (ci := 5) (j := 2) (v := .int ((m_up (m_up μ 250 0 0) 251 (tlN σ) c.toInt8.toInt32) 250 2)) (by omega) rfl rfl in_M (by decide) wf_M_84 rfl rfl d_M_sign_28 ?_
    refine AW.val (w := .int (nI (tlN σ))) (congrArg Value.int ((congrFun (m_up_row (by decide)) _).trans hMr.sz)) ?_
    refine AW.iconst X (pc := 31) (v := 1) (by decide) d_M_sign_31 ?_
    refine AW.iadd X (pc := 32) d_M_sign_32 ?_
    refine AW.val (w := .int (nI ((tlN σ) + 1))) (congrArg Value.int (nI_add (tlN σ) 1)) ?_
    refine AW.put X (pc := 33) (k := 250) (ci := 5) (j := 2) (x := nI ((tlN σ) + 1)) (ty := .int) ft_M (by omega) rfl rfl in_M ft_M_ok n_M (by decide) wf_M_84 rfl rfl rfl rfl rfl d_M_sign_33 ?_
    exact hret 36 _ _ d_M_sign_36 ⟨rfl, by rw [G_sign, if_neg c_11]⟩
  · rw [i_eq (nI_toInt (show tlN σ < 2 ^ 31 by omega)) (show (40 : Int32).toInt = 40 by decide)] at c_11
    have c_11 : tlN σ = 40 := by omega
    exact hret 14 _ _ d_M_sign_14 ⟨rfl, by rw [G_sign, if_pos c_11]⟩
