set_option maxHeartbeats 4000000 in
set_option maxRecDepth 100000 in
theorem c_R_ek (K : KTy) (r nr : Nat) (μ : Mu) (hN : 272 ≤ KN K) (hr : r < nr) (hI : CI μ nr) (hKN : KN K = 272 + 3 * nr) : CT K y_R_eventKind (k_R_eventKind :: GT) 0 [.ref (272 + 3 * r)] μ (fun v μ2 => v = some (.int (nI (ekN μ r))) ∧ μ2 = μ) := by
  refine CT.int (cc := b_R_eventKind) (maxL := 1) (by decide) rfl rfl (Nat.le_of_ble_eq_true rfl) ?_
  intro G ad N hK X hret
  subst hK
  have hN : 272 ≤ N := hN
  have hKN : N = 272 + 3 * nr := hKN
  have hnr := hI.nr
  show AW G (rmD 0) 1 (0, 0, ad, N, fb) 0 [(0, .ref (272 + 3 * r))] [] μ
  refine AW.aload_n X (pc := 0) 0 rfl rfl d_R_eventKind_0 ?_
  refine AW.get X (pc := 1) (k := 272 + 3 * r) (ci := 1) (j := 0) (v := .int (μ (272 + 3 * r) 0)) (by omega) (sh_r _) rfl in_R (by decide) wf_R_18 rfl rfl d_R_eventKind_1 ?_
  exact hret 4 _ _ _ d_R_eventKind_4 ⟨by rw [(hI.ek hr).1], rfl⟩
set_option maxHeartbeats 4000000 in
set_option maxRecDepth 100000 in
theorem c_U_hasRule (K : KTy) (i r nr : Nat) (μ : Mu) (hN : 272 ≤ KN K) (hi : i < 60) (hr : r < nr) (hI : CI μ nr) (hKN : KN K = 272 + 3 * nr) : CT K y_U_hasRule (k_U_hasRule :: GT) 0 [.ref (5 + 4 * i), .ref (272 + 3 * r)] μ (fun v μ2 => v = some (.int (bi (anyB (fun j => decide (rwN μ i j = r)) (rnN μ i)))) ∧ μ2 = μ) := by
  refine CT.bool (cc := b_U_hasRule) (maxL := 3) (by decide) rfl rfl (Nat.le_of_ble_eq_true rfl) ?_
  intro G ad N hK X hret
  subst hK
  have hN : 272 ≤ N := hN
  have hKN : N = 272 + 3 * nr := hKN
  have hnr := hI.nr
  have hrn := (hI.rn hi).2
  show AW G (rmD 0) 3 (0, 0, ad, N, fb) 0 [(0, .ref (5 + 4 * i)), (1, .ref (272 + 3 * r))] [] μ
  have key : ∀ (n : Nat) (j : Nat) (x : Int32), rnN μ i - j < n → (j ≤ rnN μ i) → (x = nI j) → (∀ q, q < j → decide (rwN μ i q = r) = false) → AW G (rmD 0) 3 (0, 0, ad, N, fb) 2 [(2, .int x), (0, .ref (5 + 4 * i)), (1, .ref (272 + 3 * r))] [] μ := by
    intro n
    induction n with
    | zero =>
      intro j x hlt
      exact absurd hlt (Nat.not_lt_zero _)
    | succ n ih =>
      intro j x hlt hj ex hp
      subst ex
      refine AW.iload_n X (pc := 2) 0 rfl rfl d_U_hasRule_2 ?_
      refine AW.aload_n X (pc := 3) 1 rfl rfl d_U_hasRule_3 ?_
      refine AW.get X (pc := 4) (k := 5 + 4 * i) (ci := 3) (j := 2) (v := .int (μ (5 + 4 * i) 2)) (by omega) (sh_u hi) rfl in_U (by decide) wf_U_40 rfl rfl d_U_hasRule_4 ?_
      refine AW.val (w := .int (nI (rnN μ i))) (congrArg Value.int ((hI.rn hi).1)) ?_
      refine AW.icmp_ge X (pc := 7) 37 d_U_hasRule_7 (by decide) (fun c_7 => ?_) (fun c_7 => ?_)
      · rw [i_le (nI_toInt (show rnN μ i < 2 ^ 31 by omega)) (nI_toInt (show j < 2 ^ 31 by omega))] at c_7
        refine AW.iconst X (pc := 37) (v := 0) (by decide) d_U_hasRule_37 ?_
        exact hret 38 _ _ _ d_U_hasRule_38 rfl ⟨by rw [anyB_f (fun q hq => hp q (by omega))]; rfl, rfl⟩
      · rw [i_le (nI_toInt (show rnN μ i < 2 ^ 31 by omega)) (nI_toInt (show j < 2 ^ 31 by omega))] at c_7
        have hw := (hI.rw hi (show j < rnN μ i by omega)).2
        refine AW.iload_n X (pc := 10) 0 rfl rfl d_U_hasRule_10 ?_
        refine AW.aload_n X (pc := 11) 1 rfl rfl d_U_hasRule_11 ?_
        refine AW.get X (pc := 12) (k := 5 + 4 * i) (ci := 3) (j := 1) (v := .ref (5 + 4 * i + 2)) (by omega) (sh_u hi) rfl in_U (by decide) wf_U_17 rfl rfl d_U_hasRule_12 ?_
        refine AW.alen X (pc := 15) (k := 5 + 4 * i + 2) (t := 2) (n := 4) (kd := 2) (v := 4) (by omega) (sh_ur hi) rfl (by decide) d_U_hasRule_15 ?_
        refine AW.icmp_ge X (pc := 16) 37 d_U_hasRule_16 (by decide) (fun c_16 => absurd c_16 (by rw [i_le (show (4 : Int32).toInt = 4 by decide) (nI_toInt (show j < 2 ^ 31 by omega))]; omega)) (fun c_16 => ?_)
        refine AW.aload_n X (pc := 19) 1 rfl rfl d_U_hasRule_19 ?_
        refine AW.get X (pc := 20) (k := 5 + 4 * i) (ci := 3) (j := 1) (v := .ref (5 + 4 * i + 2)) (by omega) (sh_u hi) rfl in_U (by decide) wf_U_17 rfl rfl d_U_hasRule_20 ?_
        refine AW.iload_n X (pc := 23) 0 rfl rfl d_U_hasRule_23 ?_
        refine AW.aaldN X (pc := 24) (k := 5 + 4 * i + 2) (t := 2) (n := 4) (j := j) (v := .ref (272 + 3 * (rwN μ i j))) (by omega) (sh_ur hi) rfl (by omega) (by decide) (by rw [(hI.rw hi (show j < rnN μ i by omega)).1]; exact m_rv_nI (by omega)) d_U_hasRule_24 ?_
        refine AW.aload_n X (pc := 25) 2 rfl rfl d_U_hasRule_25 ?_
        refine AW.acmp_ne X (pc := 26) 31 (by omega) (by omega) d_U_hasRule_26 (by decide) (fun c_26 => ?_) (fun c_26 => ?_)
        · refine AW.iinc X (pc := 31) (v := nI (j + 1)) (lv2 := [(2, .int (nI (j + 1))), (0, .ref (5 + 4 * i)), (1, .ref (272 + 3 * r))]) 0 rfl (nI_1 _) d_U_hasRule_31 (by decide) rfl ?_
          refine AW.goto X (pc := 34) 2 d_U_hasRule_34 (by decide) ?_
          exact ih (j + 1) _ (by omega) (by omega) rfl (lt_s hp (decide_eq_false (by omega)))
        · refine AW.iconst X (pc := 29) (v := 1) (by decide) d_U_hasRule_29 ?_
          exact hret 30 _ _ _ d_U_hasRule_30 rfl ⟨by rw [anyB_t (j := j) (by omega) (decide_eq_true (by omega))]; rfl, rfl⟩
  refine AW.iconst X (pc := 0) (v := 0) (by decide) d_U_hasRule_0 ?_
  refine AW.istore_n X (pc := 1) (lv2 := [(2, .int 0), (0, .ref (5 + 4 * i)), (1, .ref (272 + 3 * r))]) rfl d_U_hasRule_1 (by decide) rfl ?_
  exact key (rnN μ i + 1) 0 _ (by omega) (Nat.zero_le _) nI_0.symm lt_0
set_option maxHeartbeats 4000000 in
set_option maxRecDepth 100000 in
theorem c_U_hasBrokenRule (K : KTy) (i nr : Nat) (μ : Mu) (hN : 272 ≤ KN K) (hi : i < 60) (hI : CI μ nr) (hKN : KN K = 272 + 3 * nr) : CT K y_U_hasBrokenRule (k_U_hasBrokenRule :: GT) 1 [.ref (5 + 4 * i)] μ (fun v μ2 => v = some (.int (bi (f_fails μ i))) ∧ μ2 = μ) := by
  refine CT.bool (cc := b_U_hasBrokenRule) (maxL := 3) (by decide) rfl rfl (Nat.le_of_ble_eq_true rfl) ?_
  intro G ad N hK X hret
  subst hK
  have hN : 272 ≤ N := hN
  have hKN : N = 272 + 3 * nr := hKN
  have hnr := hI.nr
  have hrn := (hI.rn hi).2
  show AW G (rmD 1) 3 (0, 0, ad, N, fb) 0 [(0, .ref (5 + 4 * i))] [] μ
  have key : ∀ (n : Nat) (j : Nat) (x : Int32), rnN μ i - j < n → (j ≤ rnN μ i) → (x = nI j) → (∀ q, q < j → brB μ (rwN μ i q) = false) → AW G (rmD 1) 3 (0, 0, ad, N, fb) 2 [(1, .int x), (0, .ref (5 + 4 * i))] [] μ := by
    intro n
    induction n with
    | zero =>
      intro j x hlt
      exact absurd hlt (Nat.not_lt_zero _)
    | succ n ih =>
      intro j x hlt hj ex hp
      subst ex
      refine AW.iload_n X (pc := 2) 0 rfl rfl d_U_hasBrokenRule_2 ?_
      refine AW.aload_n X (pc := 3) 1 rfl rfl d_U_hasBrokenRule_3 ?_
      refine AW.get X (pc := 4) (k := 5 + 4 * i) (ci := 3) (j := 2) (v := .int (μ (5 + 4 * i) 2)) (by omega) (sh_u hi) rfl in_U (by decide) wf_U_40 rfl rfl d_U_hasBrokenRule_4 ?_
      refine AW.val (w := .int (nI (rnN μ i))) (congrArg Value.int ((hI.rn hi).1)) ?_
      refine AW.icmp_ge X (pc := 7) 45 d_U_hasBrokenRule_7 (by decide) (fun c_7 => ?_) (fun c_7 => ?_)
      · rw [i_le (nI_toInt (show rnN μ i < 2 ^ 31 by omega)) (nI_toInt (show j < 2 ^ 31 by omega))] at c_7
        refine AW.iconst X (pc := 45) (v := 0) (by decide) d_U_hasBrokenRule_45 ?_
        exact hret 46 _ _ _ d_U_hasBrokenRule_46 rfl ⟨by rw [f_fails, anyB_f (fun q hq => hp q (by omega))]; rfl, rfl⟩
      · rw [i_le (nI_toInt (show rnN μ i < 2 ^ 31 by omega)) (nI_toInt (show j < 2 ^ 31 by omega))] at c_7
        have hw := (hI.rw hi (show j < rnN μ i by omega)).2
        refine AW.iload_n X (pc := 10) 0 rfl rfl d_U_hasBrokenRule_10 ?_
        refine AW.aload_n X (pc := 11) 1 rfl rfl d_U_hasBrokenRule_11 ?_
        refine AW.get X (pc := 12) (k := 5 + 4 * i) (ci := 3) (j := 1) (v := .ref (5 + 4 * i + 2)) (by omega) (sh_u hi) rfl in_U (by decide) wf_U_17 rfl rfl d_U_hasBrokenRule_12 ?_
        refine AW.alen X (pc := 15) (k := 5 + 4 * i + 2) (t := 2) (n := 4) (kd := 2) (v := 4) (by omega) (sh_ur hi) rfl (by decide) d_U_hasBrokenRule_15 ?_
        refine AW.icmp_ge X (pc := 16) 45 d_U_hasBrokenRule_16 (by decide) (fun c_16 => absurd c_16 (by rw [i_le (show (4 : Int32).toInt = 4 by decide) (nI_toInt (show j < 2 ^ 31 by omega))]; omega)) (fun c_16 => ?_)
        refine AW.aload_n X (pc := 19) 1 rfl rfl d_U_hasBrokenRule_19 ?_
        refine AW.get X (pc := 20) (k := 5 + 4 * i) (ci := 3) (j := 1) (v := .ref (5 + 4 * i + 2)) (by omega) (sh_u hi) rfl in_U (by decide) wf_U_17 rfl rfl d_U_hasBrokenRule_20 ?_
        refine AW.iload_n X (pc := 23) 0 rfl rfl d_U_hasBrokenRule_23 ?_
        refine AW.aaldN X (pc := 24) (k := 5 + 4 * i + 2) (t := 2) (n := 4) (j := j) (v := .ref (272 + 3 * (rwN μ i j))) (by omega) (sh_ur hi) rfl (by omega) (by decide) (by rw [(hI.rw hi (show j < rnN μ i by omega)).1]; exact m_rv_nI (by omega)) d_U_hasBrokenRule_24 ?_
        refine AW.astore_n X (pc := 25) (lv2 := [(2, .ref (272 + 3 * (rwN μ i j))), (1, .int (nI j)), (0, .ref (5 + 4 * i))]) rfl d_U_hasBrokenRule_25 (by decide) rfl ?_
        refine AW.aload_n X (pc := 26) 0 rfl rfl d_U_hasBrokenRule_26 ?_
        refine AW.ifnull X (pc := 27) d_U_hasBrokenRule_27 ?_
        refine AW.aload_n X (pc := 30) 0 rfl rfl d_U_hasBrokenRule_30 ?_
        refine AW.callV X (pc := 31) (b := 272 + 3 * (rwN μ i j)) (ci := 1) (nA := 0) [] [] (c_R_isBroken (kOf G ad N) (rwN μ i j) (brB μ (rwN μ i j)) μ hN (show 272 + 3 * (rwN μ i j) + 2 < N by omega) (hI.br hw)) (gv_V wm_U_43 wi_R_isBroken wl_R_isBroken wn_R kw_R_isBroken) rfl (by decide +kernel) rfl (by omega) (sh_r _) rfl ⟨Nat.le_of_ble_eq_true rfl, Nat.le_of_ble_eq_true rfl⟩ ⟨Nat.zero_le _, Nat.zero_le _⟩ (Nat.le_of_ble_eq_true rfl) d_U_hasBrokenRule_31 rfl (fun v μ2 hq => ?_)
        obtain ⟨rfl, hm⟩ := hq
        rw [hm]
        clear hm
        show AW G (rmD 1) 3 (0, 0, ad, N, fb) 34 [(2, .ref (272 + 3 * (rwN μ i j))), (1, .int (nI j)), (0, .ref (5 + 4 * i))] [.int (bi (brB μ (rwN μ i j)))] μ
        refine AW.if_eq X (pc := 34) 39 d_U_hasBrokenRule_34 (by decide) (fun c_34 => ?_) (fun c_34 => ?_)
        · have c_34 := bi_eq.mp c_34
          refine AW.iinc X (pc := 39) (v := nI (j + 1)) (lv2 := [(1, .int (nI (j + 1))), (2, .ref (272 + 3 * (rwN μ i j))), (0, .ref (5 + 4 * i))]) 1 rfl (nI_1 _) d_U_hasBrokenRule_39 (by decide) rfl ?_
          refine AW.goto X (pc := 42) 2 d_U_hasBrokenRule_42 (by decide) ?_
          refine AW.locs (lv2 := [(1, .int (nI (j + 1))), (0, .ref (5 + 4 * i))]) [0, 2] rfl ?_
          exact ih (j + 1) _ (by omega) (by omega) rfl (lt_s hp c_34)
        · have c_34 := bi_ne.mp c_34
          refine AW.iconst X (pc := 37) (v := 1) (by decide) d_U_hasBrokenRule_37 ?_
          exact hret 38 _ _ _ d_U_hasBrokenRule_38 rfl ⟨by rw [f_fails, anyB_t (j := j) (by omega) c_34]; rfl, rfl⟩
  refine AW.iconst X (pc := 0) (v := 0) (by decide) d_U_hasBrokenRule_0 ?_
  refine AW.istore_n X (pc := 1) (lv2 := [(1, .int 0), (0, .ref (5 + 4 * i))]) rfl d_U_hasBrokenRule_1 (by decide) rfl ?_
  exact key (rnN μ i + 1) 0 _ (by omega) (Nat.zero_le _) nI_0.symm lt_0
set_option maxHeartbeats 4000000 in
set_option maxRecDepth 100000 in
theorem c_U_decidingRule (K : KTy) (i nr : Nat) (on : Int32) (μ : Mu) (hN : 272 ≤ KN K) (hi : i < 60) (hI : CI μ nr) (hKN : KN K = 272 + 3 * nr) : CT K y_U_decidingRule (k_U_decidingRule :: GT) 2 [.ref (5 + 4 * i), .int on] μ (fun v μ2 => v = some (f_decv μ i on) ∧ μ2 = μ) := by
  refine CT.ref (cc := b_U_decidingRule) (maxL := 7) (by decide) rfl rfl (Nat.le_of_ble_eq_true rfl) ?_
  intro G ad N hK X hret
  subst hK
  have hN : 272 ≤ N := hN
  have hKN : N = 272 + 3 * nr := hKN
  have hnr := hI.nr
  have hrn := (hI.rn hi).2
  show AW G (rmD 2) 7 (0, 0, ad, N, fb) 0 [(0, .ref (5 + 4 * i)), (1, .int on)] [] μ
  have key : ∀ (n : Nat) (j : Nat) (x : Int32) (y : Int32) (dv : Value), rnN μ i - j < n → (j ≤ rnN μ i) → (x = nI j) → (y = (f_scan (f_day μ i on) j).2) → (dv = (match (f_scan (f_day μ i on) j).1 with | none => .null | some p => .ref (272 + 3 * rwN μ i p))) → (∀ q, q < j → (brB μ (rwN μ i q) || decide (f_day μ i on q = -1)) = false) → AW G (rmD 2) 7 (0, 0, ad, N, fb) 7 [(4, .int x), (3, .int y), (2, dv), (0, .ref (5 + 4 * i)), (1, .int on)] [] μ := by
    intro n
    induction n with
    | zero =>
      intro j x y dv hlt
      exact absurd hlt (Nat.not_lt_zero _)
    | succ n ih =>
      intro j x y dv hlt hj ex ey ed hp
      subst ex
      refine AW.iload X (pc := 7) 0 rfl d_U_decidingRule_7 ?_
      refine AW.aload_n X (pc := 9) 3 rfl rfl d_U_decidingRule_9 ?_
      refine AW.get X (pc := 10) (k := 5 + 4 * i) (ci := 3) (j := 2) (v := .int (μ (5 + 4 * i) 2)) (by omega) (sh_u hi) rfl in_U (by decide) wf_U_40 rfl rfl d_U_decidingRule_10 ?_
      refine AW.val (w := .int (nI (rnN μ i))) (congrArg Value.int ((hI.rn hi).1)) ?_
      refine AW.icmp_ge X (pc := 13) 93 d_U_decidingRule_13 (by decide) (fun c_13 => ?_) (fun c_13 => ?_)
      · rw [i_le (nI_toInt (show rnN μ i < 2 ^ 31 by omega)) (nI_toInt (show j < 2 ^ 31 by omega))] at c_13
        have hjn : rnN μ i = j := by omega
        have hno : f_dec μ i on = (f_scan (f_day μ i on) j).1 := by rw [f_dec, if_neg (by rw [anyB_f (fun q hq => hp q (by omega))]; decide), hjn]
        cases hsc : (f_scan (f_day μ i on) j).1 with
        | none =>
          rw [hsc] at ed hno
          subst ed
          show AW G (rmD 2) 7 (0, 0, ad, N, fb) 93 [(4, .int (nI j)), (3, .int y), (2, .null), (0, .ref (5 + 4 * i)), (1, .int on)] [] μ
          refine AW.aload_nN X (pc := 93) 2 rfl rfl d_U_decidingRule_93 ?_
          exact hret 94 _ _ _ d_U_decidingRule_94 (by first | exact Or.inl rfl | exact Or.inr ⟨_, rfl⟩) ⟨by rw [f_decv, hno], rfl⟩
        | some p =>
          rw [hsc] at ed hno
          subst ed
          show AW G (rmD 2) 7 (0, 0, ad, N, fb) 93 [(4, .int (nI j)), (3, .int y), (2, .ref (272 + 3 * (rwN μ i p))), (0, .ref (5 + 4 * i)), (1, .int on)] [] μ
          refine AW.aload_n X (pc := 93) 2 rfl rfl d_U_decidingRule_93 ?_
          exact hret 94 _ _ _ d_U_decidingRule_94 (by first | exact Or.inl rfl | exact Or.inr ⟨_, rfl⟩) ⟨by rw [f_decv, hno], rfl⟩
      · rw [i_le (nI_toInt (show rnN μ i < 2 ^ 31 by omega)) (nI_toInt (show j < 2 ^ 31 by omega))] at c_13
        have hw := (hI.rw hi (show j < rnN μ i by omega)).2
        refine AW.iload X (pc := 16) 0 rfl d_U_decidingRule_16 ?_
        refine AW.aload_n X (pc := 18) 3 rfl rfl d_U_decidingRule_18 ?_
        refine AW.get X (pc := 19) (k := 5 + 4 * i) (ci := 3) (j := 1) (v := .ref (5 + 4 * i + 2)) (by omega) (sh_u hi) rfl in_U (by decide) wf_U_17 rfl rfl d_U_decidingRule_19 ?_
        refine AW.alen X (pc := 22) (k := 5 + 4 * i + 2) (t := 2) (n := 4) (kd := 2) (v := 4) (by omega) (sh_ur hi) rfl (by decide) d_U_decidingRule_22 ?_
        refine AW.icmp_ge X (pc := 23) 93 d_U_decidingRule_23 (by decide) (fun c_23 => absurd c_23 (by rw [i_le (show (4 : Int32).toInt = 4 by decide) (nI_toInt (show j < 2 ^ 31 by omega))]; omega)) (fun c_23 => ?_)
        refine AW.aload_n X (pc := 26) 3 rfl rfl d_U_decidingRule_26 ?_
        refine AW.get X (pc := 27) (k := 5 + 4 * i) (ci := 3) (j := 1) (v := .ref (5 + 4 * i + 2)) (by omega) (sh_u hi) rfl in_U (by decide) wf_U_17 rfl rfl d_U_decidingRule_27 ?_
        refine AW.iload X (pc := 30) 0 rfl d_U_decidingRule_30 ?_
        refine AW.aaldN X (pc := 32) (k := 5 + 4 * i + 2) (t := 2) (n := 4) (j := j) (v := .ref (272 + 3 * (rwN μ i j))) (by omega) (sh_ur hi) rfl (by omega) (by decide) (by rw [(hI.rw hi (show j < rnN μ i by omega)).1]; exact m_rv_nI (by omega)) d_U_decidingRule_32 ?_
        refine AW.astore X (pc := 33) (lv2 := [(5, .ref (272 + 3 * (rwN μ i j))), (4, .int (nI j)), (3, .int y), (2, dv), (0, .ref (5 + 4 * i)), (1, .int on)]) d_U_decidingRule_33 (by decide) rfl ?_
        refine AW.aload X (pc := 35) 0 rfl d_U_decidingRule_35 ?_
        refine AW.ifnull X (pc := 37) d_U_decidingRule_37 ?_
        refine AW.aload X (pc := 40) 0 rfl d_U_decidingRule_40 ?_
        refine AW.callV X (pc := 42) (b := 272 + 3 * (rwN μ i j)) (ci := 1) (nA := 0) [] [] (c_R_isBroken (kOf G ad N) (rwN μ i j) (brB μ (rwN μ i j)) μ hN (show 272 + 3 * (rwN μ i j) + 2 < N by omega) (hI.br hw)) (gv_V wm_U_43 wi_R_isBroken wl_R_isBroken wn_R kw_R_isBroken) rfl (by decide +kernel) rfl (by omega) (sh_r _) rfl ⟨Nat.le_of_ble_eq_true rfl, Nat.le_of_ble_eq_true rfl⟩ ⟨Nat.zero_le _, Nat.zero_le _⟩ (Nat.le_of_ble_eq_true rfl) d_U_decidingRule_42 rfl (fun v μ2 hq => ?_)
        obtain ⟨rfl, hm⟩ := hq
        rw [hm]
        clear hm
        show AW G (rmD 2) 7 (0, 0, ad, N, fb) 45 [(5, .ref (272 + 3 * (rwN μ i j))), (4, .int (nI j)), (3, .int y), (2, dv), (0, .ref (5 + 4 * i)), (1, .int on)] [.int (bi (brB μ (rwN μ i j)))] μ
        refine AW.if_eq X (pc := 45) 50 d_U_decidingRule_45 (by decide) (fun c_45 => ?_) (fun c_45 => ?_)
        · have c_45 := bi_eq.mp c_45
          refine AW.aload X (pc := 50) 0 rfl d_U_decidingRule_50 ?_
          refine AW.aload_n X (pc := 52) 4 rfl rfl d_U_decidingRule_52 ?_
          refine AW.aload X (pc := 53) 0 rfl d_U_decidingRule_53 ?_
          refine AW.callV X (pc := 55) (b := 272 + 3 * (rwN μ i j)) (ci := 1) (nA := 0) [] [.ref (5 + 4 * i), .ref (272 + 3 * (rwN μ i j))] (c_R_ek (kOf G ad N) (rwN μ i j) nr μ hN hw hI hKN) (gv_V wm_U_51 wi_R_eventKind wl_R_eventKind wn_R kw_R_eventKind) rfl (by decide +kernel) rfl (by omega) (sh_r _) rfl ⟨Nat.le_of_ble_eq_true rfl, Nat.le_of_ble_eq_true rfl⟩ ⟨Nat.zero_le _, Nat.zero_le _⟩ (Nat.le_of_ble_eq_true rfl) d_U_decidingRule_55 rfl (fun v μ2 hq => ?_)
          obtain ⟨rfl, hm⟩ := hq
          rw [hm]
          clear hm
          show AW G (rmD 2) 7 (0, 0, ad, N, fb) 58 [(5, .ref (272 + 3 * (rwN μ i j))), (4, .int (nI j)), (3, .int y), (2, dv), (0, .ref (5 + 4 * i)), (1, .int on)] [.int (nI (ekN μ (rwN μ i j))), .ref (5 + 4 * i), .ref (272 + 3 * (rwN μ i j))] μ
          refine AW.callV X (pc := 58) (b := 5 + 4 * i) (ci := 3) (nA := 1) [.int (nI (ekN μ (rwN μ i j)))] [.ref (272 + 3 * (rwN μ i j))] (c_U_eventDay (kOf G ad N) i (ekN μ (rwN μ i j)) μ hN hi (hI.ek hw).2) (gv_V wm_U_55 wi_U_eventDay wl_U_eventDay wn_U kw_U_eventDay) rfl (by decide +kernel) rfl (by omega) (sh_u hi) rfl ⟨Nat.le_of_ble_eq_true rfl, Nat.le_of_ble_eq_true rfl⟩ ⟨Nat.zero_le _, Nat.zero_le _⟩ (Nat.le_of_ble_eq_true rfl) d_U_decidingRule_58 rfl (fun v μ2 hq => ?_)
          obtain ⟨rfl, hm⟩ := hq
          rw [hm]
          clear hm
          show AW G (rmD 2) 7 (0, 0, ad, N, fb) 61 [(5, .ref (272 + 3 * (rwN μ i j))), (4, .int (nI j)), (3, .int y), (2, dv), (0, .ref (5 + 4 * i)), (1, .int on)] [.int (μ (5 + 4 * i + 1) (ekN μ (rwN μ i j))), .ref (272 + 3 * (rwN μ i j))] μ
          refine AW.iload_n X (pc := 61) 5 rfl rfl d_U_decidingRule_61 ?_
          refine AW.callV X (pc := 62) (b := 272 + 3 * (rwN μ i j)) (ci := 1) (nA := 2) [.int (μ (5 + 4 * i + 1) (ekN μ (rwN μ i j))), .int on] [] (c_R_dueDay (kOf G ad N) (rwN μ i j) nr (μ (5 + 4 * i + 1) (ekN μ (rwN μ i j))) on μ hN hw hI hKN) (gv_V wm_U_59 wi_R_dueDay wl_R_dueDay wn_R kw_R_dueDay) rfl (by decide +kernel) rfl (by omega) (sh_r _) rfl ⟨Nat.le_of_ble_eq_true rfl, Nat.le_of_ble_eq_true rfl⟩ ⟨Nat.zero_le _, Nat.zero_le _⟩ (Nat.le_of_ble_eq_true rfl) d_U_decidingRule_62 rfl (fun v μ2 hq => ?_)
          obtain ⟨rfl, hm⟩ := hq
          rw [hm]
          clear hm
          show AW G (rmD 2) 7 (0, 0, ad, N, fb) 65 [(5, .ref (272 + 3 * (rwN μ i j))), (4, .int (nI j)), (3, .int y), (2, dv), (0, .ref (5 + 4 * i)), (1, .int on)] [.int (f_day μ i on j)] μ
          refine AW.istore X (pc := 65) (lv2 := [(6, .int (f_day μ i on j)), (5, .ref (272 + 3 * (rwN μ i j))), (4, .int (nI j)), (3, .int y), (2, dv), (0, .ref (5 + 4 * i)), (1, .int on)]) d_U_decidingRule_65 (by decide) rfl ?_
          refine AW.iload X (pc := 67) 0 rfl d_U_decidingRule_67 ?_
          refine AW.iconst X (pc := 69) (v := -1) (by decide) d_U_decidingRule_69 ?_
          refine AW.icmp_ne X (pc := 70) 75 d_U_decidingRule_70 (by decide) (fun c_70 => ?_) (fun c_70 => ?_)
          · refine AW.iload X (pc := 75) 0 rfl d_U_decidingRule_75 ?_
            refine AW.iload_n X (pc := 77) 3 rfl rfl d_U_decidingRule_77 ?_
            refine AW.icmp_le X (pc := 78) 87 d_U_decidingRule_78 (by decide) (fun c_78 => ?_) (fun c_78 => ?_)
            · refine AW.iinc X (pc := 87) (v := nI (j + 1)) (lv2 := [(4, .int (nI (j + 1))), (6, .int (f_day μ i on j)), (5, .ref (272 + 3 * (rwN μ i j))), (3, .int y), (2, dv), (0, .ref (5 + 4 * i)), (1, .int on)]) 2 rfl (nI_1 _) d_U_decidingRule_87 (by decide) rfl ?_
              refine AW.goto X (pc := 90) 7 d_U_decidingRule_90 (by decide) ?_
              refine AW.locs (lv2 := [(4, .int (nI (j + 1))), (3, .int y), (2, dv), (0, .ref (5 + 4 * i)), (1, .int on)]) [0, 3, 4, 5, 6] rfl ?_
              exact ih (j + 1) _ _ _ (by omega) (by omega) rfl (by rw [f_scan, if_pos (by rw [← ey]; exact c_78)]; exact ey) (by rw [f_scan, if_pos (by rw [← ey]; exact c_78)]; exact ed) (lt_s hp (by rw [c_45]; simpa using c_70))
            · refine AW.iload X (pc := 81) 0 rfl d_U_decidingRule_81 ?_
              cases hsc : (f_scan (f_day μ i on) j).1 with
              | none =>
                rw [hsc] at ed
                subst ed
                show AW G (rmD 2) 7 (0, 0, ad, N, fb) 83 [(6, .int (f_day μ i on j)), (5, .ref (272 + 3 * (rwN μ i j))), (4, .int (nI j)), (3, .int y), (2, .null), (0, .ref (5 + 4 * i)), (1, .int on)] [.int (f_day μ i on j)] μ
                refine AW.istore_n X (pc := 83) (lv2 := [(3, .int (f_day μ i on j)), (6, .int (f_day μ i on j)), (5, .ref (272 + 3 * (rwN μ i j))), (4, .int (nI j)), (2, .null), (0, .ref (5 + 4 * i)), (1, .int on)]) rfl d_U_decidingRule_83 (by decide) rfl ?_
                refine AW.aload X (pc := 84) 2 rfl d_U_decidingRule_84 ?_
                refine AW.astore_n X (pc := 86) (lv2 := [(2, .ref (272 + 3 * (rwN μ i j))), (3, .int (f_day μ i on j)), (6, .int (f_day μ i on j)), (5, .ref (272 + 3 * (rwN μ i j))), (4, .int (nI j)), (0, .ref (5 + 4 * i)), (1, .int on)]) rfl d_U_decidingRule_86 (by decide) rfl ?_
                refine AW.iinc X (pc := 87) (v := nI (j + 1)) (lv2 := [(4, .int (nI (j + 1))), (2, .ref (272 + 3 * (rwN μ i j))), (3, .int (f_day μ i on j)), (6, .int (f_day μ i on j)), (5, .ref (272 + 3 * (rwN μ i j))), (0, .ref (5 + 4 * i)), (1, .int on)]) 4 rfl (nI_1 _) d_U_decidingRule_87 (by decide) rfl ?_
                refine AW.goto X (pc := 90) 7 d_U_decidingRule_90 (by decide) ?_
                refine AW.locs (lv2 := [(4, .int (nI (j + 1))), (3, .int (f_day μ i on j)), (2, .ref (272 + 3 * (rwN μ i j))), (0, .ref (5 + 4 * i)), (1, .int on)]) [0, 2, 1, 5, 6] rfl ?_
                exact ih (j + 1) _ _ _ (by omega) (by omega) rfl (by rw [f_scan, if_neg (by rw [← ey]; exact c_78)]) (by rw [f_scan, if_neg (by rw [← ey]; exact c_78)]) (lt_s hp (by rw [c_45]; simpa using c_70))
              | some p =>
                rw [hsc] at ed
                subst ed
                show AW G (rmD 2) 7 (0, 0, ad, N, fb) 83 [(6, .int (f_day μ i on j)), (5, .ref (272 + 3 * (rwN μ i j))), (4, .int (nI j)), (3, .int y), (2, .ref (272 + 3 * (rwN μ i p))), (0, .ref (5 + 4 * i)), (1, .int on)] [.int (f_day μ i on j)] μ
                refine AW.istore_n X (pc := 83) (lv2 := [(3, .int (f_day μ i on j)), (6, .int (f_day μ i on j)), (5, .ref (272 + 3 * (rwN μ i j))), (4, .int (nI j)), (2, .ref (272 + 3 * (rwN μ i p))), (0, .ref (5 + 4 * i)), (1, .int on)]) rfl d_U_decidingRule_83 (by decide) rfl ?_
                refine AW.aload X (pc := 84) 2 rfl d_U_decidingRule_84 ?_
                refine AW.astore_n X (pc := 86) (lv2 := [(2, .ref (272 + 3 * (rwN μ i j))), (3, .int (f_day μ i on j)), (6, .int (f_day μ i on j)), (5, .ref (272 + 3 * (rwN μ i j))), (4, .int (nI j)), (0, .ref (5 + 4 * i)), (1, .int on)]) rfl d_U_decidingRule_86 (by decide) rfl ?_
                refine AW.iinc X (pc := 87) (v := nI (j + 1)) (lv2 := [(4, .int (nI (j + 1))), (2, .ref (272 + 3 * (rwN μ i j))), (3, .int (f_day μ i on j)), (6, .int (f_day μ i on j)), (5, .ref (272 + 3 * (rwN μ i j))), (0, .ref (5 + 4 * i)), (1, .int on)]) 4 rfl (nI_1 _) d_U_decidingRule_87 (by decide) rfl ?_
                refine AW.goto X (pc := 90) 7 d_U_decidingRule_90 (by decide) ?_
                refine AW.locs (lv2 := [(4, .int (nI (j + 1))), (3, .int (f_day μ i on j)), (2, .ref (272 + 3 * (rwN μ i j))), (0, .ref (5 + 4 * i)), (1, .int on)]) [0, 2, 1, 5, 6] rfl ?_
                exact ih (j + 1) _ _ _ (by omega) (by omega) rfl (by rw [f_scan, if_neg (by rw [← ey]; exact c_78)]) (by rw [f_scan, if_neg (by rw [← ey]; exact c_78)]) (lt_s hp (by rw [c_45]; simpa using c_70))
          · refine AW.aconst_null X (pc := 73) d_U_decidingRule_73 ?_
            exact hret 74 _ _ _ d_U_decidingRule_74 (Or.inl rfl) ⟨by rw [f_decv, f_dec, if_pos (anyB_t (j := j) (by omega) (by simp [c_70]))], rfl⟩
        · have c_45 := bi_ne.mp c_45
          refine AW.aconst_null X (pc := 48) d_U_decidingRule_48 ?_
          exact hret 49 _ _ _ d_U_decidingRule_49 (Or.inl rfl) ⟨by rw [f_decv, f_dec, if_pos (anyB_t (j := j) (by omega) (by rw [c_45]; rfl))], rfl⟩
  refine AW.aconst_null X (pc := 0) d_U_decidingRule_0 ?_
  refine AW.astore_nN X (pc := 1) (lv2 := [(2, .null), (0, .ref (5 + 4 * i)), (1, .int on)]) rfl d_U_decidingRule_1 (by decide) rfl ?_
  refine AW.iconst X (pc := 2) (v := -1) (by decide) d_U_decidingRule_2 ?_
  refine AW.istore_n X (pc := 3) (lv2 := [(3, .int (-1)), (2, .null), (0, .ref (5 + 4 * i)), (1, .int on)]) rfl d_U_decidingRule_3 (by decide) rfl ?_
  refine AW.iconst X (pc := 4) (v := 0) (by decide) d_U_decidingRule_4 ?_
  refine AW.istore X (pc := 5) (lv2 := [(4, .int 0), (3, .int (-1)), (2, .null), (0, .ref (5 + 4 * i)), (1, .int on)]) d_U_decidingRule_5 (by decide) rfl ?_
  exact key (rnN μ i + 1) 0 _ _ _ (by omega) (Nat.zero_le _) nI_0.symm rfl rfl lt_0
set_option maxHeartbeats 4000000 in
set_option maxRecDepth 100000 in
theorem c_U_dueDay (K : KTy) (i nr : Nat) (on : Int32) (μ : Mu) (hN : 272 ≤ KN K) (hi : i < 60) (hI : CI μ nr) (hKN : KN K = 272 + 3 * nr) : CT K y_U_dueDay (k_U_dueDay :: GT) 3 [.ref (5 + 4 * i), .int on] μ (fun v μ2 => v = some (.int (f_dueDay μ i on)) ∧ μ2 = μ) := by
  refine CT.int (cc := b_U_dueDay) (maxL := 3) (by decide) rfl rfl (Nat.le_of_ble_eq_true rfl) ?_
  intro G ad N hK X hret
  subst hK
  have hN : 272 ≤ N := hN
  have hKN : N = 272 + 3 * nr := hKN
  have hnr := hI.nr
  have hrn := (hI.rn hi).2
  show AW G (rmD 3) 3 (0, 0, ad, N, fb) 0 [(0, .ref (5 + 4 * i)), (1, .int on)] [] μ
  cases hdec : f_dec μ i on with
  | none =>
    have hdv : f_decv μ i on = .null := by rw [f_decv, hdec]
    refine AW.aload_n X (pc := 0) 0 rfl rfl d_U_dueDay_0 ?_
    refine AW.iload_n X (pc := 1) 1 rfl rfl d_U_dueDay_1 ?_
    refine AW.callV X (pc := 2) (b := 5 + 4 * i) (ci := 3) (nA := 1) [.int on] [] (c_U_decidingRule (kOf G ad N) i nr on μ hN hi hI hKN) (gv_V wm_U_47 wi_U_decidingRule wl_U_decidingRule wn_U kw_U_decidingRule) rfl (by decide +kernel) rfl (by omega) (sh_u hi) rfl ⟨Nat.le_of_ble_eq_true rfl, Nat.le_of_ble_eq_true rfl⟩ ⟨Nat.zero_le _, Nat.zero_le _⟩ (Nat.le_of_ble_eq_true rfl) d_U_dueDay_2 rfl (fun v μ2 hq => ?_)
    obtain ⟨rfl, hm⟩ := hq
    rw [hm, hdv]
    clear hm
    show AW G (rmD 3) 3 (0, 0, ad, N, fb) 5 [(0, .ref (5 + 4 * i)), (1, .int on)] [.null] μ
    refine AW.astore_nN X (pc := 5) (lv2 := [(2, .null), (0, .ref (5 + 4 * i)), (1, .int on)]) rfl d_U_dueDay_5 (by decide) rfl ?_
    refine AW.aload_nN X (pc := 6) 0 rfl rfl d_U_dueDay_6 ?_
    refine AW.ifnonnullN X (pc := 7) d_U_dueDay_7 ?_
    refine AW.iconst X (pc := 10) (v := -1) (by decide) d_U_dueDay_10 ?_
    refine AW.goto X (pc := 11) 27 d_U_dueDay_11 (by decide) ?_
    exact hret 27 _ _ _ d_U_dueDay_27 ⟨by rw [f_dueDay, hdec], rfl⟩
  | some p =>
    have hpl := f_dec_lt hdec
    have hw := (hI.rw hi hpl).2
    have hdv : f_decv μ i on = .ref (272 + 3 * rwN μ i p) := by rw [f_decv, hdec]
    refine AW.aload_n X (pc := 0) 0 rfl rfl d_U_dueDay_0 ?_
    refine AW.iload_n X (pc := 1) 1 rfl rfl d_U_dueDay_1 ?_
    refine AW.callV X (pc := 2) (b := 5 + 4 * i) (ci := 3) (nA := 1) [.int on] [] (c_U_decidingRule (kOf G ad N) i nr on μ hN hi hI hKN) (gv_V wm_U_47 wi_U_decidingRule wl_U_decidingRule wn_U kw_U_decidingRule) rfl (by decide +kernel) rfl (by omega) (sh_u hi) rfl ⟨Nat.le_of_ble_eq_true rfl, Nat.le_of_ble_eq_true rfl⟩ ⟨Nat.zero_le _, Nat.zero_le _⟩ (Nat.le_of_ble_eq_true rfl) d_U_dueDay_2 rfl (fun v μ2 hq => ?_)
    obtain ⟨rfl, hm⟩ := hq
    rw [hm, hdv]
    clear hm
    show AW G (rmD 3) 3 (0, 0, ad, N, fb) 5 [(0, .ref (5 + 4 * i)), (1, .int on)] [.ref (272 + 3 * (rwN μ i p))] μ
    refine AW.astore_n X (pc := 5) (lv2 := [(2, .ref (272 + 3 * (rwN μ i p))), (0, .ref (5 + 4 * i)), (1, .int on)]) rfl d_U_dueDay_5 (by decide) rfl ?_
    refine AW.aload_n X (pc := 6) 0 rfl rfl d_U_dueDay_6 ?_
    refine AW.ifnonnull X (pc := 7) 14 d_U_dueDay_7 (by decide) ?_
    refine AW.aload_n X (pc := 14) 0 rfl rfl d_U_dueDay_14 ?_
    refine AW.aload_n X (pc := 15) 1 rfl rfl d_U_dueDay_15 ?_
    refine AW.aload_n X (pc := 16) 0 rfl rfl d_U_dueDay_16 ?_
    refine AW.callV X (pc := 17) (b := 272 + 3 * (rwN μ i p)) (ci := 1) (nA := 0) [] [.ref (5 + 4 * i), .ref (272 + 3 * (rwN μ i p))] (c_R_ek (kOf G ad N) (rwN μ i p) nr μ hN hw hI hKN) (gv_V wm_U_51 wi_R_eventKind wl_R_eventKind wn_R kw_R_eventKind) rfl (by decide +kernel) rfl (by omega) (sh_r _) rfl ⟨Nat.le_of_ble_eq_true rfl, Nat.le_of_ble_eq_true rfl⟩ ⟨Nat.zero_le _, Nat.zero_le _⟩ (Nat.le_of_ble_eq_true rfl) d_U_dueDay_17 rfl (fun v μ2 hq => ?_)
    obtain ⟨rfl, hm⟩ := hq
    rw [hm]
    clear hm
    show AW G (rmD 3) 3 (0, 0, ad, N, fb) 20 [(2, .ref (272 + 3 * (rwN μ i p))), (0, .ref (5 + 4 * i)), (1, .int on)] [.int (nI (ekN μ (rwN μ i p))), .ref (5 + 4 * i), .ref (272 + 3 * (rwN μ i p))] μ
    refine AW.callV X (pc := 20) (b := 5 + 4 * i) (ci := 3) (nA := 1) [.int (nI (ekN μ (rwN μ i p)))] [.ref (272 + 3 * (rwN μ i p))] (c_U_eventDay (kOf G ad N) i (ekN μ (rwN μ i p)) μ hN hi (hI.ek hw).2) (gv_V wm_U_55 wi_U_eventDay wl_U_eventDay wn_U kw_U_eventDay) rfl (by decide +kernel) rfl (by omega) (sh_u hi) rfl ⟨Nat.le_of_ble_eq_true rfl, Nat.le_of_ble_eq_true rfl⟩ ⟨Nat.zero_le _, Nat.zero_le _⟩ (Nat.le_of_ble_eq_true rfl) d_U_dueDay_20 rfl (fun v μ2 hq => ?_)
    obtain ⟨rfl, hm⟩ := hq
    rw [hm]
    clear hm
    show AW G (rmD 3) 3 (0, 0, ad, N, fb) 23 [(2, .ref (272 + 3 * (rwN μ i p))), (0, .ref (5 + 4 * i)), (1, .int on)] [.int (μ (5 + 4 * i + 1) (ekN μ (rwN μ i p))), .ref (272 + 3 * (rwN μ i p))] μ
    refine AW.iload_n X (pc := 23) 2 rfl rfl d_U_dueDay_23 ?_
    refine AW.callV X (pc := 24) (b := 272 + 3 * (rwN μ i p)) (ci := 1) (nA := 2) [.int (μ (5 + 4 * i + 1) (ekN μ (rwN μ i p))), .int on] [] (c_R_dueDay (kOf G ad N) (rwN μ i p) nr (μ (5 + 4 * i + 1) (ekN μ (rwN μ i p))) on μ hN hw hI hKN) (gv_V wm_U_59 wi_R_dueDay wl_R_dueDay wn_R kw_R_dueDay) rfl (by decide +kernel) rfl (by omega) (sh_r _) rfl ⟨Nat.le_of_ble_eq_true rfl, Nat.le_of_ble_eq_true rfl⟩ ⟨Nat.zero_le _, Nat.zero_le _⟩ (Nat.le_of_ble_eq_true rfl) d_U_dueDay_24 rfl (fun v μ2 hq => ?_)
    obtain ⟨rfl, hm⟩ := hq
    rw [hm]
    clear hm
    show AW G (rmD 3) 3 (0, 0, ad, N, fb) 27 [(2, .ref (272 + 3 * (rwN μ i p))), (0, .ref (5 + 4 * i)), (1, .int on)] [.int (f_day μ i on p)] μ
    exact hret 27 _ _ _ d_U_dueDay_27 ⟨by rw [f_dueDay, hdec], rfl⟩
set_option maxHeartbeats 4000000 in
set_option maxRecDepth 100000 in
theorem c_U_dueAction (K : KTy) (i nr : Nat) (on : Int32) (μ : Mu) (hN : 272 ≤ KN K) (hi : i < 60) (hI : CI μ nr) (hKN : KN K = 272 + 3 * nr) : CT K y_U_dueAction (k_U_dueAction :: GT) 3 [.ref (5 + 4 * i), .int on] μ (fun v μ2 => v = some (.int (f_dueAction μ i on)) ∧ μ2 = μ) := by
  refine CT.int (cc := b_U_dueAction) (maxL := 3) (by decide) rfl rfl (Nat.le_of_ble_eq_true rfl) ?_
  intro G ad N hK X hret
  subst hK
  have hN : 272 ≤ N := hN
  have hKN : N = 272 + 3 * nr := hKN
  have hnr := hI.nr
  have hrn := (hI.rn hi).2
  show AW G (rmD 3) 3 (0, 0, ad, N, fb) 0 [(0, .ref (5 + 4 * i)), (1, .int on)] [] μ
  cases hdec : f_dec μ i on with
  | none =>
    have hdv : f_decv μ i on = .null := by rw [f_decv, hdec]
    refine AW.aload_n X (pc := 0) 0 rfl rfl d_U_dueAction_0 ?_
    refine AW.iload_n X (pc := 1) 1 rfl rfl d_U_dueAction_1 ?_
    refine AW.callV X (pc := 2) (b := 5 + 4 * i) (ci := 3) (nA := 1) [.int on] [] (c_U_decidingRule (kOf G ad N) i nr on μ hN hi hI hKN) (gv_V wm_U_47 wi_U_decidingRule wl_U_decidingRule wn_U kw_U_decidingRule) rfl (by decide +kernel) rfl (by omega) (sh_u hi) rfl ⟨Nat.le_of_ble_eq_true rfl, Nat.le_of_ble_eq_true rfl⟩ ⟨Nat.zero_le _, Nat.zero_le _⟩ (Nat.le_of_ble_eq_true rfl) d_U_dueAction_2 rfl (fun v μ2 hq => ?_)
    obtain ⟨rfl, hm⟩ := hq
    rw [hm, hdv]
    clear hm
    show AW G (rmD 3) 3 (0, 0, ad, N, fb) 5 [(0, .ref (5 + 4 * i)), (1, .int on)] [.null] μ
    refine AW.astore_nN X (pc := 5) (lv2 := [(2, .null), (0, .ref (5 + 4 * i)), (1, .int on)]) rfl d_U_dueAction_5 (by decide) rfl ?_
    refine AW.aload_nN X (pc := 6) 0 rfl rfl d_U_dueAction_6 ?_
    refine AW.ifnonnullN X (pc := 7) d_U_dueAction_7 ?_
    refine AW.iconst X (pc := 10) (v := -1) (by decide) d_U_dueAction_10 ?_
    refine AW.goto X (pc := 11) 18 d_U_dueAction_11 (by decide) ?_
    exact hret 18 _ _ _ d_U_dueAction_18 ⟨by rw [f_dueAction, hdec], rfl⟩
  | some p =>
    have hpl := f_dec_lt hdec
    have hw := (hI.rw hi hpl).2
    have hdv : f_decv μ i on = .ref (272 + 3 * rwN μ i p) := by rw [f_decv, hdec]
    refine AW.aload_n X (pc := 0) 0 rfl rfl d_U_dueAction_0 ?_
    refine AW.iload_n X (pc := 1) 1 rfl rfl d_U_dueAction_1 ?_
    refine AW.callV X (pc := 2) (b := 5 + 4 * i) (ci := 3) (nA := 1) [.int on] [] (c_U_decidingRule (kOf G ad N) i nr on μ hN hi hI hKN) (gv_V wm_U_47 wi_U_decidingRule wl_U_decidingRule wn_U kw_U_decidingRule) rfl (by decide +kernel) rfl (by omega) (sh_u hi) rfl ⟨Nat.le_of_ble_eq_true rfl, Nat.le_of_ble_eq_true rfl⟩ ⟨Nat.zero_le _, Nat.zero_le _⟩ (Nat.le_of_ble_eq_true rfl) d_U_dueAction_2 rfl (fun v μ2 hq => ?_)
    obtain ⟨rfl, hm⟩ := hq
    rw [hm, hdv]
    clear hm
    show AW G (rmD 3) 3 (0, 0, ad, N, fb) 5 [(0, .ref (5 + 4 * i)), (1, .int on)] [.ref (272 + 3 * (rwN μ i p))] μ
    refine AW.astore_n X (pc := 5) (lv2 := [(2, .ref (272 + 3 * (rwN μ i p))), (0, .ref (5 + 4 * i)), (1, .int on)]) rfl d_U_dueAction_5 (by decide) rfl ?_
    refine AW.aload_n X (pc := 6) 0 rfl rfl d_U_dueAction_6 ?_
    refine AW.ifnonnull X (pc := 7) 14 d_U_dueAction_7 (by decide) ?_
    refine AW.aload_n X (pc := 14) 0 rfl rfl d_U_dueAction_14 ?_
    refine AW.callV X (pc := 15) (b := 272 + 3 * (rwN μ i p)) (ci := 1) (nA := 0) [] [] (c_R_action (kOf G ad N) (rwN μ i p) μ hN (show 272 + 3 * (rwN μ i p) + 2 < N by omega)) (gv_V wm_U_63 wi_R_action wl_R_action wn_R kw_R_action) rfl (by decide +kernel) rfl (by omega) (sh_r _) rfl ⟨Nat.le_of_ble_eq_true rfl, Nat.le_of_ble_eq_true rfl⟩ ⟨Nat.zero_le _, Nat.zero_le _⟩ (Nat.le_of_ble_eq_true rfl) d_U_dueAction_15 rfl (fun v μ2 hq => ?_)
    obtain ⟨rfl, hm⟩ := hq
    rw [hm]
    clear hm
    show AW G (rmD 3) 3 (0, 0, ad, N, fb) 18 [(2, .ref (272 + 3 * (rwN μ i p))), (0, .ref (5 + 4 * i)), (1, .int on)] [.int (μ (272 + 3 * (rwN μ i p)) 2)] μ
    exact hret 18 _ _ _ d_U_dueAction_18 ⟨by rw [f_dueAction, hdec], rfl⟩
set_option maxHeartbeats 4000000 in
set_option maxRecDepth 100000 in
theorem c_U_isDue (K : KTy) (i nr : Nat) (on : Int32) (μ : Mu) (hN : 272 ≤ KN K) (hi : i < 60) (hI : CI μ nr) (hKN : KN K = 272 + 3 * nr) : CT K y_U_isDue (k_U_isDue :: GT) 4 [.ref (5 + 4 * i), .int on] μ (fun v μ2 => v = some (.int (bi (f_isDue μ i on))) ∧ μ2 = μ) := by
  refine CT.bool (cc := b_U_isDue) (maxL := 3) (by decide) rfl rfl (Nat.le_of_ble_eq_true rfl) ?_
  intro G ad N hK X hret
  subst hK
  have hN : 272 ≤ N := hN
  have hKN : N = 272 + 3 * nr := hKN
  have hnr := hI.nr
  have hrn := (hI.rn hi).2
  show AW G (rmD 4) 3 (0, 0, ad, N, fb) 0 [(0, .ref (5 + 4 * i)), (1, .int on)] [] μ
  refine AW.aload_n X (pc := 0) 0 rfl rfl d_U_isDue_0 ?_
  refine AW.callV X (pc := 1) (b := 5 + 4 * i) (ci := 3) (nA := 0) [] [] (c_U_isDisposed (kOf G ad N) i μ hN hi) (gv_V wm_U_66 wi_U_isDisposed wl_U_isDisposed wn_U kw_U_isDisposed) rfl (by decide +kernel) rfl (by omega) (sh_u hi) rfl ⟨Nat.le_of_ble_eq_true rfl, Nat.le_of_ble_eq_true rfl⟩ ⟨Nat.zero_le _, Nat.zero_le _⟩ (Nat.le_of_ble_eq_true rfl) d_U_isDue_1 rfl (fun v μ2 hq => ?_)
  obtain ⟨rfl, hm⟩ := hq
  rw [hm]
  clear hm
  show AW G (rmD 4) 3 (0, 0, ad, N, fb) 4 [(0, .ref (5 + 4 * i)), (1, .int on)] [.int (bi (decide (¬ μ (5 + 4 * i) 7 = -1)))] μ
  refine AW.if_ne X (pc := 4) 15 d_U_isDue_4 (by decide) (fun c_4 => ?_) (fun c_4 => ?_)
  · have c_4 := of_decide_eq_true (bi_ne.mp c_4)
    refine AW.iconst X (pc := 15) (v := 0) (by decide) d_U_isDue_15 ?_
    exact hret 16 _ _ _ d_U_isDue_16 rfl ⟨by simp [bi, f_isDue, c_4], rfl⟩
  · have c_4 := Decidable.not_not.mp (of_decide_eq_false (bi_eq.mp c_4))
    refine AW.aload_n X (pc := 7) 0 rfl rfl d_U_isDue_7 ?_
    refine AW.get X (pc := 8) (k := 5 + 4 * i) (ci := 3) (j := 4) (v := .int (μ (5 + 4 * i) 4)) (by omega) (sh_u hi) rfl in_U (by decide) wf_U_24 rfl rfl d_U_isDue_8 ?_
    refine AW.iload_n X (pc := 11) 1 rfl rfl d_U_isDue_11 ?_
    refine AW.icmp_lt X (pc := 12) 17 d_U_isDue_12 (by decide) (fun c_12 => ?_) (fun c_12 => ?_)
    · refine AW.aload_n X (pc := 17) 0 rfl rfl d_U_isDue_17 ?_
      refine AW.iload_n X (pc := 18) 1 rfl rfl d_U_isDue_18 ?_
      refine AW.callV X (pc := 19) (b := 5 + 4 * i) (ci := 3) (nA := 1) [.int on] [] (c_U_dueDay (kOf G ad N) i nr on μ hN hi hI hKN) (gv_V wm_U_69 wi_U_dueDay wl_U_dueDay wn_U kw_U_dueDay) rfl (by decide +kernel) rfl (by omega) (sh_u hi) rfl ⟨Nat.le_of_ble_eq_true rfl, Nat.le_of_ble_eq_true rfl⟩ ⟨Nat.zero_le _, Nat.zero_le _⟩ (Nat.le_of_ble_eq_true rfl) d_U_isDue_19 rfl (fun v μ2 hq => ?_)
      obtain ⟨rfl, hm⟩ := hq
      rw [hm]
      clear hm
      show AW G (rmD 4) 3 (0, 0, ad, N, fb) 22 [(0, .ref (5 + 4 * i)), (1, .int on)] [.int (f_dueDay μ i on)] μ
      refine AW.istore_n X (pc := 22) (lv2 := [(2, .int (f_dueDay μ i on)), (0, .ref (5 + 4 * i)), (1, .int on)]) rfl d_U_isDue_22 (by decide) rfl ?_
      refine AW.iload_n X (pc := 23) 0 rfl rfl d_U_isDue_23 ?_
      refine AW.iconst X (pc := 24) (v := -1) (by decide) d_U_isDue_24 ?_
      refine AW.icmp_eq X (pc := 25) 37 d_U_isDue_25 (by decide) (fun c_25 => ?_) (fun c_25 => ?_)
      · refine AW.iconst X (pc := 37) (v := 0) (by decide) d_U_isDue_37 ?_
        exact hret 38 _ _ _ d_U_isDue_38 rfl ⟨by simp [bi, f_isDue, c_4, c_12, c_25], rfl⟩
      · refine AW.iload_n X (pc := 28) 0 rfl rfl d_U_isDue_28 ?_
        refine AW.iload_n X (pc := 29) 2 rfl rfl d_U_isDue_29 ?_
        refine AW.icmp_gt X (pc := 30) 37 d_U_isDue_30 (by decide) (fun c_30 => ?_) (fun c_30 => ?_)
        · refine AW.iconst X (pc := 37) (v := 0) (by decide) d_U_isDue_37 ?_
          exact hret 38 _ _ _ d_U_isDue_38 rfl ⟨by simp [bi, f_isDue, c_4, c_12, c_25, c_30], rfl⟩
        · refine AW.iconst X (pc := 33) (v := 1) (by decide) d_U_isDue_33 ?_
          refine AW.goto X (pc := 34) 38 d_U_isDue_34 (by decide) ?_
          exact hret 38 _ _ _ d_U_isDue_38 rfl ⟨by simp [bi, f_isDue, c_4, c_12, c_25, c_30], rfl⟩
    · refine AW.iconst X (pc := 15) (v := 0) (by decide) d_U_isDue_15 ?_
      exact hret 16 _ _ _ d_U_isDue_16 rfl ⟨by simp [bi, f_isDue, c_4, c_12], rfl⟩
set_option maxHeartbeats 4000000 in
set_option maxRecDepth 100000 in
theorem c_U_addRule (K : KTy) (i r nr : Nat) (μ : Mu) (hN : 272 ≤ KN K) (hi : i < 60) (hr : r < nr) (hI : CI μ nr) (hKN : KN K = 272 + 3 * nr) : CT K y_U_addRule (k_U_addRule :: GT) 1 [.ref (5 + 4 * i), .ref (272 + 3 * r)] μ (fun v μ2 => if rnN μ i < 4 then v = some (.int 1) ∧ μ2 = m_up (m_up (m_up μ (5 + 4 * i + 2) (rnN μ i) (nI (272 + 3 * r + 1))) (5 + 4 * i) 2 (nI (rnN μ i) + 1)) (5 + 4 * i) 5 0 else v = some (.int 0) ∧ μ2 = μ) := by
  refine CT.bool (cc := b_U_addRule) (maxL := 2) (by decide) rfl rfl (Nat.le_of_ble_eq_true rfl) ?_
  intro G ad N hK X hret
  subst hK
  have hN : 272 ≤ N := hN
  have hKN : N = 272 + 3 * nr := hKN
  have hnr := hI.nr
  have hrn := (hI.rn hi).2
  show AW G (rmD 1) 2 (0, 0, ad, N, fb) 0 [(0, .ref (5 + 4 * i)), (1, .ref (272 + 3 * r))] [] μ
  refine AW.aload_n X (pc := 0) 0 rfl rfl d_U_addRule_0 ?_
  refine AW.get X (pc := 1) (k := 5 + 4 * i) (ci := 3) (j := 2) (v := .int (μ (5 + 4 * i) 2)) (by omega) (sh_u hi) rfl in_U (by decide) wf_U_40 rfl rfl d_U_addRule_1 ?_
  refine AW.val (w := .int (nI (rnN μ i))) (congrArg Value.int ((hI.rn hi).1)) ?_
  refine AW.if_lt X (pc := 4) 19 d_U_addRule_4 (by decide) (fun c_4 => absurd c_4 (by rw [i_lt (nI_toInt (show rnN μ i < 2 ^ 31 by omega)) (show (0 : Int32).toInt = 0 by decide)]; omega)) (fun c_4 => ?_)
  refine AW.aload_n X (pc := 7) 0 rfl rfl d_U_addRule_7 ?_
  refine AW.get X (pc := 8) (k := 5 + 4 * i) (ci := 3) (j := 2) (v := .int (μ (5 + 4 * i) 2)) (by omega) (sh_u hi) rfl in_U (by decide) wf_U_40 rfl rfl d_U_addRule_8 ?_
  refine AW.val (w := .int (nI (rnN μ i))) (congrArg Value.int ((hI.rn hi).1)) ?_
  refine AW.aload_n X (pc := 11) 0 rfl rfl d_U_addRule_11 ?_
  refine AW.get X (pc := 12) (k := 5 + 4 * i) (ci := 3) (j := 1) (v := .ref (5 + 4 * i + 2)) (by omega) (sh_u hi) rfl in_U (by decide) wf_U_17 rfl rfl d_U_addRule_12 ?_
  refine AW.alen X (pc := 15) (k := 5 + 4 * i + 2) (t := 2) (n := 4) (kd := 2) (v := 4) (by omega) (sh_ur hi) rfl (by decide) d_U_addRule_15 ?_
  refine AW.icmp_lt X (pc := 16) 21 d_U_addRule_16 (by decide) (fun c_16 => ?_) (fun c_16 => ?_)
  · rw [i_lt (nI_toInt (show rnN μ i < 2 ^ 31 by omega)) (show (4 : Int32).toInt = 4 by decide)] at c_16
    have c_16 : rnN μ i < 4 := by omega
    refine AW.aload_n X (pc := 21) 0 rfl rfl d_U_addRule_21 ?_
    refine AW.get X (pc := 22) (k := 5 + 4 * i) (ci := 3) (j := 1) (v := .ref (5 + 4 * i + 2)) (by omega) (sh_u hi) rfl in_U (by decide) wf_U_17 rfl rfl d_U_addRule_22 ?_
    refine AW.aload_n X (pc := 25) 0 rfl rfl d_U_addRule_25 ?_
    refine AW.get X (pc := 26) (k := 5 + 4 * i) (ci := 3) (j := 2) (v := .int (μ (5 + 4 * i) 2)) (by omega) (sh_u hi) rfl in_U (by decide) wf_U_40 rfl rfl d_U_addRule_26 ?_
    refine AW.val (w := .int (nI (rnN μ i))) (congrArg Value.int ((hI.rn hi).1)) ?_
    refine AW.aload_n X (pc := 29) 1 rfl rfl d_U_addRule_29 ?_
    refine AW.aastN X (pc := 30) (k := 5 + 4 * i + 2) (v := 272 + 3 * r) (t := 2) (n := 4) (ci := 1) (j := rnN μ i) (by omega) (by omega) (by omega) (sh_ur hi) rfl (sh_r _) rfl (by omega) (by decide) d_U_addRule_30 ?_
    refine AW.aload_n X (pc := 31) 0 rfl rfl d_U_addRule_31 ?_
    refine AW.dup X (pc := 32) rfl d_U_addRule_32 ?_
    refine AW.get X (pc := 33) (k := 5 + 4 * i) (ci := 3) (j := 2) (v := .int ((m_up μ (5 + 4 * i + 2) (rnN μ i) (nI (272 + 3 * r + 1))) (5 + 4 * i) 2)) (by omega) (sh_u hi) rfl in_U (by decide) wf_U_40 rfl rfl d_U_addRule_33 ?_
    refine AW.val (w := .int (nI (rnN μ i))) (congrArg Value.int ((m_up_ne (by omega)).trans (hI.rn hi).1)) ?_
    refine AW.iconst X (pc := 36) (v := 1) (by decide) d_U_addRule_36 ?_
    refine AW.iadd X (pc := 37) d_U_addRule_37 ?_
    refine AW.put X (pc := 38) (k := 5 + 4 * i) (ci := 3) (j := 2) (x := (nI (rnN μ i)) + 1) (ty := .int) ft_U (by omega) (sh_u hi) rfl in_U ft_U_ok n_U (by decide) wf_U_40 rfl rfl rfl rfl rfl d_U_addRule_38 ?_
    refine AW.aload_n X (pc := 41) 0 rfl rfl d_U_addRule_41 ?_
    refine AW.callV X (pc := 42) (b := 5 + 4 * i) (ci := 3) (nA := 0) [] [] (c_U_takeApprovalsAway (kOf G ad N) i (m_up (m_up μ (5 + 4 * i + 2) (rnN μ i) (nI (272 + 3 * r + 1))) (5 + 4 * i) 2 ((nI (rnN μ i)) + 1)) hN hi) (gv_V wm_U_37 wi_U_takeApprovalsAway wl_U_takeApprovalsAway wn_U kw_U_takeApprovalsAway) rfl (by decide +kernel) rfl (by omega) (sh_u hi) rfl ⟨Nat.le_of_ble_eq_true rfl, Nat.le_of_ble_eq_true rfl⟩ ⟨Nat.zero_le _, Nat.zero_le _⟩ (Nat.le_of_ble_eq_true rfl) d_U_addRule_42 rfl (fun v μ2 hq => ?_)
    obtain ⟨rfl, hm⟩ := hq
    rw [hm]
    clear hm
    show AW G (rmD 1) 2 (0, 0, ad, N, fb) 45 [(0, .ref (5 + 4 * i)), (1, .ref (272 + 3 * r))] [] (m_up (m_up (m_up μ (5 + 4 * i + 2) (rnN μ i) (nI (272 + 3 * r + 1))) (5 + 4 * i) 2 ((nI (rnN μ i)) + 1)) (5 + 4 * i) 5 0)
    refine AW.iconst X (pc := 45) (v := 1) (by decide) d_U_addRule_45 ?_
    exact hret 46 _ _ _ d_U_addRule_46 rfl (by first | (rw [if_pos c_16]; exact ⟨rfl, rfl⟩) | (rw [if_neg c_16]; exact ⟨rfl, rfl⟩))
  · rw [i_lt (nI_toInt (show rnN μ i < 2 ^ 31 by omega)) (show (4 : Int32).toInt = 4 by decide)] at c_16
    have c_16 : ¬ rnN μ i < 4 := by omega
    refine AW.iconst X (pc := 19) (v := 0) (by decide) d_U_addRule_19 ?_
    exact hret 20 _ _ _ d_U_addRule_20 rfl (by first | (rw [if_pos c_16]; exact ⟨rfl, rfl⟩) | (rw [if_neg c_16]; exact ⟨rfl, rfl⟩))
