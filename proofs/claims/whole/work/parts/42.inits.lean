def fillM (μ : Mu) (k n : Nat) (x : Int32) : Mu := fun a b => if a = k ∧ b < n then x else μ a b
theorem fill_0 (μ : Mu) (k : Nat) (x : Int32) : fillM μ k 0 x = μ := by
  funext a b
  exact if_neg (fun h => absurd h.2 (Nat.not_lt_zero _))
theorem fill_up (μ : Mu) (k n : Nat) (x : Int32) : m_up (fillM μ k n x) k n x = fillM μ k (n + 1) x := by
  funext a b
  unfold m_up fillM
  by_cases h1 : a = k ∧ b = n
  · rw [if_pos h1, if_pos (by omega)]
  · rw [if_neg h1]
    by_cases h2 : a = k ∧ b < n
    · rw [if_pos h2, if_pos (by omega)]
    · rw [if_neg h2, if_neg (by omega)]
theorem fill_out {μ : Mu} {k n a : Nat} {x : Int32} (h : a ≠ k) : fillM μ k n x a = μ a := funext fun b => if_neg (fun q => h q.1)
theorem fill_in {μ : Mu} {k n b : Nat} {x : Int32} (h : b < n) : fillM μ k n x k b = x := if_pos ⟨rfl, h⟩
/-- the cells of a new unit -/
def uM (μ : Mu) (i : Nat) : Mu := fillM (fillM (m_up (m_up (m_up (m_up μ (5 + 4 * i) 4 (-1)) (5 + 4 * i) 6 (-1)) (5 + 4 * i) 7 (-1)) (5 + 4 * i) 8 (-1)) (5 + 4 * i + 1) 4 (-1)) (5 + 4 * i + 3) 4 (-2)
theorem gv_I {k2 : Cond} (h5 : k2 ∈ GT) : GoodIn GT (k2 :: GT) := by
  intro w hw
  have : w ∈ GT := by
    rcases List.mem_cons.mp hw with rfl | hw
    · exact h5
    · exact hw
  exact ⟨this, gt_good this⟩
set_option maxHeartbeats 4000000 in
set_option maxRecDepth 100000 in
theorem c_T_init (K : KTy)  (μ : Mu) (β : Nat → Nat → Bool) (hKN : KN K = 2) (hz : ∀ k j, 2 ≤ k → μ k j = 0) (hbz : ∀ k j, 2 ≤ k → β k j = false) : CTA K y_T_init (k_T_init :: GT) 1 1 40 β [.ref 1] μ (fun v μ2 β2 N2 => v = none ∧ μ2 = μ ∧ β2 = m_bu β 1 0 ∧ N2 = 3) := by
  refine CTA.void (cc := b_T_init) (maxL := 1) (by decide) rfl rfl (Nat.le_of_ble_eq_true rfl) ?_
  intro G ad N hK X hA0 hnm hret
  subst hK
  obtain rfl : N = 2 := hKN
  show AW G (rmA 1 1 40) 1 (0, 0, ad, 2, β) 0 [(0, .ref 1)] [] μ
  refine AW.aload_n X (pc := 0) 0 rfl rfl d_T_init_0 ?_
  refine AW.objInit X (pc := 1) wo_T wo_i wo_c (Nat.le_of_ble_eq_true rfl) (Nat.le_of_ble_eq_true rfl) d_T_init_1 ?_
  refine AW.aload_n X (pc := 4) 0 rfl rfl d_T_init_4 ?_
  refine AW.bipush X (pc := 5) (v := 40) (by decide) d_T_init_5 ?_
  refine AW.newI X (pc := 7) (t := 0) (n := 40) rfl rfl wa_int (by decide) (by decide) (by decide) ⟨show 2 < 1000000 by omega, hA0, (fun j => hz _ j (by omega)), (fun j => hbz _ j (by omega)), (List.forall_mem_cons.mpr ⟨(Or.inl (show (1 : Nat) < 2 by omega)), (fun _ h => nomatch h)⟩), (List.forall_mem_cons.mpr ⟨(Or.inl (show (1 : Nat) < 2 by omega)), (fun _ h => nomatch h)⟩)⟩ (show (0 : Nat) + 1 ≤ 1 by omega) (show (0 : Nat) + 40 ≤ 40 by omega) d_T_init_7 (fun q_7 => ?_)
  refine AW.putFS X (pc := 9) (k := 1) (k2 := 2) (ci := 2) (j := 0) (o := 1) (β2 := (m_bu β 1 0)) ft_T hnm (by omega) rfl rfl in_T ft_T_ok n_T (by decide) wf_T_9 rfl rfl rfl rfl (fun _ => rfl) (fun _ => rfl) (by omega) (by omega) rfl d_T_init_9 ?_
  exact hret 12 _ _ _ _ _ _ _ d_T_init_12 (Nat.le_of_ble_eq_true rfl) (Nat.le_of_ble_eq_true rfl) (fun k hk => by rw [va_up_ne _ _ (by omega)]) ⟨rfl, rfl, rfl, rfl⟩
set_option maxHeartbeats 4000000 in
set_option maxRecDepth 100000 in
theorem c_L_init (K : KTy)  (μ : Mu) (β : Nat → Nat → Bool) (hKN : KN K = 246) (hz : ∀ k j, 246 ≤ k → μ k j = 0) (hbz : ∀ k j, 246 ≤ k → β k j = false) : CTA K y_L_init (k_L_init :: GT) 1 3 180 β [.ref 245] μ (fun v μ2 β2 N2 => v = none ∧ μ2 = μ ∧ β2 = m_bu (m_bu (m_bu β 245 0) 245 1) 245 2 ∧ N2 = 249) := by
  refine CTA.void (cc := b_L_init) (maxL := 1) (by decide) rfl rfl (Nat.le_of_ble_eq_true rfl) ?_
  intro G ad N hK X hA0 hnm hret
  subst hK
  obtain rfl : N = 246 := hKN
  show AW G (rmA 1 3 180) 1 (0, 0, ad, 246, β) 0 [(0, .ref 245)] [] μ
  refine AW.aload_n X (pc := 0) 0 rfl rfl d_L_init_0 ?_
  refine AW.objInit X (pc := 1) wo_L wo_i wo_c (Nat.le_of_ble_eq_true rfl) (Nat.le_of_ble_eq_true rfl) d_L_init_1 ?_
  refine AW.aload_n X (pc := 4) 0 rfl rfl d_L_init_4 ?_
  refine AW.bipush X (pc := 5) (v := 60) (by decide) d_L_init_5 ?_
  refine AW.newI X (pc := 7) (t := 0) (n := 60) rfl rfl wa_int (by decide) (by decide) (by decide) ⟨show 246 < 1000000 by omega, hA0, (fun j => hz _ j (by omega)), (fun j => hbz _ j (by omega)), (List.forall_mem_cons.mpr ⟨(Or.inl (show (245 : Nat) < 246 by omega)), (fun _ h => nomatch h)⟩), (List.forall_mem_cons.mpr ⟨(Or.inl (show (245 : Nat) < 246 by omega)), (fun _ h => nomatch h)⟩)⟩ (show (0 : Nat) + 1 ≤ 3 by omega) (show (0 : Nat) + 60 ≤ 180 by omega) d_L_init_7 (fun q_7 => ?_)
  refine AW.putFS X (pc := 9) (k := 245) (k2 := 246) (ci := 0) (j := 0) (o := 1) (β2 := (m_bu β 245 0)) ft_L hnm (by omega) rfl rfl in_L ft_L_ok n_L (by decide) wf_L_9 rfl rfl rfl rfl (fun _ => rfl) (fun _ => rfl) (by omega) (by omega) rfl d_L_init_9 ?_
  refine AW.aload_n X (pc := 12) 0 rfl rfl d_L_init_12 ?_
  refine AW.bipush X (pc := 13) (v := 60) (by decide) d_L_init_13 ?_
  refine AW.newI X (pc := 15) (t := 0) (n := 60) rfl rfl wa_int (by decide) (by decide) (by decide) ⟨show 246 + 1 < 1000000 by omega, hA0, (fun j => hz _ j (by omega)), (fun j => by rw [m_bu_row (by omega)]; exact (fun j => hbz _ j (by omega)) j), (List.forall_mem_cons.mpr ⟨(Or.inl (show (245 : Nat) < 246 + 1 by omega)), (fun _ h => nomatch h)⟩), (List.forall_mem_cons.mpr ⟨(Or.inl (show (245 : Nat) < 246 + 1 by omega)), (fun _ h => nomatch h)⟩)⟩ (show (1 : Nat) + 1 ≤ 3 by omega) (show (60 : Nat) + 60 ≤ 180 by omega) d_L_init_15 (fun q_15 => ?_)
  refine AW.putFS X (pc := 17) (k := 245) (k2 := 247) (ci := 0) (j := 1) (o := 2) (β2 := (m_bu (m_bu β 245 0) 245 1)) ft_L hnm (by omega) rfl rfl in_L ft_L_ok n_L (by decide) wf_L_15 rfl rfl rfl rfl (fun _ => rfl) (fun _ => rfl) (by omega) (by omega) rfl d_L_init_17 ?_
  refine AW.aload_n X (pc := 20) 0 rfl rfl d_L_init_20 ?_
  refine AW.bipush X (pc := 21) (v := 60) (by decide) d_L_init_21 ?_
  refine AW.newI X (pc := 23) (t := 0) (n := 60) rfl rfl wa_int (by decide) (by decide) (by decide) ⟨show 246 + 1 + 1 < 1000000 by omega, hA0, (fun j => hz _ j (by omega)), (fun j => by rw [m_bu_row (by omega), m_bu_row (by omega)]; exact (fun j => hbz _ j (by omega)) j), (List.forall_mem_cons.mpr ⟨(Or.inl (show (245 : Nat) < 246 + 1 + 1 by omega)), (fun _ h => nomatch h)⟩), (List.forall_mem_cons.mpr ⟨(Or.inl (show (245 : Nat) < 246 + 1 + 1 by omega)), (fun _ h => nomatch h)⟩)⟩ (show (2 : Nat) + 1 ≤ 3 by omega) (show (120 : Nat) + 60 ≤ 180 by omega) d_L_init_23 (fun q_23 => ?_)
  refine AW.putFS X (pc := 25) (k := 245) (k2 := 248) (ci := 0) (j := 2) (o := 3) (β2 := (m_bu (m_bu (m_bu β 245 0) 245 1) 245 2)) ft_L hnm (by omega) rfl rfl in_L ft_L_ok n_L (by decide) wf_L_18 rfl rfl rfl rfl (fun _ => rfl) (fun _ => rfl) (by omega) (by omega) rfl d_L_init_25 ?_
  exact hret 28 _ _ _ _ _ _ _ d_L_init_28 (Nat.le_of_ble_eq_true rfl) (Nat.le_of_ble_eq_true rfl) (fun k hk => by rw [va_up_ne _ _ (by omega), va_up_ne _ _ (by omega), va_up_ne _ _ (by omega)]) ⟨rfl, rfl, rfl, rfl⟩
set_option maxHeartbeats 4000000 in
set_option maxRecDepth 100000 in
theorem c_U_init (K : KTy) (i : Nat) (μ : Mu) (β : Nat → Nat → Bool) (hKN : KN K = 5 + 4 * i + 1) (hi : i < 60) (hz : ∀ k j, 5 + 4 * i + 1 ≤ k → μ k j = 0) (hbz : ∀ k j, 5 + 4 * i + 1 ≤ k → β k j = false) : CTA K y_U_init (k_U_init :: GT) 1 3 12 β [.ref (5 + 4 * i)] μ (fun v μ2 β2 N2 => v = none ∧ μ2 = uM μ i ∧ β2 = m_bu (m_bu (m_bu β (5 + 4 * i) 0) (5 + 4 * i) 1) (5 + 4 * i) 3 ∧ N2 = 5 + 4 * i + 4) := by
  refine CTA.void (cc := b_U_init) (maxL := 2) (by decide) rfl rfl (Nat.le_of_ble_eq_true rfl) ?_
  intro G ad N hK X hA0 hnm hret
  subst hK
  obtain rfl : N = 5 + 4 * i + 1 := hKN
  show AW G (rmA 1 3 12) 2 (0, 0, ad, 5 + 4 * i + 1, β) 0 [(0, .ref (5 + 4 * i))] [] μ
  refine AW.aload_n X (pc := 0) 0 rfl rfl d_U_init_0 ?_
  refine AW.objInit X (pc := 1) wo_U wo_i wo_c (Nat.le_of_ble_eq_true rfl) (Nat.le_of_ble_eq_true rfl) d_U_init_1 ?_
  refine AW.aload_n X (pc := 4) 0 rfl rfl d_U_init_4 ?_
  refine AW.iconst X (pc := 5) (v := 4) (by decide) d_U_init_5 ?_
  refine AW.newI X (pc := 6) (t := 0) (n := 4) (sh_ue hi) rfl wa_int (by decide) (by decide) (by decide) ⟨show 5 + 4 * i + 1 < 1000000 by omega, hA0, (fun j => hz _ j (by omega)), (fun j => hbz _ j (by omega)), (List.forall_mem_cons.mpr ⟨(Or.inl (show (5 + 4 * i : Nat) < 5 + 4 * i + 1 by omega)), (fun _ h => nomatch h)⟩), (List.forall_mem_cons.mpr ⟨(Or.inl (show (5 + 4 * i : Nat) < 5 + 4 * i + 1 by omega)), (fun _ h => nomatch h)⟩)⟩ (show (0 : Nat) + 1 ≤ 3 by omega) (show (0 : Nat) + 4 ≤ 12 by omega) d_U_init_6 (fun q_6 => ?_)
  refine AW.putFS X (pc := 8) (k := 5 + 4 * i) (k2 := 5 + 4 * i + 1) (ci := 3) (j := 0) (o := 1) (β2 := (m_bu β (5 + 4 * i) 0)) ft_U hnm (by omega) (sh_u hi) rfl in_U ft_U_ok n_U (by decide) wf_U_9 rfl rfl rfl rfl (fun _ => rfl) (fun _ => rfl) (by omega) (by omega) rfl d_U_init_8 ?_
  refine AW.aload_n X (pc := 11) 0 rfl rfl d_U_init_11 ?_
  refine AW.iconst X (pc := 12) (v := 4) (by decide) d_U_init_12 ?_
  refine AW.newR X (pc := 13) (t := 2) (n := 4) (sh_ur hi) rfl wk_U_15 X.gS.2.2.2.1 (by decide) (by decide) (by decide) ⟨show 5 + 4 * i + 1 + 1 < 1000000 by omega, hA0, (fun j => hz _ j (by omega)), (fun j => by rw [m_bu_row (by omega)]; exact (fun j => hbz _ j (by omega)) j), (List.forall_mem_cons.mpr ⟨(Or.inl (show (5 + 4 * i : Nat) < 5 + 4 * i + 1 + 1 by omega)), (fun _ h => nomatch h)⟩), (List.forall_mem_cons.mpr ⟨(Or.inl (show (5 + 4 * i : Nat) < 5 + 4 * i + 1 + 1 by omega)), (fun _ h => nomatch h)⟩)⟩ (show (1 : Nat) + 1 ≤ 3 by omega) (show (4 : Nat) + 4 ≤ 12 by omega) d_U_init_13 (fun q_13 => ?_)
  refine AW.putFS X (pc := 16) (k := 5 + 4 * i) (k2 := 5 + 4 * i + 2) (ci := 3) (j := 1) (o := 2) (β2 := (m_bu (m_bu β (5 + 4 * i) 0) (5 + 4 * i) 1)) ft_U hnm (by omega) (sh_u hi) rfl in_U ft_U_ok n_U (by decide) wf_U_17 rfl rfl rfl rfl (fun _ => rfl) (fun _ => rfl) (by omega) (by omega) rfl d_U_init_16 ?_
  refine AW.aload_n X (pc := 19) 0 rfl rfl d_U_init_19 ?_
  refine AW.iconst X (pc := 20) (v := 4) (by decide) d_U_init_20 ?_
  refine AW.newI X (pc := 21) (t := 0) (n := 4) (sh_uh hi) rfl wa_int (by decide) (by decide) (by decide) ⟨show 5 + 4 * i + 1 + 1 + 1 < 1000000 by omega, hA0, (fun j => hz _ j (by omega)), (fun j => by rw [m_bu_row (by omega), m_bu_row (by omega)]; exact (fun j => hbz _ j (by omega)) j), (List.forall_mem_cons.mpr ⟨(Or.inl (show (5 + 4 * i : Nat) < 5 + 4 * i + 1 + 1 + 1 by omega)), (fun _ h => nomatch h)⟩), (List.forall_mem_cons.mpr ⟨(Or.inl (show (5 + 4 * i : Nat) < 5 + 4 * i + 1 + 1 + 1 by omega)), (fun _ h => nomatch h)⟩)⟩ (show (2 : Nat) + 1 ≤ 3 by omega) (show (8 : Nat) + 4 ≤ 12 by omega) d_U_init_21 (fun q_21 => ?_)
  refine AW.putFS X (pc := 23) (k := 5 + 4 * i) (k2 := 5 + 4 * i + 3) (ci := 3) (j := 3) (o := 3) (β2 := (m_bu (m_bu (m_bu β (5 + 4 * i) 0) (5 + 4 * i) 1) (5 + 4 * i) 3)) ft_U hnm (by omega) (sh_u hi) rfl in_U ft_U_ok n_U (by decide) wf_U_21 rfl rfl rfl rfl (fun _ => rfl) (fun _ => rfl) (by omega) (by omega) rfl d_U_init_23 ?_
  refine AW.aload_n X (pc := 26) 0 rfl rfl d_U_init_26 ?_
  refine AW.iconst X (pc := 27) (v := -1) (by decide) d_U_init_27 ?_
  refine AW.put X (pc := 28) (k := 5 + 4 * i) (ci := 3) (j := 4) (x := -1) (ty := .int) ft_U (by omega) (sh_u hi) rfl in_U ft_U_ok n_U (by decide) wf_U_24 rfl rfl rfl rfl rfl d_U_init_28 ?_
  refine AW.aload_n X (pc := 31) 0 rfl rfl d_U_init_31 ?_
  refine AW.iconst X (pc := 32) (v := -1) (by decide) d_U_init_32 ?_
  refine AW.put X (pc := 33) (k := 5 + 4 * i) (ci := 3) (j := 6) (x := -1) (ty := .int) ft_U (by omega) (sh_u hi) rfl in_U ft_U_ok n_U (by decide) wf_U_28 rfl rfl rfl rfl rfl d_U_init_33 ?_
  refine AW.aload_n X (pc := 36) 0 rfl rfl d_U_init_36 ?_
  refine AW.iconst X (pc := 37) (v := -1) (by decide) d_U_init_37 ?_
  refine AW.put X (pc := 38) (k := 5 + 4 * i) (ci := 3) (j := 7) (x := -1) (ty := .int) ft_U (by omega) (sh_u hi) rfl in_U ft_U_ok n_U (by decide) wf_U_31 rfl rfl rfl rfl rfl d_U_init_38 ?_
  refine AW.aload_n X (pc := 41) 0 rfl rfl d_U_init_41 ?_
  refine AW.iconst X (pc := 42) (v := -1) (by decide) d_U_init_42 ?_
  refine AW.put X (pc := 43) (k := 5 + 4 * i) (ci := 3) (j := 8) (x := -1) (ty := .int) ft_U (by omega) (sh_u hi) rfl in_U ft_U_ok n_U (by decide) wf_U_34 rfl rfl rfl rfl rfl d_U_init_43 ?_
  refine AW.iconst X (pc := 46) (v := 0) (by decide) d_U_init_46 ?_
  refine AW.istore_n X (pc := 47) (lv2 := [(1, .int 0), (0, .ref (5 + 4 * i))]) rfl d_U_init_47 (by decide) rfl ?_
  have key2 : ∀ (n j : Nat) (x : Int32), 4 - j < n → j ≤ 4 → x = nI j → AW G (rmA 1 3 12) 2 (3, 12, (va_up (va_up (va_up ad (5 + 4 * i + 1) q_6) (5 + 4 * i + 1 + 1) q_13) (5 + 4 * i + 1 + 1 + 1) q_21), 5 + 4 * i + 1 + 1 + 1 + 1, (m_bu (m_bu (m_bu β (5 + 4 * i) 0) (5 + 4 * i) 1) (5 + 4 * i) 3)) 72 [(1, .int x), (0, .ref (5 + 4 * i))] [] (fillM (fillM (m_up (m_up (m_up (m_up μ (5 + 4 * i) 4 (-1)) (5 + 4 * i) 6 (-1)) (5 + 4 * i) 7 (-1)) (5 + 4 * i) 8 (-1)) (5 + 4 * i + 1) 4 (-1)) (5 + 4 * i + 3) j (-2)) := by
    intro n
    induction n with
    | zero =>
      intro j x hlt
      exact absurd hlt (Nat.not_lt_zero _)
    | succ n ih =>
      intro j x hlt hj ex
      subst ex
      refine AW.iload_n X (pc := 72) 0 rfl rfl d_U_init_72 ?_
      refine AW.aload_n X (pc := 73) 1 rfl rfl d_U_init_73 ?_
      refine AW.get X (pc := 74) (k := 5 + 4 * i) (ci := 3) (j := 3) (v := .ref (5 + 4 * i + 3)) (by omega) (sh_u hi) rfl in_U (by decide) wf_U_21 rfl (by rw [show (m_bu (m_bu (m_bu β (5 + 4 * i) 0) (5 + 4 * i) 1) (5 + 4 * i) 3) (5 + 4 * i) 3 = true from m_bu_self]; rfl) d_U_init_74 ?_
      refine AW.alen X (pc := 77) (k := 5 + 4 * i + 3) (t := 0) (n := 4) (kd := 0) (v := 4) (by omega) (sh_uh hi) rfl (by decide) d_U_init_77 ?_
      refine AW.icmp_ge X (pc := 78) 95 d_U_init_78 (by decide) (fun c_78 => ?_) (fun c_78 => ?_)
      · rw [i_le (show (4 : Int32).toInt = 4 by decide) (nI_toInt (show j < 2 ^ 31 by omega))] at c_78
        obtain rfl : j = 4 := by omega
        exact hret 95 _ _ _ _ _ _ _ d_U_init_95 (Nat.le_of_ble_eq_true rfl) (Nat.le_of_ble_eq_true rfl) (fun k hk => by rw [va_up_ne _ _ (by omega), va_up_ne _ _ (by omega), va_up_ne _ _ (by omega)]) ⟨rfl, rfl, rfl, rfl⟩
      · rw [i_le (show (4 : Int32).toInt = 4 by decide) (nI_toInt (show j < 2 ^ 31 by omega))] at c_78
        refine AW.aload_n X (pc := 81) 1 rfl rfl d_U_init_81 ?_
        refine AW.get X (pc := 82) (k := 5 + 4 * i) (ci := 3) (j := 3) (v := .ref (5 + 4 * i + 3)) (by omega) (sh_u hi) rfl in_U (by decide) wf_U_21 rfl (by rw [show (m_bu (m_bu (m_bu β (5 + 4 * i) 0) (5 + 4 * i) 1) (5 + 4 * i) 3) (5 + 4 * i) 3 = true from m_bu_self]; rfl) d_U_init_82 ?_
        refine AW.iload_n X (pc := 85) 0 rfl rfl d_U_init_85 ?_
        refine AW.bipush X (pc := 86) (v := -2) (by decide) d_U_init_86 ?_
        refine AW.iastN X (pc := 88) (k := 5 + 4 * i + 3) (t := 0) (n := 4) (j := j) (x := -2) (by omega) (sh_uh hi) rfl (by omega) (by decide) d_U_init_88 ?_
        refine AW.iinc X (pc := 89) (v := nI (j + 1)) (lv2 := [(1, .int (nI (j + 1))), (0, .ref (5 + 4 * i))]) 0 rfl (nI_1 _) d_U_init_89 (by decide) rfl ?_
        refine AW.goto X (pc := 92) 72 d_U_init_92 (by decide) ?_
        rw [fill_up]
        exact ih (j + 1) _ (by omega) (by omega) rfl
  have key1 : ∀ (n j : Nat) (x : Int32), 4 - j < n → j ≤ 4 → x = nI j → AW G (rmA 1 3 12) 2 (3, 12, (va_up (va_up (va_up ad (5 + 4 * i + 1) q_6) (5 + 4 * i + 1 + 1) q_13) (5 + 4 * i + 1 + 1 + 1) q_21), 5 + 4 * i + 1 + 1 + 1 + 1, (m_bu (m_bu (m_bu β (5 + 4 * i) 0) (5 + 4 * i) 1) (5 + 4 * i) 3)) 48 [(1, .int x), (0, .ref (5 + 4 * i))] [] (fillM (m_up (m_up (m_up (m_up μ (5 + 4 * i) 4 (-1)) (5 + 4 * i) 6 (-1)) (5 + 4 * i) 7 (-1)) (5 + 4 * i) 8 (-1)) (5 + 4 * i + 1) j (-1)) := by
    intro n
    induction n with
    | zero =>
      intro j x hlt
      exact absurd hlt (Nat.not_lt_zero _)
    | succ n ih =>
      intro j x hlt hj ex
      subst ex
      refine AW.iload_n X (pc := 48) 0 rfl rfl d_U_init_48 ?_
      refine AW.aload_n X (pc := 49) 1 rfl rfl d_U_init_49 ?_
      refine AW.get X (pc := 50) (k := 5 + 4 * i) (ci := 3) (j := 0) (v := .ref (5 + 4 * i + 1)) (by omega) (sh_u hi) rfl in_U (by decide) wf_U_9 rfl (by rw [show (m_bu (m_bu (m_bu β (5 + 4 * i) 0) (5 + 4 * i) 1) (5 + 4 * i) 3) (5 + 4 * i) 0 = true from ((m_bu_ne (by decide)).trans ((m_bu_ne (by decide)).trans m_bu_self))]; rfl) d_U_init_50 ?_
      refine AW.alen X (pc := 53) (k := 5 + 4 * i + 1) (t := 0) (n := 4) (kd := 0) (v := 4) (by omega) (sh_ue hi) rfl (by decide) d_U_init_53 ?_
      refine AW.icmp_ge X (pc := 54) 70 d_U_init_54 (by decide) (fun c_54 => ?_) (fun c_54 => ?_)
      · rw [i_le (show (4 : Int32).toInt = 4 by decide) (nI_toInt (show j < 2 ^ 31 by omega))] at c_54
        obtain rfl : j = 4 := by omega
        refine AW.iconst X (pc := 70) (v := 0) (by decide) d_U_init_70 ?_
        refine AW.istore_n X (pc := 71) (lv2 := [(1, .int 0), (0, .ref (5 + 4 * i))]) rfl d_U_init_71 (by decide) rfl ?_
        have q := key2 5 0 0 (by omega) (by omega) nI_0.symm
        rw [fill_0] at q
        exact q
      · rw [i_le (show (4 : Int32).toInt = 4 by decide) (nI_toInt (show j < 2 ^ 31 by omega))] at c_54
        refine AW.aload_n X (pc := 57) 1 rfl rfl d_U_init_57 ?_
        refine AW.get X (pc := 58) (k := 5 + 4 * i) (ci := 3) (j := 0) (v := .ref (5 + 4 * i + 1)) (by omega) (sh_u hi) rfl in_U (by decide) wf_U_9 rfl (by rw [show (m_bu (m_bu (m_bu β (5 + 4 * i) 0) (5 + 4 * i) 1) (5 + 4 * i) 3) (5 + 4 * i) 0 = true from ((m_bu_ne (by decide)).trans ((m_bu_ne (by decide)).trans m_bu_self))]; rfl) d_U_init_58 ?_
        refine AW.iload_n X (pc := 61) 0 rfl rfl d_U_init_61 ?_
        refine AW.iconst X (pc := 62) (v := -1) (by decide) d_U_init_62 ?_
        refine AW.iastN X (pc := 63) (k := 5 + 4 * i + 1) (t := 0) (n := 4) (j := j) (x := -1) (by omega) (sh_ue hi) rfl (by omega) (by decide) d_U_init_63 ?_
        refine AW.iinc X (pc := 64) (v := nI (j + 1)) (lv2 := [(1, .int (nI (j + 1))), (0, .ref (5 + 4 * i))]) 0 rfl (nI_1 _) d_U_init_64 (by decide) rfl ?_
        refine AW.goto X (pc := 67) 48 d_U_init_67 (by decide) ?_
        rw [fill_up]
        exact ih (j + 1) _ (by omega) (by omega) rfl
  have q := key1 5 0 0 (by omega) (by omega) nI_0.symm
  rw [fill_0] at q
  exact q
set_option maxHeartbeats 4000000 in
set_option maxRecDepth 100000 in
theorem c_R_init (K : KTy) (r : Nat) (ek yr ac : Int32) (μ : Mu) (β : Nat → Nat → Bool) (hKN : KN K = 272 + 3 * r + 1) (hr : r < 20) (hz : ∀ k j, 272 + 3 * r + 1 ≤ k → μ k j = 0) (hbz : ∀ k j, 272 + 3 * r + 1 ≤ k → β k j = false) : CTA K y_R_init (k_R_init :: GT) 1 2 10 β [.ref (272 + 3 * r), .int ek, .int yr, .int ac] μ (fun v μ2 β2 N2 => v = none ∧ μ2 = m_up (m_up (m_up μ (272 + 3 * r) 0 ek) (272 + 3 * r) 1 yr) (272 + 3 * r) 2 ac ∧ β2 = m_bu (m_bu β (272 + 3 * r) 3) (272 + 3 * r) 4 ∧ N2 = 272 + 3 * r + 3) := by
  refine CTA.void (cc := b_R_init) (maxL := 4) (by decide) rfl rfl (Nat.le_of_ble_eq_true rfl) ?_
  intro G ad N hK X hA0 hnm hret
  subst hK
  obtain rfl : N = 272 + 3 * r + 1 := hKN
  show AW G (rmA 1 2 10) 4 (0, 0, ad, 272 + 3 * r + 1, β) 0 [(0, .ref (272 + 3 * r)), (1, .int ek), (2, .int yr), (3, .int ac)] [] μ
  refine AW.aload_n X (pc := 0) 0 rfl rfl d_R_init_0 ?_
  refine AW.objInit X (pc := 1) wo_R wo_i wo_c (Nat.le_of_ble_eq_true rfl) (Nat.le_of_ble_eq_true rfl) d_R_init_1 ?_
  refine AW.aload_n X (pc := 4) 0 rfl rfl d_R_init_4 ?_
  refine AW.iconst X (pc := 5) (v := 5) (by decide) d_R_init_5 ?_
  refine AW.newI X (pc := 6) (t := 0) (n := 5) (sh_rd _) rfl wa_int (by decide) (by decide) (by decide) ⟨show 272 + 3 * r + 1 < 1000000 by omega, hA0, (fun j => hz _ j (by omega)), (fun j => hbz _ j (by omega)), (List.forall_mem_cons.mpr ⟨(Or.inl (show (272 + 3 * r : Nat) < 272 + 3 * r + 1 by omega)), (List.forall_mem_cons.mpr ⟨trivial, (List.forall_mem_cons.mpr ⟨trivial, (List.forall_mem_cons.mpr ⟨trivial, (fun _ h => nomatch h)⟩)⟩)⟩)⟩), (List.forall_mem_cons.mpr ⟨(Or.inl (show (272 + 3 * r : Nat) < 272 + 3 * r + 1 by omega)), (fun _ h => nomatch h)⟩)⟩ (show (0 : Nat) + 1 ≤ 2 by omega) (show (0 : Nat) + 5 ≤ 10 by omega) d_R_init_6 (fun q_6 => ?_)
  refine AW.putFS X (pc := 8) (k := 272 + 3 * r) (k2 := 272 + 3 * r + 1) (ci := 1) (j := 3) (o := 1) (β2 := (m_bu β (272 + 3 * r) 3)) ft_R hnm (by omega) (sh_r _) rfl in_R ft_R_ok n_R (by decide) wf_R_9 rfl rfl rfl rfl (fun _ => rfl) (fun _ => rfl) (by omega) (by omega) rfl d_R_init_8 ?_
  refine AW.aload_n X (pc := 11) 0 rfl rfl d_R_init_11 ?_
  refine AW.iconst X (pc := 12) (v := 5) (by decide) d_R_init_12 ?_
  refine AW.newI X (pc := 13) (t := 0) (n := 5) (sh_ry _) rfl wa_int (by decide) (by decide) (by decide) ⟨show 272 + 3 * r + 1 + 1 < 1000000 by omega, hA0, (fun j => hz _ j (by omega)), (fun j => by rw [m_bu_row (by omega)]; exact (fun j => hbz _ j (by omega)) j), (List.forall_mem_cons.mpr ⟨(Or.inl (show (272 + 3 * r : Nat) < 272 + 3 * r + 1 + 1 by omega)), (List.forall_mem_cons.mpr ⟨trivial, (List.forall_mem_cons.mpr ⟨trivial, (List.forall_mem_cons.mpr ⟨trivial, (fun _ h => nomatch h)⟩)⟩)⟩)⟩), (List.forall_mem_cons.mpr ⟨(Or.inl (show (272 + 3 * r : Nat) < 272 + 3 * r + 1 + 1 by omega)), (fun _ h => nomatch h)⟩)⟩ (show (1 : Nat) + 1 ≤ 2 by omega) (show (5 : Nat) + 5 ≤ 10 by omega) d_R_init_13 (fun q_13 => ?_)
  refine AW.putFS X (pc := 15) (k := 272 + 3 * r) (k2 := 272 + 3 * r + 2) (ci := 1) (j := 4) (o := 2) (β2 := (m_bu (m_bu β (272 + 3 * r) 3) (272 + 3 * r) 4)) ft_R hnm (by omega) (sh_r _) rfl in_R ft_R_ok n_R (by decide) wf_R_15 rfl rfl rfl rfl (fun _ => rfl) (fun _ => rfl) (by omega) (by omega) rfl d_R_init_15 ?_
  refine AW.aload_n X (pc := 18) 0 rfl rfl d_R_init_18 ?_
  refine AW.iload_n X (pc := 19) 1 rfl rfl d_R_init_19 ?_
  refine AW.putFI X (pc := 20) (k := 272 + 3 * r) (ci := 1) (j := 0) (x := ek) (ty := .int) ft_R hnm (by omega) (sh_r _) rfl in_R ft_R_ok n_R (by decide) wf_R_18 rfl rfl rfl rfl rfl rfl d_R_init_20 ?_
  refine AW.aload_n X (pc := 23) 0 rfl rfl d_R_init_23 ?_
  refine AW.iload_n X (pc := 24) 2 rfl rfl d_R_init_24 ?_
  refine AW.putFI X (pc := 25) (k := 272 + 3 * r) (ci := 1) (j := 1) (x := yr) (ty := .int) ft_R hnm (by omega) (sh_r _) rfl in_R ft_R_ok n_R (by decide) wf_R_22 rfl rfl rfl rfl rfl rfl d_R_init_25 ?_
  refine AW.aload_n X (pc := 28) 0 rfl rfl d_R_init_28 ?_
  refine AW.iload_n X (pc := 29) 3 rfl rfl d_R_init_29 ?_
  refine AW.putFI X (pc := 30) (k := 272 + 3 * r) (ci := 1) (j := 2) (x := ac) (ty := .int) ft_R hnm (by omega) (sh_r _) rfl in_R ft_R_ok n_R (by decide) wf_R_25 rfl rfl rfl rfl rfl rfl d_R_init_30 ?_
  exact hret 33 _ _ _ _ _ _ _ d_R_init_33 (Nat.le_of_ble_eq_true rfl) (Nat.le_of_ble_eq_true rfl) (fun k hk => by rw [va_up_ne _ _ (by omega), va_up_ne _ _ (by omega)]) ⟨rfl, rfl, rfl, rfl⟩
