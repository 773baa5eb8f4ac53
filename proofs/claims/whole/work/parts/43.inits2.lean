/-- the class's cells behind i units made -/
def cM (μ : Mu) : Nat → Mu
  | 0 => μ
  | i + 1 => m_up (uM (cM μ i) i) 4 i (nI (5 + 4 * i + 1))
theorem uM_out {μ : Mu} {i k : Nat} (h : k < 5 + 4 * i ∨ 5 + 4 * i + 3 < k) : uM μ i k = μ k := by
  unfold uM
  rw [fill_out (by omega), fill_out (by omega), m_up_row (by omega), m_up_row (by omega), m_up_row (by omega), m_up_row (by omega)]
theorem cM_hi {μ : Mu} : ∀ (i : Nat) {k : Nat}, 5 + 4 * i ≤ k → cM μ i k = μ k
  | 0, k, _ => rfl
  | i + 1, k, h => by
    show m_up (uM (cM μ i) i) 4 i (nI (5 + 4 * i + 1)) k = μ k
    rw [m_up_row (by omega), uM_out (by omega), cM_hi i (by omega)]
theorem cM_z {μ : Mu} {n : Nat} (hz : ∀ k j, n ≤ k → μ k j = 0) (i : Nat) {k j : Nat} (h : 5 + 4 * i ≤ k ∧ n ≤ k) : cM μ i k j = 0 := by
  rw [cM_hi i h.1]
  exact hz k j h.2
theorem fk4 {j o : Nat} (h : (fk 4)[j]? = some (some o)) : j = 0 ∨ j = 1 ∨ j = 3 ∨ j = 4 ∨ j = 5 := by
  have hl : j < 7 := (List.getElem?_eq_some_iff.mp h).1
  have q : ∀ j, j < 7 → (fk 4)[j]? = some none ∨ j = 0 ∨ j = 1 ∨ j = 3 ∨ j = 4 ∨ j = 5 := by decide
  rcases q j hl with q | q
  · rw [q] at h; cases h
  · exact q
theorem fk3 {j o : Nat} (h : (fk 3)[j]? = some (some o)) : j = 0 ∨ j = 1 ∨ j = 3 := by
  have hl : j < 9 := (List.getElem?_eq_some_iff.mp h).1
  have q : ∀ j, j < 9 → (fk 3)[j]? = some none ∨ j = 0 ∨ j = 1 ∨ j = 3 := by decide
  rcases q j hl with q | q
  · rw [q] at h; cases h
  · exact q
theorem fk2 {j o : Nat} (h : (fk 2)[j]? = some (some o)) : j = 0 := by
  have hl : j < 6 := (List.getElem?_eq_some_iff.mp h).1
  have q : ∀ j, j < 6 → (fk 2)[j]? = some none ∨ j = 0 := by decide
  rcases q j hl with q | q
  · rw [q] at h; cases h
  · exact q
theorem fk1 {j o : Nat} (h : (fk 1)[j]? = some (some o)) : j = 3 ∨ j = 4 := by
  have hl : j < 7 := (List.getElem?_eq_some_iff.mp h).1
  have q : ∀ j, j < 7 → (fk 1)[j]? = some none ∨ j = 3 ∨ j = 4 := by decide
  rcases q j hl with q | q
  · rw [q] at h; cases h
  · exact q
theorem fk0 {j o : Nat} (h : (fk 0)[j]? = some (some o)) : j = 0 ∨ j = 1 ∨ j = 2 := by
  have hl : j < 4 := (List.getElem?_eq_some_iff.mp h).1
  have q : ∀ j, j < 4 → (fk 0)[j]? = some none ∨ j = 0 ∨ j = 1 ∨ j = 2 := by decide
  rcases q j hl with q | q
  · rw [q] at h; cases h
  · exact q
def mbs (β : Nat → Nat → Bool) (k : Nat) : List Nat → Nat → Nat → Bool
  | [] => β
  | j :: r => m_bu (mbs β k r) k j
theorem mbs_in {β : Nat → Nat → Bool} {k j : Nat} : ∀ {L : List Nat}, j ∈ L → mbs β k L k j = true
  | a :: r, h => by
    show m_bu (mbs β k r) k a k j = true
    by_cases e : j = a
    · subst e; exact m_bu_self
    · rw [m_bu_ne e]
      rcases List.mem_cons.mp h with q | q
      · exact absurd q e
      · exact mbs_in q
theorem mbs_out {β : Nat → Nat → Bool} {k a : Nat} (h : a ≠ k) : ∀ (L : List Nat), mbs β k L a = β a
  | [] => rfl
  | j :: r => (m_bu_row h).trans (mbs_out h r)
theorem fill_up2 {μ : Mu} {a b n : Nat} {x y : Int32} (h : a ≠ b) : m_up (m_up (fillM (fillM μ a n x) b n y) a n x) b n y = fillM (fillM μ a (n + 1) x) b (n + 1) y := by
  funext p q
  by_cases hb : p = b
  · subst hb
    rw [← fill_up, m_up_at, m_up_row (Ne.symm h), m_up_at]
    unfold upd fillM
    by_cases e1 : q = n
    · simp [e1]
    · by_cases e2 : q < n
      · simp [e1, e2]
      · simp [e1, e2, Ne.symm h]
  · rw [m_up_row hb, fill_out hb]
    by_cases ha : p = a
    · subst ha
      rw [← fill_up, m_up_at, m_up_at, fill_out hb]
    · rw [m_up_row ha, fill_out hb, fill_out ha, fill_out ha]
theorem fill_up3 {μ : Mu} {a b c n : Nat} {x y z : Int32} (h : a ≠ b) (h2 : a ≠ c) (h3 : b ≠ c) : m_up (m_up (m_up (fillM (fillM (fillM μ a n x) b n y) c n z) a n x) b n y) c n z = fillM (fillM (fillM μ a (n + 1) x) b (n + 1) y) c (n + 1) z := by
  rw [← fill_up2 h]
  funext p q
  unfold m_up fillM
  by_cases ha : p = a
  · subst ha
    simp [h, h2]
  · by_cases hb : p = b
    · subst hb
      simp [h3, Ne.symm h]
    · by_cases hc : p = c
      · subst hc
        by_cases e1 : q = n
        · simp [e1]
        · by_cases e2 : q < n
          · simp [e1, e2, show q < n + 1 by omega]
          · simp [e1, e2, ha, hb, show ¬ q < n + 1 by omega]
      · simp [ha, hb, hc]
/-- the reference's cells when it is made -/
def mM (μ : Mu) : Mu := fillM (fillM (fillM (fillM (fillM μ 258 240 (-1)) 261 240 (-2)) 262 60 (-1)) 265 60 (-1)) 266 60 (-1)
set_option maxHeartbeats 4000000 in
set_option maxRecDepth 100000 in
theorem c_C_init (K : KTy)  (μ : Mu) (β : Nat → Nat → Bool) (hKN : KN K = 1) (hz : ∀ k j, 1 ≤ k → μ k j = 0) (hbz : ∀ k j, 1 ≤ k → β k j = false) : CTA K y_C_init (k_C_init :: GT) 2 249 1630 β [.ref 0] μ (fun v μ2 β2 N2 => v = none ∧ μ2 = cM μ 60 ∧ N2 = 250 ∧ (∀ k ci j o, k < 250 → sh k = .inl ci → (fk ci)[j]? = some (some o) → β2 k j = true) ∧ ∀ k j, 250 ≤ k → β2 k j = false) := by
  refine CTA.void (cc := b_C_init) (maxL := 2) (by decide) rfl rfl (Nat.le_of_ble_eq_true rfl) ?_
  intro G ad N hK X hA0 hnm hret
  subst hK
  obtain rfl : N = 1 := hKN
  show AW G (rmA 2 249 1630) 2 (0, 0, ad, 1, β) 0 [(0, .ref 0)] [] μ
  have key : ∀ (n i : Nat) (x : Int32) (ad1 : Nat → Nat) (β1 : Nat → Nat → Bool), 60 - i < n → i ≤ 60 → x = nI i → (∀ k, k < 1 → ad1 k = ad k) → (β1 0 0 = true ∧ β1 0 1 = true ∧ β1 0 3 = true) → (∀ k ci j o, 0 < k → k < 5 + 4 * i → sh k = .inl ci → (fk ci)[j]? = some (some o) → β1 k j = true) → (∀ k j, 5 + 4 * i ≤ k → β1 k j = false) → AW G (rmA 2 249 1630) 2 (4 + 4 * i, 126 + 21 * i, ad1, 5 + 4 * i, β1) 35 [(1, .int x), (0, .ref 0)] [] (cM μ i) := by
    intro n
    induction n with
    | zero =>
      intro i x ad1 β1 hlt
      exact absurd hlt (Nat.not_lt_zero _)
    | succ n ih =>
      intro i x ad1 β1 hlt hi6 ex had1 hfl hfu hbz1
      subst ex
      refine AW.iload_n X (pc := 35) 0 rfl rfl d_C_init_35 ?_
      refine AW.aload_n X (pc := 36) 1 rfl rfl d_C_init_36 ?_
      refine AW.get X (pc := 37) (k := 0) (ci := 4) (j := 3) (v := .ref 4) (by omega) rfl rfl in_C (by decide) wf_C_24 rfl (by rw [show β1 0 3 = true from hfl.2.2]; rfl) d_C_init_37 ?_
      refine AW.alen X (pc := 40) (k := 4) (t := 3) (n := 60) (kd := 2) (v := 60) (by omega) rfl rfl (by decide) d_C_init_40 ?_
      refine AW.icmp_ge X (pc := 41) 63 d_C_init_41 (by decide) (fun c_41 => ?_) (fun c_41 => ?_)
      · rw [i_le (show (60 : Int32).toInt = 60 by decide) (nI_toInt (show i < 2 ^ 31 by omega))] at c_41
        obtain rfl : i = 60 := by omega
        show AW G (rmA 2 249 1630) 2 (244, 1386, ad1, 245, β1) 63 [(1, .int (nI 60)), (0, .ref 0)] [] (cM μ 60)
        refine AW.aload_n X (pc := 63) 1 rfl rfl d_C_init_63 ?_
        refine AW.new X (pc := 64) (ci := 0) ft_L rfl rfl in_L ft_L_ok wk_C_29 wb_L wn_L dv_L ⟨show 245 < 1000000 by omega, hA0, (fun j => cM_z hz 60 (by omega)), (fun j => hbz1 _ j (by omega)), (List.forall_mem_cons.mpr ⟨trivial, (List.forall_mem_cons.mpr ⟨(Or.inl (show (0 : Nat) < 245 by omega)), (fun _ h => nomatch h)⟩)⟩), (List.forall_mem_cons.mpr ⟨(Or.inl (show (0 : Nat) < 245 by omega)), (fun _ h => nomatch h)⟩)⟩ (show (244 : Nat) + 1 ≤ 249 by omega) (show (1386 : Nat) + 4 ≤ 1630 by omega) d_C_init_64 (fun q_64 => ?_)
        refine AW.dup X (pc := 67) rfl d_C_init_67 ?_
        refine AW.callNA X hA0 (pc := 68) (ret := none) (b := 245) (nA := 0) [] [.ref 245, .ref 0] (c_L_init (kOf G (va_up ad1 (245) q_64) 246) (cM μ 60) β1 rfl (fun k j h => cM_z hz 60 (by omega)) (fun k j h => hbz1 k j (by omega))) (gv_I kw_L_init) rfl (by decide +kernel) rfl wn_L (host := R_C) X.gS.2.2.2.2.2.2.1 wi_L_init rfl ⟨Nat.le_of_ble_eq_true rfl, Nat.le_of_ble_eq_true rfl⟩ ⟨show (245 : Nat) + 3 ≤ 249 by omega, show (1390 : Nat) + 180 ≤ 1630 by omega⟩ (Nat.le_of_ble_eq_true rfl) (List.forall_mem_cons.mpr ⟨trivial, (List.forall_mem_cons.mpr ⟨(Or.inl (show (0 : Nat) < 245 + 1 by omega)), (fun _ h => nomatch h)⟩)⟩) (List.forall_mem_cons.mpr ⟨(Or.inl (show (245 : Nat) < 245 + 1 by omega)), (List.forall_mem_cons.mpr ⟨(Or.inl (show (0 : Nat) < 245 + 1 by omega)), (fun _ h => nomatch h)⟩)⟩) d_C_init_68 rfl (fun v μ2 β2 adL N2 hq hadL => ?_)
        obtain ⟨rfl, hm, hb2, hn2⟩ := hq
        rw [hm, hb2, hn2]
        clear hm hb2 hn2
        show AW G (rmA 2 249 1630) 2 (248, 1570, adL, 249, (m_bu (m_bu (m_bu β1 245 0) 245 1) 245 2)) 71 [(1, .int (nI 60)), (0, .ref 0)] [.ref 245, .ref 0] (cM μ 60)
        refine AW.putFS X (pc := 71) (k := 0) (k2 := 245) (ci := 4) (j := 4) (o := 245) (β2 := (m_bu (m_bu (m_bu (m_bu β1 245 0) 245 1) 245 2) 0 4)) ft_C hnm (by omega) rfl rfl in_C ft_C_ok n_C (by decide) wf_C_32 rfl rfl rfl rfl (fun _ => rfl) (fun _ => rfl) (by omega) (by omega) rfl d_C_init_71 ?_
        refine AW.aload_n X (pc := 74) 1 rfl rfl d_C_init_74 ?_
        refine AW.bipush X (pc := 75) (v := 60) (by decide) d_C_init_75 ?_
        refine AW.newI X (pc := 77) (t := 0) (n := 60) rfl rfl wa_int (by decide) (by decide) (by decide) ⟨show 249 < 1000000 by omega, hA0, (fun j => cM_z hz 60 (by omega)), (fun j => by rw [m_bu_row (by omega), m_bu_row (by omega), m_bu_row (by omega), m_bu_row (by omega)]; exact (fun j => hbz1 _ j (by omega)) j), (List.forall_mem_cons.mpr ⟨trivial, (List.forall_mem_cons.mpr ⟨(Or.inl (show (0 : Nat) < 249 by omega)), (fun _ h => nomatch h)⟩)⟩), (List.forall_mem_cons.mpr ⟨(Or.inl (show (0 : Nat) < 249 by omega)), (fun _ h => nomatch h)⟩)⟩ (show (248 : Nat) + 1 ≤ 249 by omega) (show (1570 : Nat) + 60 ≤ 1630 by omega) d_C_init_77 (fun q_77 => ?_)
        refine AW.putFS X (pc := 79) (k := 0) (k2 := 249) (ci := 4) (j := 5) (o := 249) (β2 := (m_bu (m_bu (m_bu (m_bu (m_bu β1 245 0) 245 1) 245 2) 0 4) 0 5)) ft_C hnm (by omega) rfl rfl in_C ft_C_ok n_C (by decide) wf_C_36 rfl rfl rfl rfl (fun _ => rfl) (fun _ => rfl) (by omega) (by omega) rfl d_C_init_79 ?_
        refine hret 82 _ _ _ _ _ _ _ d_C_init_82 (Nat.le_of_ble_eq_true rfl) (Nat.le_of_ble_eq_true rfl) (fun k hk => ?_) ⟨rfl, rfl, rfl, fun k ci j o hk hs hf => ?_, fun k j hk => ?_⟩
        · rw [va_up_ne _ _ (by omega), hadL k (by omega), va_up_ne _ _ (by omega)]; exact had1 k hk
        · by_cases hk0 : k = 0
          · subst hk0
            cases hs
            rcases fk4 hf with rfl | rfl | rfl | rfl | rfl
            · exact ((m_bu_ne (by decide)).trans ((m_bu_ne (by decide)).trans ((congrFun (m_bu_row (by omega)) 0).trans ((congrFun (m_bu_row (by omega)) 0).trans ((congrFun (m_bu_row (by omega)) 0).trans hfl.1)))))
            · exact ((m_bu_ne (by decide)).trans ((m_bu_ne (by decide)).trans ((congrFun (m_bu_row (by omega)) 1).trans ((congrFun (m_bu_row (by omega)) 1).trans ((congrFun (m_bu_row (by omega)) 1).trans hfl.2.1)))))
            · exact ((m_bu_ne (by decide)).trans ((m_bu_ne (by decide)).trans ((congrFun (m_bu_row (by omega)) 3).trans ((congrFun (m_bu_row (by omega)) 3).trans ((congrFun (m_bu_row (by omega)) 3).trans hfl.2.2)))))
            · exact ((m_bu_ne (by decide)).trans m_bu_self)
            · exact m_bu_self
          · by_cases hkL : k = 245
            · subst hkL
              cases hs
              rcases fk0 hf with rfl | rfl | rfl
              · exact ((congrFun (m_bu_row (by omega)) 0).trans ((congrFun (m_bu_row (by omega)) 0).trans ((m_bu_ne (by decide)).trans ((m_bu_ne (by decide)).trans m_bu_self))))
              · exact ((congrFun (m_bu_row (by omega)) 1).trans ((congrFun (m_bu_row (by omega)) 1).trans ((m_bu_ne (by decide)).trans m_bu_self)))
              · exact ((congrFun (m_bu_row (by omega)) 2).trans ((congrFun (m_bu_row (by omega)) 2).trans m_bu_self))
            · rw [m_bu_row hk0, m_bu_row hk0, m_bu_row hkL, m_bu_row hkL, m_bu_row hkL]
              rcases Nat.lt_or_ge k 245 with h | h
              · exact hfu k ci j o (by omega) (by omega) hs hf
              · rcases (show k = 246 ∨ k = 247 ∨ k = 248 ∨ k = 249 by omega) with rfl | rfl | rfl | rfl <;> cases hs
        · rw [m_bu_row (by omega), m_bu_row (by omega), m_bu_row (by omega), m_bu_row (by omega), m_bu_row (by omega)]; exact hbz1 k j (by omega)
      · rw [i_le (show (60 : Int32).toInt = 60 by decide) (nI_toInt (show i < 2 ^ 31 by omega))] at c_41
        have hi : i < 60 := by omega
        refine AW.aload_n X (pc := 44) 1 rfl rfl d_C_init_44 ?_
        refine AW.get X (pc := 45) (k := 0) (ci := 4) (j := 3) (v := .ref 4) (by omega) rfl rfl in_C (by decide) wf_C_24 rfl (by rw [show β1 0 3 = true from hfl.2.2]; rfl) d_C_init_45 ?_
        refine AW.iload_n X (pc := 48) 0 rfl rfl d_C_init_48 ?_
        refine AW.new X (pc := 49) (ci := 3) ft_U (sh_u hi) rfl in_U ft_U_ok wk_C_22 wb_U wn_U dv_U ⟨show 5 + 4 * i < 1000000 by omega, hA0, (fun j => cM_z hz i (by omega)), (fun j => hbz1 _ j (by omega)), (List.forall_mem_cons.mpr ⟨trivial, (List.forall_mem_cons.mpr ⟨(Or.inl (show (0 : Nat) < 5 + 4 * i by omega)), (fun _ h => nomatch h)⟩)⟩), (List.forall_mem_cons.mpr ⟨trivial, (List.forall_mem_cons.mpr ⟨(Or.inl (show (4 : Nat) < 5 + 4 * i by omega)), (fun _ h => nomatch h)⟩)⟩)⟩ (show (4 + 4 * i : Nat) + 1 ≤ 249 by omega) (show (126 + 21 * i : Nat) + 9 ≤ 1630 by omega) d_C_init_49 (fun q_49 => ?_)
        refine AW.dup X (pc := 52) rfl d_C_init_52 ?_
        refine AW.callIA X hA0 (pc := 53) (ret := none) (b := 5 + 4 * i) (nA := 0) [] [.ref (5 + 4 * i), .int (nI i), .ref 4] (c_U_init (kOf G (va_up ad1 (5 + 4 * i) q_49) (5 + 4 * i + 1)) i (cM μ i) β1 rfl hi (fun k j h => cM_z hz i (by omega)) (fun k j h => hbz1 k j (by omega))) (gv_I kw_U_init) rfl (by decide +kernel) rfl wn_U wm_C_28 wi_U_init rfl ⟨Nat.le_of_ble_eq_true rfl, Nat.le_of_ble_eq_true rfl⟩ ⟨show (4 + 4 * i + 1 : Nat) + 3 ≤ 249 by omega, show (126 + 21 * i + 9 : Nat) + 12 ≤ 1630 by omega⟩ (Nat.le_of_ble_eq_true rfl) (List.forall_mem_cons.mpr ⟨trivial, (List.forall_mem_cons.mpr ⟨(Or.inl (show (0 : Nat) < 5 + 4 * i + 1 by omega)), (fun _ h => nomatch h)⟩)⟩) (List.forall_mem_cons.mpr ⟨(Or.inl (show (5 + 4 * i : Nat) < 5 + 4 * i + 1 by omega)), (List.forall_mem_cons.mpr ⟨trivial, (List.forall_mem_cons.mpr ⟨(Or.inl (show (4 : Nat) < 5 + 4 * i + 1 by omega)), (fun _ h => nomatch h)⟩)⟩)⟩) d_C_init_53 rfl (fun v μ2 β2 adU N2 hq hadU => ?_)
        obtain ⟨rfl, hm, hb2, hn2⟩ := hq
        rw [hm, hb2, hn2]
        clear hm hb2 hn2
        show AW G (rmA 2 249 1630) 2 (4 + 4 * i + 1 + 3, 126 + 21 * i + 9 + 12, adU, 5 + 4 * i + 4, (m_bu (m_bu (m_bu β1 (5 + 4 * i) 0) (5 + 4 * i) 1) (5 + 4 * i) 3)) 56 [(1, .int (nI i)), (0, .ref 0)] [.ref (5 + 4 * i), .int (nI i), .ref 4] (uM (cM μ i) i)
        refine AW.aastN X (pc := 56) (k := 4) (v := 5 + 4 * i) (t := 3) (n := 60) (ci := 3) (j := i) (by omega) (by omega) (by omega) rfl rfl (sh_u hi) rfl (by omega) (by decide) d_C_init_56 ?_
        refine AW.iinc X (pc := 57) (v := nI (i + 1)) (lv2 := [(1, .int (nI (i + 1))), (0, .ref 0)]) 0 rfl (nI_1 _) d_C_init_57 (by decide) rfl ?_
        refine AW.goto X (pc := 60) 35 d_C_init_60 (by decide) ?_
        refine AW.wide (show _ ≤ 4 + 4 * (i + 1) by omega) (show _ ≤ 126 + 21 * (i + 1) by omega) ?_
        refine ih (i + 1) _ _ _ (by omega) (by omega) rfl (fun k hk => ?_) ⟨?_, ?_, ?_⟩ (fun k ci j o h0 hk hs hf => ?_) (fun k j hk => ?_)
        · rw [hadU k (by omega), va_up_ne _ _ (by omega)]; exact had1 k hk
        · rw [m_bu_row (by omega), m_bu_row (by omega), m_bu_row (by omega)]; exact hfl.1
        · rw [m_bu_row (by omega), m_bu_row (by omega), m_bu_row (by omega)]; exact hfl.2.1
        · rw [m_bu_row (by omega), m_bu_row (by omega), m_bu_row (by omega)]; exact hfl.2.2
        · by_cases hk5 : k = 5 + 4 * i
          · subst hk5
            rw [sh_u hi] at hs
            cases hs
            rcases fk3 hf with rfl | rfl | rfl
            · exact (m_bu_ne (by decide)).trans ((m_bu_ne (by decide)).trans m_bu_self)
            · exact (m_bu_ne (by decide)).trans m_bu_self
            · exact m_bu_self
          · rw [m_bu_row hk5, m_bu_row hk5, m_bu_row hk5]
            rcases Nat.lt_or_ge k (5 + 4 * i) with h | h
            · exact hfu k ci j o h0 h hs hf
            · rcases (show k = 5 + 4 * i + 1 ∨ k = 5 + 4 * i + 2 ∨ k = 5 + 4 * i + 3 by omega) with rfl | rfl | rfl
              · rw [sh_ue hi] at hs; cases hs
              · rw [sh_ur hi] at hs; cases hs
              · rw [sh_uh hi] at hs; cases hs
        · rw [m_bu_row (by omega), m_bu_row (by omega), m_bu_row (by omega)]; exact hbz1 k j (by omega)
  refine AW.aload_n X (pc := 0) 0 rfl rfl d_C_init_0 ?_
  refine AW.objInit X (pc := 1) wo_C wo_i wo_c (Nat.le_of_ble_eq_true rfl) (Nat.le_of_ble_eq_true rfl) d_C_init_1 ?_
  refine AW.aload_n X (pc := 4) 0 rfl rfl d_C_init_4 ?_
  refine AW.new X (pc := 5) (ci := 2) ft_T rfl rfl in_T ft_T_ok wk_C_7 wb_T wn_T dv_T ⟨show 1 < 1000000 by omega, hA0, (fun j => hz _ j (by omega)), (fun j => hbz _ j (by omega)), (List.forall_mem_cons.mpr ⟨(Or.inl (show (0 : Nat) < 1 by omega)), (fun _ h => nomatch h)⟩), (List.forall_mem_cons.mpr ⟨(Or.inl (show (0 : Nat) < 1 by omega)), (fun _ h => nomatch h)⟩)⟩ (show (0 : Nat) + 1 ≤ 249 by omega) (show (0 : Nat) + 6 ≤ 1630 by omega) d_C_init_5 (fun q_5 => ?_)
  refine AW.dup X (pc := 8) rfl d_C_init_8 ?_
  refine AW.callNA X hA0 (pc := 9) (ret := none) (b := 1) (nA := 0) [] [.ref 1, .ref 0] (c_T_init (kOf G (va_up ad (1) q_5) 2) μ β rfl (fun k j h => hz k j (by omega)) (fun k j h => hbz k j (by omega))) (gv_I kw_T_init) rfl (by decide +kernel) rfl wn_T (host := R_C) X.gS.2.2.2.2.2.1 wi_T_init rfl ⟨Nat.le_of_ble_eq_true rfl, Nat.le_of_ble_eq_true rfl⟩ ⟨show (1 : Nat) + 1 ≤ 249 by omega, show (6 : Nat) + 40 ≤ 1630 by omega⟩ (Nat.le_of_ble_eq_true rfl) (List.forall_mem_cons.mpr ⟨(Or.inl (show (0 : Nat) < 1 + 1 by omega)), (fun _ h => nomatch h)⟩) (List.forall_mem_cons.mpr ⟨(Or.inl (show (1 : Nat) < 1 + 1 by omega)), (List.forall_mem_cons.mpr ⟨(Or.inl (show (0 : Nat) < 1 + 1 by omega)), (fun _ h => nomatch h)⟩)⟩) d_C_init_9 rfl (fun v μ2 β2 adT N2 hq hadT => ?_)
  obtain ⟨rfl, hm, hb2, hn2⟩ := hq
  rw [hm, hb2, hn2]
  clear hm hb2 hn2
  show AW G (rmA 2 249 1630) 2 (2, 46, adT, 3, (m_bu β 1 0)) 12 [(0, .ref 0)] [.ref 1, .ref 0] μ
  refine AW.putFS X (pc := 12) (k := 0) (k2 := 1) (ci := 4) (j := 0) (o := 1) (β2 := (m_bu (m_bu β 1 0) 0 0)) ft_C hnm (by omega) rfl rfl in_C ft_C_ok n_C (by decide) wf_C_10 rfl rfl rfl rfl (fun _ => rfl) (fun _ => rfl) (by omega) (by omega) rfl d_C_init_12 ?_
  refine AW.aload_n X (pc := 15) 0 rfl rfl d_C_init_15 ?_
  refine AW.bipush X (pc := 16) (v := 20) (by decide) d_C_init_16 ?_
  refine AW.newR X (pc := 18) (t := 2) (n := 20) rfl rfl wk_C_16 X.gS.2.2.2.1 (by decide) (by decide) (by decide) ⟨show 3 < 1000000 by omega, hA0, (fun j => hz _ j (by omega)), (fun j => by rw [m_bu_row (by omega), m_bu_row (by omega)]; exact (fun j => hbz _ j (by omega)) j), (List.forall_mem_cons.mpr ⟨(Or.inl (show (0 : Nat) < 3 by omega)), (fun _ h => nomatch h)⟩), (List.forall_mem_cons.mpr ⟨(Or.inl (show (0 : Nat) < 3 by omega)), (fun _ h => nomatch h)⟩)⟩ (show (2 : Nat) + 1 ≤ 249 by omega) (show (46 : Nat) + 20 ≤ 1630 by omega) d_C_init_18 (fun q_18 => ?_)
  refine AW.putFS X (pc := 21) (k := 0) (k2 := 3) (ci := 4) (j := 1) (o := 3) (β2 := (m_bu (m_bu (m_bu β 1 0) 0 0) 0 1)) ft_C hnm (by omega) rfl rfl in_C ft_C_ok n_C (by decide) wf_C_18 rfl rfl rfl rfl (fun _ => rfl) (fun _ => rfl) (by omega) (by omega) rfl d_C_init_21 ?_
  refine AW.aload_n X (pc := 24) 0 rfl rfl d_C_init_24 ?_
  refine AW.bipush X (pc := 25) (v := 60) (by decide) d_C_init_25 ?_
  refine AW.newR X (pc := 27) (t := 3) (n := 60) rfl rfl wk_C_22 X.gS.2.2.2.2.1 (by decide) (by decide) (by decide) ⟨show 3 + 1 < 1000000 by omega, hA0, (fun j => hz _ j (by omega)), (fun j => by rw [m_bu_row (by omega), m_bu_row (by omega), m_bu_row (by omega)]; exact (fun j => hbz _ j (by omega)) j), (List.forall_mem_cons.mpr ⟨(Or.inl (show (0 : Nat) < 3 + 1 by omega)), (fun _ h => nomatch h)⟩), (List.forall_mem_cons.mpr ⟨(Or.inl (show (0 : Nat) < 3 + 1 by omega)), (fun _ h => nomatch h)⟩)⟩ (show (3 : Nat) + 1 ≤ 249 by omega) (show (66 : Nat) + 60 ≤ 1630 by omega) d_C_init_27 (fun q_27 => ?_)
  refine AW.putFS X (pc := 30) (k := 0) (k2 := 4) (ci := 4) (j := 3) (o := 4) (β2 := (m_bu (m_bu (m_bu (m_bu β 1 0) 0 0) 0 1) 0 3)) ft_C hnm (by omega) rfl rfl in_C ft_C_ok n_C (by decide) wf_C_24 rfl rfl rfl rfl (fun _ => rfl) (fun _ => rfl) (by omega) (by omega) rfl d_C_init_30 ?_
  refine AW.iconst X (pc := 33) (v := 0) (by decide) d_C_init_33 ?_
  refine AW.istore_n X (pc := 34) (lv2 := [(1, .int 0), (0, .ref 0)]) rfl d_C_init_34 (by decide) rfl ?_
  refine key 61 0 _ _ _ (by omega) (by omega) nI_0.symm (fun k hk => ?_) ⟨?_, ?_, ?_⟩ (fun k ci j o h0 hk hs hf => ?_) (fun k j hk => ?_)
  · rw [va_up_ne _ _ (by omega), va_up_ne _ _ (by omega), hadT k (by omega), va_up_ne _ _ (by omega)]
  · exact ((m_bu_ne (by decide)).trans ((m_bu_ne (by decide)).trans m_bu_self))
  · exact ((m_bu_ne (by decide)).trans m_bu_self)
  · exact m_bu_self
  · rcases (show k = 1 ∨ k = 2 ∨ k = 3 ∨ k = 4 by omega) with rfl | rfl | rfl | rfl
    · cases hs; rw [fk2 hf]; exact ((congrFun (m_bu_row (by omega)) 0).trans ((congrFun (m_bu_row (by omega)) 0).trans ((congrFun (m_bu_row (by omega)) 0).trans m_bu_self)))
    · cases hs
    · cases hs
    · cases hs
  · rw [m_bu_row (by omega), m_bu_row (by omega), m_bu_row (by omega), m_bu_row (by omega)]; exact hbz k j (by omega)
set_option maxHeartbeats 4000000 in
set_option maxRecDepth 100000 in
theorem c_M_init (K : KTy)  (μ : Mu) (β : Nat → Nat → Bool) (hKN : KN K = 251) (hz : ∀ k j, 251 ≤ k → μ k j = 0) (hbz : ∀ k j, 251 ≤ k → β k j = false) : CTA K y_M_init (k_M_init :: GT) 1 20 1680 β [.ref 250] μ (fun v μ2 β2 N2 => v = none ∧ μ2 = mM μ ∧ N2 = 271 ∧ β2 = mbs β 250 [25, 24, 23, 21, 19, 18, 17, 16, 15, 14, 13, 12, 11, 10, 9, 8, 7, 6, 5, 1]) := by
  refine CTA.void (cc := b_M_init) (maxL := 2) (by decide) rfl rfl (Nat.le_of_ble_eq_true rfl) ?_
  intro G ad N hK X hA0 hnm hret
  subst hK
  obtain rfl : N = 251 := hKN
  show AW G (rmA 1 20 1680) 2 (0, 0, ad, 251, β) 0 [(0, .ref 250)] [] μ
  refine AW.aload_n X (pc := 0) 0 rfl rfl d_M_init_0 ?_
  refine AW.objInit X (pc := 1) wo_M wo_i wo_c (Nat.le_of_ble_eq_true rfl) (Nat.le_of_ble_eq_true rfl) d_M_init_1 ?_
  refine AW.aload_n X (pc := 4) 0 rfl rfl d_M_init_4 ?_
  refine AW.bipush X (pc := 5) (v := 40) (by decide) d_M_init_5 ?_
  refine AW.newB X (pc := 7) (t := 4) (n := 40) rfl rfl wa_byte (by decide) (by decide) (by decide) ⟨show 251 < 1000000 by omega, hA0, (fun j => hz _ j (by omega)), (fun j => hbz _ j (by omega)), (List.forall_mem_cons.mpr ⟨(Or.inl (show (250 : Nat) < 251 by omega)), (fun _ h => nomatch h)⟩), (List.forall_mem_cons.mpr ⟨(Or.inl (show (250 : Nat) < 251 by omega)), (fun _ h => nomatch h)⟩)⟩ (show (0 : Nat) + 1 ≤ 20 by omega) (show (0 : Nat) + 40 ≤ 1680 by omega) d_M_init_7 (fun q_7 => ?_)
  refine AW.putFS X (pc := 9) (k := 250) (k2 := 251) (ci := 5) (j := 1) (o := 1) (β2 := (m_bu β 250 1)) ft_M hnm (by omega) rfl rfl in_M ft_M_ok n_M (by decide) wf_M_7 rfl rfl rfl rfl (fun _ => rfl) (fun _ => rfl) (by omega) (by omega) rfl d_M_init_9 ?_
  refine AW.aload_n X (pc := 12) 0 rfl rfl d_M_init_12 ?_
  refine AW.bipush X (pc := 13) (v := 20) (by decide) d_M_init_13 ?_
  refine AW.newI X (pc := 15) (t := 0) (n := 20) rfl rfl wa_int (by decide) (by decide) (by decide) ⟨show 251 + 1 < 1000000 by omega, hA0, (fun j => hz _ j (by omega)), (fun j => by rw [m_bu_row (by omega)]; exact (fun j => hbz _ j (by omega)) j), (List.forall_mem_cons.mpr ⟨(Or.inl (show (250 : Nat) < 251 + 1 by omega)), (fun _ h => nomatch h)⟩), (List.forall_mem_cons.mpr ⟨(Or.inl (show (250 : Nat) < 251 + 1 by omega)), (fun _ h => nomatch h)⟩)⟩ (show (1 : Nat) + 1 ≤ 20 by omega) (show (40 : Nat) + 20 ≤ 1680 by omega) d_M_init_15 (fun q_15 => ?_)
  refine AW.putFS X (pc := 17) (k := 250) (k2 := 252) (ci := 5) (j := 5) (o := 2) (β2 := (m_bu (m_bu β 250 1) 250 5)) ft_M hnm (by omega) rfl rfl in_M ft_M_ok n_M (by decide) wf_M_13 rfl rfl rfl rfl (fun _ => rfl) (fun _ => rfl) (by omega) (by omega) rfl d_M_init_17 ?_
  refine AW.aload_n X (pc := 20) 0 rfl rfl d_M_init_20 ?_
  refine AW.bipush X (pc := 21) (v := 20) (by decide) d_M_init_21 ?_
  refine AW.newI X (pc := 23) (t := 0) (n := 20) rfl rfl wa_int (by decide) (by decide) (by decide) ⟨show 251 + 1 + 1 < 1000000 by omega, hA0, (fun j => hz _ j (by omega)), (fun j => by rw [m_bu_row (by omega), m_bu_row (by omega)]; exact (fun j => hbz _ j (by omega)) j), (List.forall_mem_cons.mpr ⟨(Or.inl (show (250 : Nat) < 251 + 1 + 1 by omega)), (fun _ h => nomatch h)⟩), (List.forall_mem_cons.mpr ⟨(Or.inl (show (250 : Nat) < 251 + 1 + 1 by omega)), (fun _ h => nomatch h)⟩)⟩ (show (2 : Nat) + 1 ≤ 20 by omega) (show (60 : Nat) + 20 ≤ 1680 by omega) d_M_init_23 (fun q_23 => ?_)
  refine AW.putFS X (pc := 25) (k := 250) (k2 := 253) (ci := 5) (j := 6) (o := 3) (β2 := (m_bu (m_bu (m_bu β 250 1) 250 5) 250 6)) ft_M hnm (by omega) rfl rfl in_M ft_M_ok n_M (by decide) wf_M_17 rfl rfl rfl rfl (fun _ => rfl) (fun _ => rfl) (by omega) (by omega) rfl d_M_init_25 ?_
  refine AW.aload_n X (pc := 28) 0 rfl rfl d_M_init_28 ?_
  refine AW.bipush X (pc := 29) (v := 20) (by decide) d_M_init_29 ?_
  refine AW.newZ X (pc := 31) (t := 5) (n := 20) rfl rfl wa_boolean (by decide) (by decide) (by decide) ⟨show 251 + 1 + 1 + 1 < 1000000 by omega, hA0, (fun j => hz _ j (by omega)), (fun j => by rw [m_bu_row (by omega), m_bu_row (by omega), m_bu_row (by omega)]; exact (fun j => hbz _ j (by omega)) j), (List.forall_mem_cons.mpr ⟨(Or.inl (show (250 : Nat) < 251 + 1 + 1 + 1 by omega)), (fun _ h => nomatch h)⟩), (List.forall_mem_cons.mpr ⟨(Or.inl (show (250 : Nat) < 251 + 1 + 1 + 1 by omega)), (fun _ h => nomatch h)⟩)⟩ (show (3 : Nat) + 1 ≤ 20 by omega) (show (80 : Nat) + 20 ≤ 1680 by omega) d_M_init_31 (fun q_31 => ?_)
  refine AW.putFS X (pc := 33) (k := 250) (k2 := 254) (ci := 5) (j := 7) (o := 4) (β2 := (m_bu (m_bu (m_bu (m_bu β 250 1) 250 5) 250 6) 250 7)) ft_M hnm (by omega) rfl rfl in_M ft_M_ok n_M (by decide) wf_M_20 rfl rfl rfl rfl (fun _ => rfl) (fun _ => rfl) (by omega) (by omega) rfl d_M_init_33 ?_
  refine AW.aload_n X (pc := 36) 0 rfl rfl d_M_init_36 ?_
  refine AW.bipush X (pc := 37) (v := 20) (by decide) d_M_init_37 ?_
  refine AW.newI X (pc := 39) (t := 0) (n := 20) rfl rfl wa_int (by decide) (by decide) (by decide) ⟨show 251 + 1 + 1 + 1 + 1 < 1000000 by omega, hA0, (fun j => hz _ j (by omega)), (fun j => by rw [m_bu_row (by omega), m_bu_row (by omega), m_bu_row (by omega), m_bu_row (by omega)]; exact (fun j => hbz _ j (by omega)) j), (List.forall_mem_cons.mpr ⟨(Or.inl (show (250 : Nat) < 251 + 1 + 1 + 1 + 1 by omega)), (fun _ h => nomatch h)⟩), (List.forall_mem_cons.mpr ⟨(Or.inl (show (250 : Nat) < 251 + 1 + 1 + 1 + 1 by omega)), (fun _ h => nomatch h)⟩)⟩ (show (4 : Nat) + 1 ≤ 20 by omega) (show (100 : Nat) + 20 ≤ 1680 by omega) d_M_init_39 (fun q_39 => ?_)
  refine AW.putFS X (pc := 41) (k := 250) (k2 := 255) (ci := 5) (j := 8) (o := 5) (β2 := (m_bu (m_bu (m_bu (m_bu (m_bu β 250 1) 250 5) 250 6) 250 7) 250 8)) ft_M hnm (by omega) rfl rfl in_M ft_M_ok n_M (by decide) wf_M_24 rfl rfl rfl rfl (fun _ => rfl) (fun _ => rfl) (by omega) (by omega) rfl d_M_init_41 ?_
  refine AW.aload_n X (pc := 44) 0 rfl rfl d_M_init_44 ?_
  refine AW.bipush X (pc := 45) (v := 120) (by decide) d_M_init_45 ?_
  refine AW.newI X (pc := 47) (t := 0) (n := 120) rfl rfl wa_int (by decide) (by decide) (by decide) ⟨show 251 + 1 + 1 + 1 + 1 + 1 < 1000000 by omega, hA0, (fun j => hz _ j (by omega)), (fun j => by rw [m_bu_row (by omega), m_bu_row (by omega), m_bu_row (by omega), m_bu_row (by omega), m_bu_row (by omega)]; exact (fun j => hbz _ j (by omega)) j), (List.forall_mem_cons.mpr ⟨(Or.inl (show (250 : Nat) < 251 + 1 + 1 + 1 + 1 + 1 by omega)), (fun _ h => nomatch h)⟩), (List.forall_mem_cons.mpr ⟨(Or.inl (show (250 : Nat) < 251 + 1 + 1 + 1 + 1 + 1 by omega)), (fun _ h => nomatch h)⟩)⟩ (show (5 : Nat) + 1 ≤ 20 by omega) (show (120 : Nat) + 120 ≤ 1680 by omega) d_M_init_47 (fun q_47 => ?_)
  refine AW.putFS X (pc := 49) (k := 250) (k2 := 256) (ci := 5) (j := 9) (o := 6) (β2 := (m_bu (m_bu (m_bu (m_bu (m_bu (m_bu β 250 1) 250 5) 250 6) 250 7) 250 8) 250 9)) ft_M hnm (by omega) rfl rfl in_M ft_M_ok n_M (by decide) wf_M_27 rfl rfl rfl rfl (fun _ => rfl) (fun _ => rfl) (by omega) (by omega) rfl d_M_init_49 ?_
  refine AW.aload_n X (pc := 52) 0 rfl rfl d_M_init_52 ?_
  refine AW.bipush X (pc := 53) (v := 120) (by decide) d_M_init_53 ?_
  refine AW.newI X (pc := 55) (t := 0) (n := 120) rfl rfl wa_int (by decide) (by decide) (by decide) ⟨show 251 + 1 + 1 + 1 + 1 + 1 + 1 < 1000000 by omega, hA0, (fun j => hz _ j (by omega)), (fun j => by rw [m_bu_row (by omega), m_bu_row (by omega), m_bu_row (by omega), m_bu_row (by omega), m_bu_row (by omega), m_bu_row (by omega)]; exact (fun j => hbz _ j (by omega)) j), (List.forall_mem_cons.mpr ⟨(Or.inl (show (250 : Nat) < 251 + 1 + 1 + 1 + 1 + 1 + 1 by omega)), (fun _ h => nomatch h)⟩), (List.forall_mem_cons.mpr ⟨(Or.inl (show (250 : Nat) < 251 + 1 + 1 + 1 + 1 + 1 + 1 by omega)), (fun _ h => nomatch h)⟩)⟩ (show (6 : Nat) + 1 ≤ 20 by omega) (show (240 : Nat) + 120 ≤ 1680 by omega) d_M_init_55 (fun q_55 => ?_)
  refine AW.putFS X (pc := 57) (k := 250) (k2 := 257) (ci := 5) (j := 10) (o := 7) (β2 := (m_bu (m_bu (m_bu (m_bu (m_bu (m_bu (m_bu β 250 1) 250 5) 250 6) 250 7) 250 8) 250 9) 250 10)) ft_M hnm (by omega) rfl rfl in_M ft_M_ok n_M (by decide) wf_M_30 rfl rfl rfl rfl (fun _ => rfl) (fun _ => rfl) (by omega) (by omega) rfl d_M_init_57 ?_
  refine AW.aload_n X (pc := 60) 0 rfl rfl d_M_init_60 ?_
  refine AW.sipush X (pc := 61) (v := 240) (by decide) d_M_init_61 ?_
  refine AW.newI X (pc := 64) (t := 0) (n := 240) rfl rfl wa_int (by decide) (by decide) (by decide) ⟨show 251 + 1 + 1 + 1 + 1 + 1 + 1 + 1 < 1000000 by omega, hA0, (fun j => hz _ j (by omega)), (fun j => by rw [m_bu_row (by omega), m_bu_row (by omega), m_bu_row (by omega), m_bu_row (by omega), m_bu_row (by omega), m_bu_row (by omega), m_bu_row (by omega)]; exact (fun j => hbz _ j (by omega)) j), (List.forall_mem_cons.mpr ⟨(Or.inl (show (250 : Nat) < 251 + 1 + 1 + 1 + 1 + 1 + 1 + 1 by omega)), (fun _ h => nomatch h)⟩), (List.forall_mem_cons.mpr ⟨(Or.inl (show (250 : Nat) < 251 + 1 + 1 + 1 + 1 + 1 + 1 + 1 by omega)), (fun _ h => nomatch h)⟩)⟩ (show (7 : Nat) + 1 ≤ 20 by omega) (show (360 : Nat) + 240 ≤ 1680 by omega) d_M_init_64 (fun q_64 => ?_)
  refine AW.putFS X (pc := 66) (k := 250) (k2 := 258) (ci := 5) (j := 11) (o := 8) (β2 := (m_bu (m_bu (m_bu (m_bu (m_bu (m_bu (m_bu (m_bu β 250 1) 250 5) 250 6) 250 7) 250 8) 250 9) 250 10) 250 11)) ft_M hnm (by omega) rfl rfl in_M ft_M_ok n_M (by decide) wf_M_33 rfl rfl rfl rfl (fun _ => rfl) (fun _ => rfl) (by omega) (by omega) rfl d_M_init_66 ?_
  refine AW.aload_n X (pc := 69) 0 rfl rfl d_M_init_69 ?_
  refine AW.sipush X (pc := 70) (v := 240) (by decide) d_M_init_70 ?_
  refine AW.newI X (pc := 73) (t := 0) (n := 240) rfl rfl wa_int (by decide) (by decide) (by decide) ⟨show 251 + 1 + 1 + 1 + 1 + 1 + 1 + 1 + 1 < 1000000 by omega, hA0, (fun j => hz _ j (by omega)), (fun j => by rw [m_bu_row (by omega), m_bu_row (by omega), m_bu_row (by omega), m_bu_row (by omega), m_bu_row (by omega), m_bu_row (by omega), m_bu_row (by omega), m_bu_row (by omega)]; exact (fun j => hbz _ j (by omega)) j), (List.forall_mem_cons.mpr ⟨(Or.inl (show (250 : Nat) < 251 + 1 + 1 + 1 + 1 + 1 + 1 + 1 + 1 by omega)), (fun _ h => nomatch h)⟩), (List.forall_mem_cons.mpr ⟨(Or.inl (show (250 : Nat) < 251 + 1 + 1 + 1 + 1 + 1 + 1 + 1 + 1 by omega)), (fun _ h => nomatch h)⟩)⟩ (show (8 : Nat) + 1 ≤ 20 by omega) (show (600 : Nat) + 240 ≤ 1680 by omega) d_M_init_73 (fun q_73 => ?_)
  refine AW.putFS X (pc := 75) (k := 250) (k2 := 259) (ci := 5) (j := 12) (o := 9) (β2 := (m_bu (m_bu (m_bu (m_bu (m_bu (m_bu (m_bu (m_bu (m_bu β 250 1) 250 5) 250 6) 250 7) 250 8) 250 9) 250 10) 250 11) 250 12)) ft_M hnm (by omega) rfl rfl in_M ft_M_ok n_M (by decide) wf_M_36 rfl rfl rfl rfl (fun _ => rfl) (fun _ => rfl) (by omega) (by omega) rfl d_M_init_75 ?_
  refine AW.aload_n X (pc := 78) 0 rfl rfl d_M_init_78 ?_
  refine AW.bipush X (pc := 79) (v := 60) (by decide) d_M_init_79 ?_
  refine AW.newI X (pc := 81) (t := 0) (n := 60) rfl rfl wa_int (by decide) (by decide) (by decide) ⟨show 251 + 1 + 1 + 1 + 1 + 1 + 1 + 1 + 1 + 1 < 1000000 by omega, hA0, (fun j => hz _ j (by omega)), (fun j => by rw [m_bu_row (by omega), m_bu_row (by omega), m_bu_row (by omega), m_bu_row (by omega), m_bu_row (by omega), m_bu_row (by omega), m_bu_row (by omega), m_bu_row (by omega), m_bu_row (by omega)]; exact (fun j => hbz _ j (by omega)) j), (List.forall_mem_cons.mpr ⟨(Or.inl (show (250 : Nat) < 251 + 1 + 1 + 1 + 1 + 1 + 1 + 1 + 1 + 1 by omega)), (fun _ h => nomatch h)⟩), (List.forall_mem_cons.mpr ⟨(Or.inl (show (250 : Nat) < 251 + 1 + 1 + 1 + 1 + 1 + 1 + 1 + 1 + 1 by omega)), (fun _ h => nomatch h)⟩)⟩ (show (9 : Nat) + 1 ≤ 20 by omega) (show (840 : Nat) + 60 ≤ 1680 by omega) d_M_init_81 (fun q_81 => ?_)
  refine AW.putFS X (pc := 83) (k := 250) (k2 := 260) (ci := 5) (j := 13) (o := 10) (β2 := (m_bu (m_bu (m_bu (m_bu (m_bu (m_bu (m_bu (m_bu (m_bu (m_bu β 250 1) 250 5) 250 6) 250 7) 250 8) 250 9) 250 10) 250 11) 250 12) 250 13)) ft_M hnm (by omega) rfl rfl in_M ft_M_ok n_M (by decide) wf_M_39 rfl rfl rfl rfl (fun _ => rfl) (fun _ => rfl) (by omega) (by omega) rfl d_M_init_83 ?_
  refine AW.aload_n X (pc := 86) 0 rfl rfl d_M_init_86 ?_
  refine AW.sipush X (pc := 87) (v := 240) (by decide) d_M_init_87 ?_
  refine AW.newI X (pc := 90) (t := 0) (n := 240) rfl rfl wa_int (by decide) (by decide) (by decide) ⟨show 251 + 1 + 1 + 1 + 1 + 1 + 1 + 1 + 1 + 1 + 1 < 1000000 by omega, hA0, (fun j => hz _ j (by omega)), (fun j => by rw [m_bu_row (by omega), m_bu_row (by omega), m_bu_row (by omega), m_bu_row (by omega), m_bu_row (by omega), m_bu_row (by omega), m_bu_row (by omega), m_bu_row (by omega), m_bu_row (by omega), m_bu_row (by omega)]; exact (fun j => hbz _ j (by omega)) j), (List.forall_mem_cons.mpr ⟨(Or.inl (show (250 : Nat) < 251 + 1 + 1 + 1 + 1 + 1 + 1 + 1 + 1 + 1 + 1 by omega)), (fun _ h => nomatch h)⟩), (List.forall_mem_cons.mpr ⟨(Or.inl (show (250 : Nat) < 251 + 1 + 1 + 1 + 1 + 1 + 1 + 1 + 1 + 1 + 1 by omega)), (fun _ h => nomatch h)⟩)⟩ (show (10 : Nat) + 1 ≤ 20 by omega) (show (900 : Nat) + 240 ≤ 1680 by omega) d_M_init_90 (fun q_90 => ?_)
  refine AW.putFS X (pc := 92) (k := 250) (k2 := 261) (ci := 5) (j := 14) (o := 11) (β2 := (m_bu (m_bu (m_bu (m_bu (m_bu (m_bu (m_bu (m_bu (m_bu (m_bu (m_bu β 250 1) 250 5) 250 6) 250 7) 250 8) 250 9) 250 10) 250 11) 250 12) 250 13) 250 14)) ft_M hnm (by omega) rfl rfl in_M ft_M_ok n_M (by decide) wf_M_42 rfl rfl rfl rfl (fun _ => rfl) (fun _ => rfl) (by omega) (by omega) rfl d_M_init_92 ?_
  refine AW.aload_n X (pc := 95) 0 rfl rfl d_M_init_95 ?_
  refine AW.bipush X (pc := 96) (v := 60) (by decide) d_M_init_96 ?_
  refine AW.newI X (pc := 98) (t := 0) (n := 60) rfl rfl wa_int (by decide) (by decide) (by decide) ⟨show 251 + 1 + 1 + 1 + 1 + 1 + 1 + 1 + 1 + 1 + 1 + 1 < 1000000 by omega, hA0, (fun j => hz _ j (by omega)), (fun j => by rw [m_bu_row (by omega), m_bu_row (by omega), m_bu_row (by omega), m_bu_row (by omega), m_bu_row (by omega), m_bu_row (by omega), m_bu_row (by omega), m_bu_row (by omega), m_bu_row (by omega), m_bu_row (by omega), m_bu_row (by omega)]; exact (fun j => hbz _ j (by omega)) j), (List.forall_mem_cons.mpr ⟨(Or.inl (show (250 : Nat) < 251 + 1 + 1 + 1 + 1 + 1 + 1 + 1 + 1 + 1 + 1 + 1 by omega)), (fun _ h => nomatch h)⟩), (List.forall_mem_cons.mpr ⟨(Or.inl (show (250 : Nat) < 251 + 1 + 1 + 1 + 1 + 1 + 1 + 1 + 1 + 1 + 1 + 1 by omega)), (fun _ h => nomatch h)⟩)⟩ (show (11 : Nat) + 1 ≤ 20 by omega) (show (1140 : Nat) + 60 ≤ 1680 by omega) d_M_init_98 (fun q_98 => ?_)
  refine AW.putFS X (pc := 100) (k := 250) (k2 := 262) (ci := 5) (j := 15) (o := 12) (β2 := (m_bu (m_bu (m_bu (m_bu (m_bu (m_bu (m_bu (m_bu (m_bu (m_bu (m_bu (m_bu β 250 1) 250 5) 250 6) 250 7) 250 8) 250 9) 250 10) 250 11) 250 12) 250 13) 250 14) 250 15)) ft_M hnm (by omega) rfl rfl in_M ft_M_ok n_M (by decide) wf_M_45 rfl rfl rfl rfl (fun _ => rfl) (fun _ => rfl) (by omega) (by omega) rfl d_M_init_100 ?_
  refine AW.aload_n X (pc := 103) 0 rfl rfl d_M_init_103 ?_
  refine AW.bipush X (pc := 104) (v := 60) (by decide) d_M_init_104 ?_
  refine AW.newI X (pc := 106) (t := 0) (n := 60) rfl rfl wa_int (by decide) (by decide) (by decide) ⟨show 251 + 1 + 1 + 1 + 1 + 1 + 1 + 1 + 1 + 1 + 1 + 1 + 1 < 1000000 by omega, hA0, (fun j => hz _ j (by omega)), (fun j => by rw [m_bu_row (by omega), m_bu_row (by omega), m_bu_row (by omega), m_bu_row (by omega), m_bu_row (by omega), m_bu_row (by omega), m_bu_row (by omega), m_bu_row (by omega), m_bu_row (by omega), m_bu_row (by omega), m_bu_row (by omega), m_bu_row (by omega)]; exact (fun j => hbz _ j (by omega)) j), (List.forall_mem_cons.mpr ⟨(Or.inl (show (250 : Nat) < 251 + 1 + 1 + 1 + 1 + 1 + 1 + 1 + 1 + 1 + 1 + 1 + 1 by omega)), (fun _ h => nomatch h)⟩), (List.forall_mem_cons.mpr ⟨(Or.inl (show (250 : Nat) < 251 + 1 + 1 + 1 + 1 + 1 + 1 + 1 + 1 + 1 + 1 + 1 + 1 by omega)), (fun _ h => nomatch h)⟩)⟩ (show (12 : Nat) + 1 ≤ 20 by omega) (show (1200 : Nat) + 60 ≤ 1680 by omega) d_M_init_106 (fun q_106 => ?_)
  refine AW.putFS X (pc := 108) (k := 250) (k2 := 263) (ci := 5) (j := 16) (o := 13) (β2 := (m_bu (m_bu (m_bu (m_bu (m_bu (m_bu (m_bu (m_bu (m_bu (m_bu (m_bu (m_bu (m_bu β 250 1) 250 5) 250 6) 250 7) 250 8) 250 9) 250 10) 250 11) 250 12) 250 13) 250 14) 250 15) 250 16)) ft_M hnm (by omega) rfl rfl in_M ft_M_ok n_M (by decide) wf_M_48 rfl rfl rfl rfl (fun _ => rfl) (fun _ => rfl) (by omega) (by omega) rfl d_M_init_108 ?_
  refine AW.aload_n X (pc := 111) 0 rfl rfl d_M_init_111 ?_
  refine AW.bipush X (pc := 112) (v := 60) (by decide) d_M_init_112 ?_
  refine AW.newI X (pc := 114) (t := 0) (n := 60) rfl rfl wa_int (by decide) (by decide) (by decide) ⟨show 251 + 1 + 1 + 1 + 1 + 1 + 1 + 1 + 1 + 1 + 1 + 1 + 1 + 1 < 1000000 by omega, hA0, (fun j => hz _ j (by omega)), (fun j => by rw [m_bu_row (by omega), m_bu_row (by omega), m_bu_row (by omega), m_bu_row (by omega), m_bu_row (by omega), m_bu_row (by omega), m_bu_row (by omega), m_bu_row (by omega), m_bu_row (by omega), m_bu_row (by omega), m_bu_row (by omega), m_bu_row (by omega), m_bu_row (by omega)]; exact (fun j => hbz _ j (by omega)) j), (List.forall_mem_cons.mpr ⟨(Or.inl (show (250 : Nat) < 251 + 1 + 1 + 1 + 1 + 1 + 1 + 1 + 1 + 1 + 1 + 1 + 1 + 1 by omega)), (fun _ h => nomatch h)⟩), (List.forall_mem_cons.mpr ⟨(Or.inl (show (250 : Nat) < 251 + 1 + 1 + 1 + 1 + 1 + 1 + 1 + 1 + 1 + 1 + 1 + 1 + 1 by omega)), (fun _ h => nomatch h)⟩)⟩ (show (13 : Nat) + 1 ≤ 20 by omega) (show (1260 : Nat) + 60 ≤ 1680 by omega) d_M_init_114 (fun q_114 => ?_)
  refine AW.putFS X (pc := 116) (k := 250) (k2 := 264) (ci := 5) (j := 17) (o := 14) (β2 := (m_bu (m_bu (m_bu (m_bu (m_bu (m_bu (m_bu (m_bu (m_bu (m_bu (m_bu (m_bu (m_bu (m_bu β 250 1) 250 5) 250 6) 250 7) 250 8) 250 9) 250 10) 250 11) 250 12) 250 13) 250 14) 250 15) 250 16) 250 17)) ft_M hnm (by omega) rfl rfl in_M ft_M_ok n_M (by decide) wf_M_51 rfl rfl rfl rfl (fun _ => rfl) (fun _ => rfl) (by omega) (by omega) rfl d_M_init_116 ?_
  refine AW.aload_n X (pc := 119) 0 rfl rfl d_M_init_119 ?_
  refine AW.bipush X (pc := 120) (v := 60) (by decide) d_M_init_120 ?_
  refine AW.newI X (pc := 122) (t := 0) (n := 60) rfl rfl wa_int (by decide) (by decide) (by decide) ⟨show 251 + 1 + 1 + 1 + 1 + 1 + 1 + 1 + 1 + 1 + 1 + 1 + 1 + 1 + 1 < 1000000 by omega, hA0, (fun j => hz _ j (by omega)), (fun j => by rw [m_bu_row (by omega), m_bu_row (by omega), m_bu_row (by omega), m_bu_row (by omega), m_bu_row (by omega), m_bu_row (by omega), m_bu_row (by omega), m_bu_row (by omega), m_bu_row (by omega), m_bu_row (by omega), m_bu_row (by omega), m_bu_row (by omega), m_bu_row (by omega), m_bu_row (by omega)]; exact (fun j => hbz _ j (by omega)) j), (List.forall_mem_cons.mpr ⟨(Or.inl (show (250 : Nat) < 251 + 1 + 1 + 1 + 1 + 1 + 1 + 1 + 1 + 1 + 1 + 1 + 1 + 1 + 1 by omega)), (fun _ h => nomatch h)⟩), (List.forall_mem_cons.mpr ⟨(Or.inl (show (250 : Nat) < 251 + 1 + 1 + 1 + 1 + 1 + 1 + 1 + 1 + 1 + 1 + 1 + 1 + 1 + 1 by omega)), (fun _ h => nomatch h)⟩)⟩ (show (14 : Nat) + 1 ≤ 20 by omega) (show (1320 : Nat) + 60 ≤ 1680 by omega) d_M_init_122 (fun q_122 => ?_)
  refine AW.putFS X (pc := 124) (k := 250) (k2 := 265) (ci := 5) (j := 18) (o := 15) (β2 := (m_bu (m_bu (m_bu (m_bu (m_bu (m_bu (m_bu (m_bu (m_bu (m_bu (m_bu (m_bu (m_bu (m_bu (m_bu β 250 1) 250 5) 250 6) 250 7) 250 8) 250 9) 250 10) 250 11) 250 12) 250 13) 250 14) 250 15) 250 16) 250 17) 250 18)) ft_M hnm (by omega) rfl rfl in_M ft_M_ok n_M (by decide) wf_M_54 rfl rfl rfl rfl (fun _ => rfl) (fun _ => rfl) (by omega) (by omega) rfl d_M_init_124 ?_
  refine AW.aload_n X (pc := 127) 0 rfl rfl d_M_init_127 ?_
  refine AW.bipush X (pc := 128) (v := 60) (by decide) d_M_init_128 ?_
  refine AW.newI X (pc := 130) (t := 0) (n := 60) rfl rfl wa_int (by decide) (by decide) (by decide) ⟨show 251 + 1 + 1 + 1 + 1 + 1 + 1 + 1 + 1 + 1 + 1 + 1 + 1 + 1 + 1 + 1 < 1000000 by omega, hA0, (fun j => hz _ j (by omega)), (fun j => by rw [m_bu_row (by omega), m_bu_row (by omega), m_bu_row (by omega), m_bu_row (by omega), m_bu_row (by omega), m_bu_row (by omega), m_bu_row (by omega), m_bu_row (by omega), m_bu_row (by omega), m_bu_row (by omega), m_bu_row (by omega), m_bu_row (by omega), m_bu_row (by omega), m_bu_row (by omega), m_bu_row (by omega)]; exact (fun j => hbz _ j (by omega)) j), (List.forall_mem_cons.mpr ⟨(Or.inl (show (250 : Nat) < 251 + 1 + 1 + 1 + 1 + 1 + 1 + 1 + 1 + 1 + 1 + 1 + 1 + 1 + 1 + 1 by omega)), (fun _ h => nomatch h)⟩), (List.forall_mem_cons.mpr ⟨(Or.inl (show (250 : Nat) < 251 + 1 + 1 + 1 + 1 + 1 + 1 + 1 + 1 + 1 + 1 + 1 + 1 + 1 + 1 + 1 by omega)), (fun _ h => nomatch h)⟩)⟩ (show (15 : Nat) + 1 ≤ 20 by omega) (show (1380 : Nat) + 60 ≤ 1680 by omega) d_M_init_130 (fun q_130 => ?_)
  refine AW.putFS X (pc := 132) (k := 250) (k2 := 266) (ci := 5) (j := 19) (o := 16) (β2 := (m_bu (m_bu (m_bu (m_bu (m_bu (m_bu (m_bu (m_bu (m_bu (m_bu (m_bu (m_bu (m_bu (m_bu (m_bu (m_bu β 250 1) 250 5) 250 6) 250 7) 250 8) 250 9) 250 10) 250 11) 250 12) 250 13) 250 14) 250 15) 250 16) 250 17) 250 18) 250 19)) ft_M hnm (by omega) rfl rfl in_M ft_M_ok n_M (by decide) wf_M_57 rfl rfl rfl rfl (fun _ => rfl) (fun _ => rfl) (by omega) (by omega) rfl d_M_init_132 ?_
  refine AW.aload_n X (pc := 135) 0 rfl rfl d_M_init_135 ?_
  refine AW.bipush X (pc := 136) (v := 60) (by decide) d_M_init_136 ?_
  refine AW.newI X (pc := 138) (t := 0) (n := 60) rfl rfl wa_int (by decide) (by decide) (by decide) ⟨show 251 + 1 + 1 + 1 + 1 + 1 + 1 + 1 + 1 + 1 + 1 + 1 + 1 + 1 + 1 + 1 + 1 < 1000000 by omega, hA0, (fun j => hz _ j (by omega)), (fun j => by rw [m_bu_row (by omega), m_bu_row (by omega), m_bu_row (by omega), m_bu_row (by omega), m_bu_row (by omega), m_bu_row (by omega), m_bu_row (by omega), m_bu_row (by omega), m_bu_row (by omega), m_bu_row (by omega), m_bu_row (by omega), m_bu_row (by omega), m_bu_row (by omega), m_bu_row (by omega), m_bu_row (by omega), m_bu_row (by omega)]; exact (fun j => hbz _ j (by omega)) j), (List.forall_mem_cons.mpr ⟨(Or.inl (show (250 : Nat) < 251 + 1 + 1 + 1 + 1 + 1 + 1 + 1 + 1 + 1 + 1 + 1 + 1 + 1 + 1 + 1 + 1 by omega)), (fun _ h => nomatch h)⟩), (List.forall_mem_cons.mpr ⟨(Or.inl (show (250 : Nat) < 251 + 1 + 1 + 1 + 1 + 1 + 1 + 1 + 1 + 1 + 1 + 1 + 1 + 1 + 1 + 1 + 1 by omega)), (fun _ h => nomatch h)⟩)⟩ (show (16 : Nat) + 1 ≤ 20 by omega) (show (1440 : Nat) + 60 ≤ 1680 by omega) d_M_init_138 (fun q_138 => ?_)
  refine AW.putFS X (pc := 140) (k := 250) (k2 := 267) (ci := 5) (j := 21) (o := 17) (β2 := (m_bu (m_bu (m_bu (m_bu (m_bu (m_bu (m_bu (m_bu (m_bu (m_bu (m_bu (m_bu (m_bu (m_bu (m_bu (m_bu (m_bu β 250 1) 250 5) 250 6) 250 7) 250 8) 250 9) 250 10) 250 11) 250 12) 250 13) 250 14) 250 15) 250 16) 250 17) 250 18) 250 19) 250 21)) ft_M hnm (by omega) rfl rfl in_M ft_M_ok n_M (by decide) wf_M_60 rfl rfl rfl rfl (fun _ => rfl) (fun _ => rfl) (by omega) (by omega) rfl d_M_init_140 ?_
  refine AW.aload_n X (pc := 143) 0 rfl rfl d_M_init_143 ?_
  refine AW.bipush X (pc := 144) (v := 60) (by decide) d_M_init_144 ?_
  refine AW.newI X (pc := 146) (t := 0) (n := 60) rfl rfl wa_int (by decide) (by decide) (by decide) ⟨show 251 + 1 + 1 + 1 + 1 + 1 + 1 + 1 + 1 + 1 + 1 + 1 + 1 + 1 + 1 + 1 + 1 + 1 < 1000000 by omega, hA0, (fun j => hz _ j (by omega)), (fun j => by rw [m_bu_row (by omega), m_bu_row (by omega), m_bu_row (by omega), m_bu_row (by omega), m_bu_row (by omega), m_bu_row (by omega), m_bu_row (by omega), m_bu_row (by omega), m_bu_row (by omega), m_bu_row (by omega), m_bu_row (by omega), m_bu_row (by omega), m_bu_row (by omega), m_bu_row (by omega), m_bu_row (by omega), m_bu_row (by omega), m_bu_row (by omega)]; exact (fun j => hbz _ j (by omega)) j), (List.forall_mem_cons.mpr ⟨(Or.inl (show (250 : Nat) < 251 + 1 + 1 + 1 + 1 + 1 + 1 + 1 + 1 + 1 + 1 + 1 + 1 + 1 + 1 + 1 + 1 + 1 by omega)), (fun _ h => nomatch h)⟩), (List.forall_mem_cons.mpr ⟨(Or.inl (show (250 : Nat) < 251 + 1 + 1 + 1 + 1 + 1 + 1 + 1 + 1 + 1 + 1 + 1 + 1 + 1 + 1 + 1 + 1 + 1 by omega)), (fun _ h => nomatch h)⟩)⟩ (show (17 : Nat) + 1 ≤ 20 by omega) (show (1500 : Nat) + 60 ≤ 1680 by omega) d_M_init_146 (fun q_146 => ?_)
  refine AW.putFS X (pc := 148) (k := 250) (k2 := 268) (ci := 5) (j := 23) (o := 18) (β2 := (m_bu (m_bu (m_bu (m_bu (m_bu (m_bu (m_bu (m_bu (m_bu (m_bu (m_bu (m_bu (m_bu (m_bu (m_bu (m_bu (m_bu (m_bu β 250 1) 250 5) 250 6) 250 7) 250 8) 250 9) 250 10) 250 11) 250 12) 250 13) 250 14) 250 15) 250 16) 250 17) 250 18) 250 19) 250 21) 250 23)) ft_M hnm (by omega) rfl rfl in_M ft_M_ok n_M (by decide) wf_M_63 rfl rfl rfl rfl (fun _ => rfl) (fun _ => rfl) (by omega) (by omega) rfl d_M_init_148 ?_
  refine AW.aload_n X (pc := 151) 0 rfl rfl d_M_init_151 ?_
  refine AW.bipush X (pc := 152) (v := 60) (by decide) d_M_init_152 ?_
  refine AW.newI X (pc := 154) (t := 0) (n := 60) rfl rfl wa_int (by decide) (by decide) (by decide) ⟨show 251 + 1 + 1 + 1 + 1 + 1 + 1 + 1 + 1 + 1 + 1 + 1 + 1 + 1 + 1 + 1 + 1 + 1 + 1 < 1000000 by omega, hA0, (fun j => hz _ j (by omega)), (fun j => by rw [m_bu_row (by omega), m_bu_row (by omega), m_bu_row (by omega), m_bu_row (by omega), m_bu_row (by omega), m_bu_row (by omega), m_bu_row (by omega), m_bu_row (by omega), m_bu_row (by omega), m_bu_row (by omega), m_bu_row (by omega), m_bu_row (by omega), m_bu_row (by omega), m_bu_row (by omega), m_bu_row (by omega), m_bu_row (by omega), m_bu_row (by omega), m_bu_row (by omega)]; exact (fun j => hbz _ j (by omega)) j), (List.forall_mem_cons.mpr ⟨(Or.inl (show (250 : Nat) < 251 + 1 + 1 + 1 + 1 + 1 + 1 + 1 + 1 + 1 + 1 + 1 + 1 + 1 + 1 + 1 + 1 + 1 + 1 by omega)), (fun _ h => nomatch h)⟩), (List.forall_mem_cons.mpr ⟨(Or.inl (show (250 : Nat) < 251 + 1 + 1 + 1 + 1 + 1 + 1 + 1 + 1 + 1 + 1 + 1 + 1 + 1 + 1 + 1 + 1 + 1 + 1 by omega)), (fun _ h => nomatch h)⟩)⟩ (show (18 : Nat) + 1 ≤ 20 by omega) (show (1560 : Nat) + 60 ≤ 1680 by omega) d_M_init_154 (fun q_154 => ?_)
  refine AW.putFS X (pc := 156) (k := 250) (k2 := 269) (ci := 5) (j := 24) (o := 19) (β2 := (m_bu (m_bu (m_bu (m_bu (m_bu (m_bu (m_bu (m_bu (m_bu (m_bu (m_bu (m_bu (m_bu (m_bu (m_bu (m_bu (m_bu (m_bu (m_bu β 250 1) 250 5) 250 6) 250 7) 250 8) 250 9) 250 10) 250 11) 250 12) 250 13) 250 14) 250 15) 250 16) 250 17) 250 18) 250 19) 250 21) 250 23) 250 24)) ft_M hnm (by omega) rfl rfl in_M ft_M_ok n_M (by decide) wf_M_66 rfl rfl rfl rfl (fun _ => rfl) (fun _ => rfl) (by omega) (by omega) rfl d_M_init_156 ?_
  refine AW.aload_n X (pc := 159) 0 rfl rfl d_M_init_159 ?_
  refine AW.bipush X (pc := 160) (v := 60) (by decide) d_M_init_160 ?_
  refine AW.newI X (pc := 162) (t := 0) (n := 60) rfl rfl wa_int (by decide) (by decide) (by decide) ⟨show 251 + 1 + 1 + 1 + 1 + 1 + 1 + 1 + 1 + 1 + 1 + 1 + 1 + 1 + 1 + 1 + 1 + 1 + 1 + 1 < 1000000 by omega, hA0, (fun j => hz _ j (by omega)), (fun j => by rw [m_bu_row (by omega), m_bu_row (by omega), m_bu_row (by omega), m_bu_row (by omega), m_bu_row (by omega), m_bu_row (by omega), m_bu_row (by omega), m_bu_row (by omega), m_bu_row (by omega), m_bu_row (by omega), m_bu_row (by omega), m_bu_row (by omega), m_bu_row (by omega), m_bu_row (by omega), m_bu_row (by omega), m_bu_row (by omega), m_bu_row (by omega), m_bu_row (by omega), m_bu_row (by omega)]; exact (fun j => hbz _ j (by omega)) j), (List.forall_mem_cons.mpr ⟨(Or.inl (show (250 : Nat) < 251 + 1 + 1 + 1 + 1 + 1 + 1 + 1 + 1 + 1 + 1 + 1 + 1 + 1 + 1 + 1 + 1 + 1 + 1 + 1 by omega)), (fun _ h => nomatch h)⟩), (List.forall_mem_cons.mpr ⟨(Or.inl (show (250 : Nat) < 251 + 1 + 1 + 1 + 1 + 1 + 1 + 1 + 1 + 1 + 1 + 1 + 1 + 1 + 1 + 1 + 1 + 1 + 1 + 1 by omega)), (fun _ h => nomatch h)⟩)⟩ (show (19 : Nat) + 1 ≤ 20 by omega) (show (1620 : Nat) + 60 ≤ 1680 by omega) d_M_init_162 (fun q_162 => ?_)
  refine AW.putFS X (pc := 164) (k := 250) (k2 := 270) (ci := 5) (j := 25) (o := 20) (β2 := (m_bu (m_bu (m_bu (m_bu (m_bu (m_bu (m_bu (m_bu (m_bu (m_bu (m_bu (m_bu (m_bu (m_bu (m_bu (m_bu (m_bu (m_bu (m_bu (m_bu β 250 1) 250 5) 250 6) 250 7) 250 8) 250 9) 250 10) 250 11) 250 12) 250 13) 250 14) 250 15) 250 16) 250 17) 250 18) 250 19) 250 21) 250 23) 250 24) 250 25)) ft_M hnm (by omega) rfl rfl in_M ft_M_ok n_M (by decide) wf_M_69 rfl rfl rfl rfl (fun _ => rfl) (fun _ => rfl) (by omega) (by omega) rfl d_M_init_164 ?_
  refine AW.iconst X (pc := 167) (v := 0) (by decide) d_M_init_167 ?_
  refine AW.istore_n X (pc := 168) (lv2 := [(1, .int 0), (0, .ref 250)]) rfl d_M_init_168 (by decide) rfl ?_
  obtain ⟨βM, hβM⟩ : ∃ b, b = (m_bu (m_bu (m_bu (m_bu (m_bu (m_bu (m_bu (m_bu (m_bu (m_bu (m_bu (m_bu (m_bu (m_bu (m_bu (m_bu (m_bu (m_bu (m_bu (m_bu β 250 1) 250 5) 250 6) 250 7) 250 8) 250 9) 250 10) 250 11) 250 12) 250 13) 250 14) 250 15) 250 16) 250 17) 250 18) 250 19) 250 21) 250 23) 250 24) 250 25) := ⟨_, rfl⟩
  rw [← hβM]
  have hfl : ∀ j, j ∈ [25, 24, 23, 21, 19, 18, 17, 16, 15, 14, 13, 12, 11, 10, 9, 8, 7, 6, 5, 1] → βM 250 j = true := fun j hj => by rw [hβM]; exact mbs_in hj
  have key2 : ∀ (n j : Nat) (x : Int32), 60 - j < n → j ≤ 60 → x = nI j → AW G (rmA 1 20 1680) 2 (20, 1680, (va_up (va_up (va_up (va_up (va_up (va_up (va_up (va_up (va_up (va_up (va_up (va_up (va_up (va_up (va_up (va_up (va_up (va_up (va_up (va_up ad (251) q_7) (251 + 1) q_15) (251 + 1 + 1) q_23) (251 + 1 + 1 + 1) q_31) (251 + 1 + 1 + 1 + 1) q_39) (251 + 1 + 1 + 1 + 1 + 1) q_47) (251 + 1 + 1 + 1 + 1 + 1 + 1) q_55) (251 + 1 + 1 + 1 + 1 + 1 + 1 + 1) q_64) (251 + 1 + 1 + 1 + 1 + 1 + 1 + 1 + 1) q_73) (251 + 1 + 1 + 1 + 1 + 1 + 1 + 1 + 1 + 1) q_81) (251 + 1 + 1 + 1 + 1 + 1 + 1 + 1 + 1 + 1 + 1) q_90) (251 + 1 + 1 + 1 + 1 + 1 + 1 + 1 + 1 + 1 + 1 + 1) q_98) (251 + 1 + 1 + 1 + 1 + 1 + 1 + 1 + 1 + 1 + 1 + 1 + 1) q_106) (251 + 1 + 1 + 1 + 1 + 1 + 1 + 1 + 1 + 1 + 1 + 1 + 1 + 1) q_114) (251 + 1 + 1 + 1 + 1 + 1 + 1 + 1 + 1 + 1 + 1 + 1 + 1 + 1 + 1) q_122) (251 + 1 + 1 + 1 + 1 + 1 + 1 + 1 + 1 + 1 + 1 + 1 + 1 + 1 + 1 + 1) q_130) (251 + 1 + 1 + 1 + 1 + 1 + 1 + 1 + 1 + 1 + 1 + 1 + 1 + 1 + 1 + 1 + 1) q_138) (251 + 1 + 1 + 1 + 1 + 1 + 1 + 1 + 1 + 1 + 1 + 1 + 1 + 1 + 1 + 1 + 1 + 1) q_146) (251 + 1 + 1 + 1 + 1 + 1 + 1 + 1 + 1 + 1 + 1 + 1 + 1 + 1 + 1 + 1 + 1 + 1 + 1) q_154) (251 + 1 + 1 + 1 + 1 + 1 + 1 + 1 + 1 + 1 + 1 + 1 + 1 + 1 + 1 + 1 + 1 + 1 + 1 + 1) q_162), 251 + 1 + 1 + 1 + 1 + 1 + 1 + 1 + 1 + 1 + 1 + 1 + 1 + 1 + 1 + 1 + 1 + 1 + 1 + 1 + 1, βM) 199 [(1, .int x), (0, .ref 250)] [] (fillM (fillM (fillM (fillM (fillM μ 258 240 (-1)) 261 240 (-2)) 262 j (-1)) 265 j (-1)) 266 j (-1)) := by
    intro n
    induction n with
    | zero =>
      intro j x hlt
      exact absurd hlt (Nat.not_lt_zero _)
    | succ n ih =>
      intro j x hlt hj ex
      subst ex
      refine AW.iload_n X (pc := 199) 0 rfl rfl d_M_init_199 ?_
      refine AW.bipush X (pc := 200) (v := 60) (by decide) d_M_init_200 ?_
      refine AW.icmp_ge X (pc := 202) 232 d_M_init_202 (by decide) (fun c_202 => ?_) (fun c_202 => ?_)
      · rw [i_le (show (60 : Int32).toInt = 60 by decide) (nI_toInt (show j < 2 ^ 31 by omega))] at c_202
        obtain rfl : j = 60 := by omega
        exact hret 232 _ _ _ _ _ _ _ d_M_init_232 (Nat.le_of_ble_eq_true rfl) (Nat.le_of_ble_eq_true rfl) (fun k hk => by rw [va_up_ne _ _ (by omega), va_up_ne _ _ (by omega), va_up_ne _ _ (by omega), va_up_ne _ _ (by omega), va_up_ne _ _ (by omega), va_up_ne _ _ (by omega), va_up_ne _ _ (by omega), va_up_ne _ _ (by omega), va_up_ne _ _ (by omega), va_up_ne _ _ (by omega), va_up_ne _ _ (by omega), va_up_ne _ _ (by omega), va_up_ne _ _ (by omega), va_up_ne _ _ (by omega), va_up_ne _ _ (by omega), va_up_ne _ _ (by omega), va_up_ne _ _ (by omega), va_up_ne _ _ (by omega), va_up_ne _ _ (by omega), va_up_ne _ _ (by omega)]) ⟨rfl, rfl, rfl, hβM⟩
      · rw [i_le (show (60 : Int32).toInt = 60 by decide) (nI_toInt (show j < 2 ^ 31 by omega))] at c_202
        refine AW.aload_n X (pc := 205) 1 rfl rfl d_M_init_205 ?_
        refine AW.get X (pc := 206) (k := 250) (ci := 5) (j := 15) (v := .ref 262) (by omega) rfl rfl in_M (by decide) wf_M_45 rfl (by rw [show βM 250 15 = true from (hfl 15 (by decide))]; rfl) d_M_init_206 ?_
        refine AW.iload_n X (pc := 209) 0 rfl rfl d_M_init_209 ?_
        refine AW.iconst X (pc := 210) (v := -1) (by decide) d_M_init_210 ?_
        refine AW.iastN X (pc := 211) (k := 262) (t := 0) (n := 60) (j := j) (x := -1) (by omega) rfl rfl (by omega) (by decide) d_M_init_211 ?_
        refine AW.aload_n X (pc := 212) 1 rfl rfl d_M_init_212 ?_
        refine AW.get X (pc := 213) (k := 250) (ci := 5) (j := 18) (v := .ref 265) (by omega) rfl rfl in_M (by decide) wf_M_54 rfl (by rw [show βM 250 18 = true from (hfl 18 (by decide))]; rfl) d_M_init_213 ?_
        refine AW.iload_n X (pc := 216) 0 rfl rfl d_M_init_216 ?_
        refine AW.iconst X (pc := 217) (v := -1) (by decide) d_M_init_217 ?_
        refine AW.iastN X (pc := 218) (k := 265) (t := 0) (n := 60) (j := j) (x := -1) (by omega) rfl rfl (by omega) (by decide) d_M_init_218 ?_
        refine AW.aload_n X (pc := 219) 1 rfl rfl d_M_init_219 ?_
        refine AW.get X (pc := 220) (k := 250) (ci := 5) (j := 19) (v := .ref 266) (by omega) rfl rfl in_M (by decide) wf_M_57 rfl (by rw [show βM 250 19 = true from (hfl 19 (by decide))]; rfl) d_M_init_220 ?_
        refine AW.iload_n X (pc := 223) 0 rfl rfl d_M_init_223 ?_
        refine AW.iconst X (pc := 224) (v := -1) (by decide) d_M_init_224 ?_
        refine AW.iastN X (pc := 225) (k := 266) (t := 0) (n := 60) (j := j) (x := -1) (by omega) rfl rfl (by omega) (by decide) d_M_init_225 ?_
        refine AW.iinc X (pc := 226) (v := nI (j + 1)) (lv2 := [(1, .int (nI (j + 1))), (0, .ref 250)]) 0 rfl (nI_1 _) d_M_init_226 (by decide) rfl ?_
        refine AW.goto X (pc := 229) 199 d_M_init_229 (by decide) ?_
        rw [fill_up3 (by decide) (by decide) (by decide)]
        exact ih (j + 1) _ (by omega) (by omega) rfl
  have key1 : ∀ (n j : Nat) (x : Int32), 240 - j < n → j ≤ 240 → x = nI j → AW G (rmA 1 20 1680) 2 (20, 1680, (va_up (va_up (va_up (va_up (va_up (va_up (va_up (va_up (va_up (va_up (va_up (va_up (va_up (va_up (va_up (va_up (va_up (va_up (va_up (va_up ad (251) q_7) (251 + 1) q_15) (251 + 1 + 1) q_23) (251 + 1 + 1 + 1) q_31) (251 + 1 + 1 + 1 + 1) q_39) (251 + 1 + 1 + 1 + 1 + 1) q_47) (251 + 1 + 1 + 1 + 1 + 1 + 1) q_55) (251 + 1 + 1 + 1 + 1 + 1 + 1 + 1) q_64) (251 + 1 + 1 + 1 + 1 + 1 + 1 + 1 + 1) q_73) (251 + 1 + 1 + 1 + 1 + 1 + 1 + 1 + 1 + 1) q_81) (251 + 1 + 1 + 1 + 1 + 1 + 1 + 1 + 1 + 1 + 1) q_90) (251 + 1 + 1 + 1 + 1 + 1 + 1 + 1 + 1 + 1 + 1 + 1) q_98) (251 + 1 + 1 + 1 + 1 + 1 + 1 + 1 + 1 + 1 + 1 + 1 + 1) q_106) (251 + 1 + 1 + 1 + 1 + 1 + 1 + 1 + 1 + 1 + 1 + 1 + 1 + 1) q_114) (251 + 1 + 1 + 1 + 1 + 1 + 1 + 1 + 1 + 1 + 1 + 1 + 1 + 1 + 1) q_122) (251 + 1 + 1 + 1 + 1 + 1 + 1 + 1 + 1 + 1 + 1 + 1 + 1 + 1 + 1 + 1) q_130) (251 + 1 + 1 + 1 + 1 + 1 + 1 + 1 + 1 + 1 + 1 + 1 + 1 + 1 + 1 + 1 + 1) q_138) (251 + 1 + 1 + 1 + 1 + 1 + 1 + 1 + 1 + 1 + 1 + 1 + 1 + 1 + 1 + 1 + 1 + 1) q_146) (251 + 1 + 1 + 1 + 1 + 1 + 1 + 1 + 1 + 1 + 1 + 1 + 1 + 1 + 1 + 1 + 1 + 1 + 1) q_154) (251 + 1 + 1 + 1 + 1 + 1 + 1 + 1 + 1 + 1 + 1 + 1 + 1 + 1 + 1 + 1 + 1 + 1 + 1 + 1) q_162), 251 + 1 + 1 + 1 + 1 + 1 + 1 + 1 + 1 + 1 + 1 + 1 + 1 + 1 + 1 + 1 + 1 + 1 + 1 + 1 + 1, βM) 169 [(1, .int x), (0, .ref 250)] [] (fillM (fillM μ 258 j (-1)) 261 j (-2)) := by
    intro n
    induction n with
    | zero =>
      intro j x hlt
      exact absurd hlt (Nat.not_lt_zero _)
    | succ n ih =>
      intro j x hlt hj ex
      subst ex
      refine AW.iload_n X (pc := 169) 0 rfl rfl d_M_init_169 ?_
      refine AW.sipush X (pc := 170) (v := 240) (by decide) d_M_init_170 ?_
      refine AW.icmp_ge X (pc := 173) 197 d_M_init_173 (by decide) (fun c_173 => ?_) (fun c_173 => ?_)
      · rw [i_le (show (240 : Int32).toInt = 240 by decide) (nI_toInt (show j < 2 ^ 31 by omega))] at c_173
        obtain rfl : j = 240 := by omega
        refine AW.iconst X (pc := 197) (v := 0) (by decide) d_M_init_197 ?_
        refine AW.istore_n X (pc := 198) (lv2 := [(1, .int 0), (0, .ref 250)]) rfl d_M_init_198 (by decide) rfl ?_
        have q := key2 61 0 0 (by omega) (by omega) nI_0.symm
        rw [fill_0, fill_0, fill_0] at q
        exact q
      · rw [i_le (show (240 : Int32).toInt = 240 by decide) (nI_toInt (show j < 2 ^ 31 by omega))] at c_173
        refine AW.aload_n X (pc := 176) 1 rfl rfl d_M_init_176 ?_
        refine AW.get X (pc := 177) (k := 250) (ci := 5) (j := 11) (v := .ref 258) (by omega) rfl rfl in_M (by decide) wf_M_33 rfl (by rw [show βM 250 11 = true from (hfl 11 (by decide))]; rfl) d_M_init_177 ?_
        refine AW.iload_n X (pc := 180) 0 rfl rfl d_M_init_180 ?_
        refine AW.iconst X (pc := 181) (v := -1) (by decide) d_M_init_181 ?_
        refine AW.iastN X (pc := 182) (k := 258) (t := 0) (n := 240) (j := j) (x := -1) (by omega) rfl rfl (by omega) (by decide) d_M_init_182 ?_
        refine AW.aload_n X (pc := 183) 1 rfl rfl d_M_init_183 ?_
        refine AW.get X (pc := 184) (k := 250) (ci := 5) (j := 14) (v := .ref 261) (by omega) rfl rfl in_M (by decide) wf_M_42 rfl (by rw [show βM 250 14 = true from (hfl 14 (by decide))]; rfl) d_M_init_184 ?_
        refine AW.iload_n X (pc := 187) 0 rfl rfl d_M_init_187 ?_
        refine AW.bipush X (pc := 188) (v := -2) (by decide) d_M_init_188 ?_
        refine AW.iastN X (pc := 190) (k := 261) (t := 0) (n := 240) (j := j) (x := -2) (by omega) rfl rfl (by omega) (by decide) d_M_init_190 ?_
        refine AW.iinc X (pc := 191) (v := nI (j + 1)) (lv2 := [(1, .int (nI (j + 1))), (0, .ref 250)]) 0 rfl (nI_1 _) d_M_init_191 (by decide) rfl ?_
        refine AW.goto X (pc := 194) 169 d_M_init_194 (by decide) ?_
        rw [fill_up2 (by decide)]
        exact ih (j + 1) _ (by omega) (by omega) rfl
  have q := key1 241 0 0 (by omega) (by omega) nI_0.symm
  rw [fill_0, fill_0] at q
  exact q
