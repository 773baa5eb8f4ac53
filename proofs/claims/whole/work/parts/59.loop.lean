/-- the law may end with 1 wherever it is -/
def RT (G : GTy) : Prop := ∀ (pc : Nat) (lv : List (Nat × Value)) (cells slots : Nat) (ad : Nat → Nat) (N : Nat) (β : Nat → Nat → Bool) (μ : Mu), decode b_W_law pc = .ok (.ireturn, 1) → cells ≤ 601024 → slots ≤ 7293034 → AW G room_1 7 (cells, slots, ad, N, β) pc lv [.int 1] μ
set_option maxHeartbeats 4000000 in
set_option maxRecDepth 100000 in
theorem law_loop {G : GTy} {L : Nat} {xs : Nat → Int32} (X : Cx G 7 b_W_law R_W GT) (hA0 : gA G) (hl : G.2.1.stackTraces = false) (hX : gX G L xs) (hL : L ≤ 2048) (hret : RT G) : ∀ (n i : Nat), L + 4 - i < n → i ≤ L + 4 → ∀ (nr : Nat) (μ : Mu) (ad : Nat → Nat) (cells slots : Nat), INV μ nr → cells ≤ 272 + i → slots ≤ 3344 + 5 * i → AW G room_1 7 (cells, slots, ad, 272 + 3 * nr, fb) 23 [(4, .int (nI i)), (3, .ref 271), (2, .ref 250), (1, .ref 0), (0, .ref (SB + 50))] [] μ := by
  intro n
  induction n with
  | zero =>
    intro i hlt
    exact absurd hlt (Nat.not_lt_zero _)
  | succ n ih =>
    intro i hlt hi nr μ ad cells slots hV hc hs
    refine AW.iload X (pc := 23) 0 rfl d_W_law_23 ?_
    refine AW.aload_n X (pc := 25) 4 rfl rfl d_W_law_25 ?_
    refine AW.xlen X (pc := 26) hX d_W_law_26 ?_
    refine AW.iconst X (pc := 27) (v := 4) (by decide) d_W_law_27 ?_
    refine AW.isub X (pc := 28) d_W_law_28 ?_
    have eI : (nI L - 4).toInt = (L : Int) - 4 := pk_sub_toInt (a := L) (b := 4) (by omega) (by decide)
    refine AW.icmp_gt X (pc := 29) 778 d_W_law_29 (by decide) (fun _ => ?_) (fun c => ?_)
    · refine AW.iconst X (pc := 778) (v := 1) (by decide) d_W_law_778 ?_
      exact hret 779 _ _ _ _ _ _ _ d_W_law_779 (by omega) (by omega)
    · rw [i_lt eI (nI_toInt (show i < 2 ^ 31 by omega))] at c
      have hi4 : i + 3 < L := by omega
      have nx : NX G i := fun nr μ ad cells slots => ih (i + 4) (by omega) (by omega) nr μ ad cells slots
      refine AW.aload_n X (pc := 32) 4 rfl rfl d_W_law_32 ?_
      refine AW.iload X (pc := 33) 0 rfl d_W_law_33 ?_
      refine AW.xld X (pc := 35) hX (by omega) hL d_W_law_35 ?_
      refine AW.bipush X (pc := 36) (v := 15) (by decide) d_W_law_36 ?_
      refine AW.iand X (pc := 38) d_W_law_38 ?_
      obtain ⟨k, hk, e⟩ := pk_andE (xs i) (m := 15) 4 (by decide)
      refine AW.val (congrArg Value.int e) ?_
      rcases (show k = 0 ∨ k = 1 ∨ k = 2 ∨ k = 3 ∨ k = 4 ∨ k = 5 ∨ k = 6 ∨ k = 7 ∨ k = 8 ∨ k = 9 ∨ k = 10 ∨ k = 11 ∨ k = 12 ∨ k = 13 ∨ k = 14 ∨ k = 15 by omega) with rfl | rfl | rfl | rfl | rfl | rfl | rfl | rfl | rfl | rfl | rfl | rfl | rfl | rfl | rfl | rfl
      · refine AW.tableIn X (pc := 39) (off := 77) 116 d_W_law_39 (by decide) (by decide) (by decide) (by decide) ?_
        exact law_0 X hA0 hl hX hL hi4 hV hc hs nx
      · refine AW.tableIn X (pc := 39) (off := 100) 139 d_W_law_39 (by decide) (by decide) (by decide) (by decide) ?_
        exact law_1 X hA0 hl hX hL hi4 hV hc hs nx
      · refine AW.tableIn X (pc := 39) (off := 113) 152 d_W_law_39 (by decide) (by decide) (by decide) (by decide) ?_
        exact law_2 X hA0 hl hX hL hi4 hV hc hs nx
      · refine AW.tableIn X (pc := 39) (off := 162) 201 d_W_law_39 (by decide) (by decide) (by decide) (by decide) ?_
        exact law_3 X hA0 hl hX hL hi4 hV hc hs nx
      · refine AW.tableIn X (pc := 39) (off := 215) 254 d_W_law_39 (by decide) (by decide) (by decide) (by decide) ?_
        exact law_4 X hA0 hl hX hL hi4 hV hc hs nx
      · refine AW.tableIn X (pc := 39) (off := 264) 303 d_W_law_39 (by decide) (by decide) (by decide) (by decide) ?_
        exact law_5 X hA0 hl hX hL hi4 hV hc hs nx
      · refine AW.tableIn X (pc := 39) (off := 301) 340 d_W_law_39 (by decide) (by decide) (by decide) (by decide) ?_
        exact law_6 X hA0 hl hX hL hi4 hV hc hs nx
      · refine AW.tableIn X (pc := 39) (off := 350) 389 d_W_law_39 (by decide) (by decide) (by decide) (by decide) ?_
        exact law_7 X hA0 hl hX hL hi4 hV hc hs nx
      · refine AW.tableIn X (pc := 39) (off := 387) 426 d_W_law_39 (by decide) (by decide) (by decide) (by decide) ?_
        exact law_8 X hA0 hl hX hL hi4 hV hc hs nx
      · refine AW.tableIn X (pc := 39) (off := 424) 463 d_W_law_39 (by decide) (by decide) (by decide) (by decide) ?_
        exact law_9 X hA0 hl hX hL hi4 hV hc hs nx
      · refine AW.tableIn X (pc := 39) (off := 449) 488 d_W_law_39 (by decide) (by decide) (by decide) (by decide) ?_
        exact law_10 X hA0 hl hX hL hi4 hV hc hs nx
      · refine AW.tableIn X (pc := 39) (off := 517) 556 d_W_law_39 (by decide) (by decide) (by decide) (by decide) ?_
        exact law_11 X hA0 hl hX hL hi4 hV hc hs nx
      · refine AW.tableIn X (pc := 39) (off := 554) 593 d_W_law_39 (by decide) (by decide) (by decide) (by decide) ?_
        exact law_12 X hA0 hl hX hL hi4 hV hc hs nx
      · refine AW.tableIn X (pc := 39) (off := 603) 642 d_W_law_39 (by decide) (by decide) (by decide) (by decide) ?_
        exact law_13 X hA0 hl hX hL hi4 hV hc hs nx
      · refine AW.tableIn X (pc := 39) (off := 640) 679 d_W_law_39 (by decide) (by decide) (by decide) (by decide) ?_
        exact law_14 X hA0 hl hX hL hi4 hV hc hs nx
      · refine AW.tableIn X (pc := 39) (off := 677) 716 d_W_law_39 (by decide) (by decide) (by decide) (by decide) ?_
        exact law_15 X hA0 hl hX hL hi4 hV hc hs nx
theorem fk5 {j o : Nat} (h : (fk 5)[j]? = some (some o)) : j ∈ [25, 24, 23, 21, 19, 18, 17, 16, 15, 14, 13, 12, 11, 10, 9, 8, 7, 6, 5, 1] := by
  have hl : j < 26 := (List.getElem?_eq_some_iff.mp h).1
  have q : ∀ j, j < 26 → (fk 5)[j]? = some none ∨ j ∈ [25, 24, 23, 21, 19, 18, 17, 16, 15, 14, 13, 12, 11, 10, 9, 8, 7, 6, 5, 1] := by decide
  rcases q j hl with q | q
  · rw [q] at h; cases h
  · exact q
theorem sh_arr {k ci : Nat} (h1 : 250 < k) (h2 : k < 272) (h : sh k = .inl ci) : False := by
  have q : ∀ d, d < 21 → (sh (251 + d)).isLeft = false := by decide
  have e := q (k - 251) (by omega)
  rw [show 251 + (k - 251) = k by omega, h] at e
  cases e
set_option maxHeartbeats 4000000 in
set_option maxRecDepth 100000 in
theorem law_begin {G : GTy} {L : Nat} {xs : Nat → Int32} (X : Cx G 7 b_W_law R_W GT) (hA0 : gA G) (hl : G.2.1.stackTraces = false) (hX : gX G L xs) (hL : L ≤ 2048) (hret : RT G) (ad : Nat → Nat) : AW G room_1 7 (0, 0, ad, 0, fun _ _ => false) 0 [(0, .ref (SB + 50))] [] (fun _ _ => 0) := by
  have ok0 : ∀ (N : Nat), m_ok N (.ref (SB + 50)) := fun N => Or.inr (show SB ≤ SB + 50 by omega)
  generalize hμ0 : (fun _ _ => 0 : Mu) = μ0
  have hz : ∀ k j, μ0 k j = 0 := fun k j => by rw [← hμ0]
  generalize hβ0 : (fun _ _ => false : Nat → Nat → Bool) = β0
  have hbz : ∀ k j, β0 k j = false := fun k j => by rw [← hβ0]
  clear hμ0 hβ0
  refine AW.new X (pc := 0) (ci := 4) ft_C rfl rfl in_C ft_C_ok wk_W_8 wb_C wn_C dv_C ⟨show 0 < 1000000 by omega, hA0, (fun j => hz _ j), (fun j => hbz _ j), List.forall_mem_cons.mpr ⟨ok0 _, fun _ h => nomatch h⟩, fun _ h => nomatch h⟩ (Nat.le_of_ble_eq_true rfl) (Nat.le_of_ble_eq_true rfl) d_W_law_0 (fun q0 => ?_)
  refine AW.dup X (pc := 3) rfl d_W_law_3 ?_
  refine AW.callIA X hA0 (pc := 4) (ret := none) (b := 0) (nA := 0) [] [.ref 0] (c_C_init (kOf G (va_up ad 0 q0) 1) μ0 β0 rfl (fun k j _ => hz k j) (fun k j _ => hbz k j)) (gv_I kw_C_init) rfl (by decide +kernel) rfl wn_C wm_W_19 wi_C_init rfl ⟨Nat.le_of_ble_eq_true rfl, Nat.le_of_ble_eq_true rfl⟩ ⟨Nat.le_of_ble_eq_true rfl, Nat.le_of_ble_eq_true rfl⟩ (Nat.le_of_ble_eq_true rfl) (List.forall_mem_cons.mpr ⟨ok0 _, fun _ h => nomatch h⟩) (List.forall_mem_cons.mpr ⟨Or.inl (show (0 : Nat) < 0 + 1 by omega), fun _ h => nomatch h⟩) d_W_law_4 rfl (fun v μ2 β2 ad2 N2 hq _ => ?_)
  obtain ⟨rfl, hm, rfl, hb1, hb2⟩ := hq
  obtain ⟨n6, h6⟩ : ∃ n : Nat, n = 60 := ⟨_, rfl⟩
  rw [← h6] at hm
  subst hm
  have hzc : ∀ k j, 250 ≤ k → cM μ0 n6 k j = 0 := fun k j hk => by rw [cM_hi n6 (by omega)]; exact hz k j
  show AW G room_1 7 (250, 1637, ad2, 250, β2) 7 [(0, .ref (SB + 50))] [.ref 0] (cM μ0 n6)
  refine AW.astore_n X (pc := 7) (lv2 := [(1, .ref 0), (0, .ref (SB + 50))]) rfl d_W_law_7 (by decide) rfl ?_
  refine AW.new X (pc := 8) (ci := 5) ft_M rfl rfl in_M ft_M_ok wk_W_20 wb_M wn_M dv_M ⟨show 250 < 1000000 by omega, hA0, (fun j => hzc _ j (by omega)), (fun j => hb2 _ j (by omega)), List.forall_mem_cons.mpr ⟨Or.inl (show (0 : Nat) < 250 by omega), List.forall_mem_cons.mpr ⟨ok0 _, fun _ h => nomatch h⟩⟩, fun _ h => nomatch h⟩ (Nat.le_of_ble_eq_true rfl) (Nat.le_of_ble_eq_true rfl) d_W_law_8 (fun q1 => ?_)
  refine AW.dup X (pc := 11) rfl d_W_law_11 ?_
  refine AW.callIA X hA0 (pc := 12) (ret := none) (b := 250) (nA := 0) [] [.ref 250] (c_M_init (kOf G (va_up ad2 250 q1) 251) (cM μ0 n6) β2 rfl (fun k j hk => hzc k j (by omega)) (fun k j hk => hb2 k j (by omega))) (gv_I kw_M_init) rfl (by decide +kernel) rfl wn_M wm_W_22 wi_M_init rfl ⟨Nat.le_of_ble_eq_true rfl, Nat.le_of_ble_eq_true rfl⟩ ⟨Nat.le_of_ble_eq_true rfl, Nat.le_of_ble_eq_true rfl⟩ (Nat.le_of_ble_eq_true rfl) (List.forall_mem_cons.mpr ⟨Or.inl (show (0 : Nat) < 250 + 1 by omega), List.forall_mem_cons.mpr ⟨ok0 _, fun _ h => nomatch h⟩⟩) (List.forall_mem_cons.mpr ⟨Or.inl (show (250 : Nat) < 250 + 1 by omega), fun _ h => nomatch h⟩) d_W_law_12 rfl (fun v μ3 β3 ad3 N3 hq _ => ?_)
  obtain ⟨rfl, rfl, rfl, hb3⟩ := hq
  have hzm : ∀ j, mM (cM μ0 n6) 271 j = 0 := fun j => by
    unfold mM
    rw [fill_out (by omega), fill_out (by omega), fill_out (by omega), fill_out (by omega), fill_out (by omega)]
    exact hzc 271 j (by omega)
  show AW G room_1 7 (271, 3343, ad3, 271, β3) 15 [(1, .ref 0), (0, .ref (SB + 50))] [.ref 250] (mM (cM μ0 n6))
  refine AW.astore_n X (pc := 15) (lv2 := [(2, .ref 250), (1, .ref 0), (0, .ref (SB + 50))]) rfl d_W_law_15 (by decide) rfl ?_
  refine AW.iconst X (pc := 16) (v := 1) (by decide) d_W_law_16 ?_
  refine AW.newL X (pc := 17) (t := 1) (n := 1) rfl rfl wa_long (by decide) (by decide) (by decide) ⟨show 271 < 1000000 by omega, hA0, hzm, (fun j => by rw [hb3, mbs_out (by omega)]; exact hb2 _ j (by omega)), List.forall_mem_cons.mpr ⟨Or.inl (show (250 : Nat) < 271 by omega), List.forall_mem_cons.mpr ⟨Or.inl (show (0 : Nat) < 271 by omega), List.forall_mem_cons.mpr ⟨ok0 _, fun _ h => nomatch h⟩⟩⟩, fun _ h => nomatch h⟩ (Nat.le_of_ble_eq_true rfl) (Nat.le_of_ble_eq_true rfl) d_W_law_17 (fun q2 => ?_)
  refine AW.astore_n X (pc := 19) (lv2 := [(3, .ref 271), (2, .ref 250), (1, .ref 0), (0, .ref (SB + 50))]) rfl d_W_law_19 (by decide) rfl ?_
  refine AW.iconst X (pc := 20) (v := 0) (by decide) d_W_law_20 ?_
  refine AW.istore X (pc := 21) (lv2 := [(4, .int 0), (3, .ref 271), (2, .ref 250), (1, .ref 0), (0, .ref (SB + 50))]) d_W_law_21 (by decide) rfl ?_
  refine AW.beta (β2 := fb) (fun k ci j o hk hs hf => ?_) ?_
  · show true = β3 k j
    rw [hb3]
    rcases (show k < 250 ∨ k = 250 ∨ 250 < k by omega) with h | h | h
    · rw [mbs_out (by omega)]
      exact (hb1 k ci j o h hs hf).symm
    · subst h
      cases hs
      exact (mbs_in (fk5 hf)).symm
    · exact absurd hs (fun e => sh_arr h hk e)
  · have q := law_loop X hA0 hl hX hL hret (L + 5) 0 (by omega) (by omega) 0 (mM (cM μ0 n6)) (va_up ad3 271 q2) 272 3344 (inv_start hz h6) (by omega) (by omega)
    rw [nI_0] at q
    exact q
