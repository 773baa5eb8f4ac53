/-! the law's own rows: the script -/
section AWlaw
variable {G : GTy} {R : Room} {nL cells slots : Nat} {ad : Nat → Nat} {N : Nat} {β : Nat → Nat → Bool} {pc : Nat} {lv : List (Nat × Value)} {st : List Value} {μ : Mu} {cc : ByteArray} {own : String} {Ts : List Cond}
/-- the script lies where nobody writes -/
def gX (G : GTy) (L : Nat) (xs : Nat → Int32) : Prop := match G with
  | (_, _, _, s, _, _, _, _, _, _, _, _, sa, A) => va_X (sa 50) L xs s s.heap ∧ sa 50 < s.heap.size ∧ ¬ A (sa 50)
theorem AW.xlen {L : Nat} {xs : Nat → Int32} (X : Cx G nL cc own Ts) (hX : gX G L xs) (hd : decode cc pc = .ok (.arraylength, 1)) (kk : AW G R nL (cells, slots, ad, N, β) (pc + 1) lv (.int (nI L) :: st) μ) : AW G R nL (cells, slots, ad, N, β) pc lv (.ref (SB + 50) :: st) μ := by
  obtain ⟨p, l, e, s, m, args, below, meth, c, Q, D, cA, sa, A⟩ := G
  obtain ⟨hx, hb, hml, hown, hts, hK, hSt, hlk⟩ := X
  intro H locs L0 hM hA hS hL
  rw [List.map_cons, m_cv_SB hA.2]
  exact va_slen hx hb hX.1 hX.2.1 hX.2.2 hS hd (kk H locs L0 hM hA hS hL)
theorem AW.xld {L j : Nat} {xs : Nat → Int32} (X : Cx G nL cc own Ts) (hX : gX G L xs) (hj : j < L) (hL2 : L ≤ 2048) (hd : decode cc pc = .ok (.iaload, 1)) (kk : AW G R nL (cells, slots, ad, N, β) (pc + 1) lv (.int (xs j) :: st) μ) : AW G R nL (cells, slots, ad, N, β) pc lv (.int (nI j) :: .ref (SB + 50) :: st) μ := by
  obtain ⟨p, l, e, s, m, args, below, meth, c, Q, D, cA, sa, A⟩ := G
  obtain ⟨hx, hb, hml, hown, hts, hK, hSt, hlk⟩ := X
  intro H locs L0 hM hA hS hL
  rw [List.map_cons, List.map_cons, m_cv_SB hA.2]
  refine va_sld hx hb hX.1 hX.2.1 hX.2.2 hS (vp_in_nI hj (by omega)) hd ?_
  rw [nI_clamp (by omega)]
  exact kk H locs L0 hM hA hS hL
/-- an argument out of the script -/
theorem AW.arg {L i j : Nat} {xs : Nat → Int32} {n : Int} (X : Cx G nL cc own Ts) (hX : gX G L xs) (hL2 : L ≤ 2048) (hj : i + j < L) (hn : Int32.ofInt n = nI j) (q0 q4 : Nat) (h0 : lv[q0]? = some (0, .ref (SB + 50))) (h4 : lv[q4]? = some (4, .int (nI i))) (d0 : decode cc pc = .ok (.aload_n 0, 1)) (d1 : decode cc (pc + 1) = .ok (.iload 4, 2)) (d2 : decode cc (pc + 1 + 2) = .ok (.iconst n, 1)) (d3 : decode cc (pc + 1 + 2 + 1) = .ok (.iadd, 1)) (d4 : decode cc (pc + 1 + 2 + 1 + 1) = .ok (.iaload, 1)) (kk : AW G R nL (cells, slots, ad, N, β) (pc + 1 + 2 + 1 + 1 + 1) lv (.int (xs (i + j)) :: st) μ) : AW G R nL (cells, slots, ad, N, β) pc lv st μ := by
  refine AW.aload_n X q0 rfl h0 d0 ?_
  refine AW.iload X q4 h4 d1 ?_
  refine AW.iconst X hn d2 ?_
  refine AW.iadd X d3 ?_
  refine AW.val (congrArg Value.int (nI_add i j)) ?_
  exact AW.xld X hX hj hL2 d4 kk
end AWlaw
/-- the loop's head, four ints on -/
def NX (G : GTy) (i : Nat) : Prop := ∀ (nr : Nat) (μ : Mu) (ad : Nat → Nat) (cells slots : Nat), INV μ nr → cells ≤ 272 + (i + 4) → slots ≤ 3344 + 5 * (i + 4) → AW G room_1 7 (cells, slots, ad, 272 + 3 * nr, fb) 23 [(4, .int (nI (i + 4))), (3, .ref 271), (2, .ref 250), (1, .ref 0), (0, .ref (SB + 50))] [] μ
theorem law_next {G : GTy} (X : Cx G 7 b_W_law R_W GT) {i nr : Nat} {μ : Mu} {ad : Nat → Nat} {cells slots : Nat} (hV : INV μ nr) (hc : cells ≤ 272 + (i + 4)) (hs : slots ≤ 3344 + 5 * (i + 4)) (next : NX G i) : AW G room_1 7 (cells, slots, ad, 272 + 3 * nr, fb) 772 [(4, .int (nI i)), (3, .ref 271), (2, .ref 250), (1, .ref 0), (0, .ref (SB + 50))] [] μ := by
  refine AW.iinc X (pc := 772) (v := nI (i + 4)) (lv2 := [(4, .int (nI (i + 4))), (3, .ref 271), (2, .ref 250), (1, .ref 0), (0, .ref (SB + 50))]) 0 rfl (by rw [show Int32.ofInt 4 = nI 4 by decide]; exact nI_add i 4) d_W_law_772 (by decide) rfl ?_
  refine AW.goto X (pc := 775) 23 d_W_law_775 (by decide) ?_
  exact next nr μ ad cells slots hV hc hs
theorem lv_ok {N : Nat} {x : Int32} (hN : 272 ≤ N) : ∀ q ∈ ([(4, .int x), (3, .ref 271), (2, .ref 250), (1, .ref 0), (0, .ref (SB + 50))] : List (Nat × Value)), m_ok N q.2 :=
  List.forall_mem_cons.mpr ⟨trivial, List.forall_mem_cons.mpr ⟨Or.inl (show (271 : Nat) < N by omega), List.forall_mem_cons.mpr ⟨Or.inl (show (250 : Nat) < N by omega), List.forall_mem_cons.mpr ⟨Or.inl (show (0 : Nat) < N by omega), List.forall_mem_cons.mpr ⟨Or.inr (show SB ≤ SB + 50 by omega), fun _ h => nomatch h⟩⟩⟩⟩⟩
theorem rm_f {cells slots i L : Nat} (hL : L ≤ 2048) (hi : i + 3 < L) (hc : cells ≤ 272 + i) (hs : slots ≤ 3344 + 5 * i) : cells ≤ room_1.cells ∧ slots ≤ room_1.slots := by
  show cells ≤ 601024 ∧ slots ≤ 7293034
  omega
theorem ke_ru {μ ν : Mu} (ht : TS μ ν) (nr ek : Nat) (yr : Int32) (ac : Nat) : KE μ (ruC ν nr ek yr ac) := fun k h1 h2 => by
  unfold ruC
  rw [m_up_row (by omega), m_up_row (by omega), m_up_row (by omega), m_up_row (by omega), m_up_row (by omega), m_up_row (by omega)]
  funext j
  exact ht k j (Or.inl (by omega))
set_option maxHeartbeats 4000000 in
set_option maxRecDepth 100000 in
theorem law_0 {G : GTy} {L : Nat} {xs : Nat → Int32} (X : Cx G 7 b_W_law R_W GT) (hA0 : gA G) (hl : G.2.1.stackTraces = false) (hX : gX G L xs) (hL : L ≤ 2048) {i nr : Nat} {μ : Mu} {ad : Nat → Nat} {cells slots : Nat} (hi : i + 3 < L) (hV : INV μ nr) (hc : cells ≤ 272 + i) (hs : slots ≤ 3344 + 5 * i) (next : NX G i) : AW G room_1 7 (cells, slots, ad, 272 + 3 * nr, fb) 116 [(4, .int (nI i)), (3, .ref 271), (2, .ref 250), (1, .ref 0), (0, .ref (SB + 50))] [] μ := by
  obtain ⟨hC, hM⟩ := id hV
  have hI := hC.1
  have hVR := hC.2.1
  have hN : 272 ≤ 272 + 3 * nr := by omega
  have hf := rm_f hL hi hc hs
  refine AW.aload_n X (pc := 116) 3 rfl rfl d_W_law_116 ?_
  refine AW.arg X (pc := 117) (i := i) (j := 1) hX hL (by omega) (by decide) 4 0 rfl rfl d_W_law_117 d_W_law_118 d_W_law_120 d_W_law_121 d_W_law_122 ?_
  refine AW.callV X (pc := 123) (b := 0) (ci := 4) (nA := 1) [.int (xs (i + 1))] [] (c_C_sign (kOf G ad (272 + 3 * nr)) nr (xs (i + 1)) μ hN hI) (gv_V wm_W_23 wi_C_sign wl_C_sign wn_C kw_C_sign) rfl (by decide +kernel) rfl (by omega) rfl rfl ⟨Nat.le_of_ble_eq_true rfl, Nat.le_of_ble_eq_true rfl⟩ hf (Nat.le_of_ble_eq_true rfl) d_W_law_123 rfl (fun v μ2 hq => ?_)
  obtain ⟨rfl, rfl⟩ := hq
  show AW G room_1 7 (cells, slots, ad, 272 + 3 * nr, fb) 126 [(4, .int (nI i)), (3, .ref 271), (2, .ref 250), (1, .ref 0), (0, .ref (SB + 50))] [] (collectM μ (xs (i + 1)))
  refine AW.aload_n X (pc := 126) 2 rfl rfl d_W_law_126 ?_
  refine AW.arg X (pc := 127) (i := i) (j := 1) hX hL (by omega) (by decide) 4 0 rfl rfl d_W_law_127 d_W_law_128 d_W_law_130 d_W_law_131 d_W_law_132 ?_
  refine AW.callV X (pc := 133) (b := 250) (ci := 5) (nA := 1) [.int (xs (i + 1))] [] (c_M_sign (kOf G ad (272 + 3 * nr)) μ nr (xs (i + 1)) (collectM μ (xs (i + 1))) hN hI (hM.ke (ke_sign μ (xs (i + 1)))) hVR) (gv_V wm_W_27 wi_M_sign wl_M_sign wn_M kw_M_sign) rfl (by decide +kernel) rfl (by omega) rfl rfl ⟨Nat.le_of_ble_eq_true rfl, Nat.le_of_ble_eq_true rfl⟩ hf (Nat.le_of_ble_eq_true rfl) d_W_law_133 rfl (fun v μ2 hq => ?_)
  obtain ⟨rfl, rfl⟩ := hq
  show AW G room_1 7 (cells, slots, ad, 272 + 3 * nr, fb) 136 [(4, .int (nI i)), (3, .ref 271), (2, .ref 250), (1, .ref 0), (0, .ref (SB + 50))] [] (G_sign μ (collectM μ (xs (i + 1))) (xs (i + 1)))
  refine AW.goto X (pc := 136) 772 d_W_law_136 (by decide) ?_
  exact law_next X (st_sign hV (xs (i + 1))) (by omega) (by omega) next
set_option maxHeartbeats 4000000 in
set_option maxRecDepth 100000 in
theorem law_1 {G : GTy} {L : Nat} {xs : Nat → Int32} (X : Cx G 7 b_W_law R_W GT) (hA0 : gA G) (hl : G.2.1.stackTraces = false) (hX : gX G L xs) (hL : L ≤ 2048) {i nr : Nat} {μ : Mu} {ad : Nat → Nat} {cells slots : Nat} (hi : i + 3 < L) (hV : INV μ nr) (hc : cells ≤ 272 + i) (hs : slots ≤ 3344 + 5 * i) (next : NX G i) : AW G room_1 7 (cells, slots, ad, 272 + 3 * nr, fb) 139 [(4, .int (nI i)), (3, .ref 271), (2, .ref 250), (1, .ref 0), (0, .ref (SB + 50))] [] μ := by
  obtain ⟨hC, hM⟩ := id hV
  have hI := hC.1
  have hVR := hC.2.1
  have hN : 272 ≤ 272 + 3 * nr := by omega
  have hf := rm_f hL hi hc hs
  have hf2 : cells + 3 ≤ room_1.cells ∧ slots + 17 ≤ room_1.slots := by
    show cells + 3 ≤ 601024 ∧ slots + 17 ≤ 7293034
    omega
  refine AW.aload_n X (pc := 139) 3 rfl rfl d_W_law_139 ?_
  refine AW.callVA X hA0 (pc := 140) (b := 0) (ci := 4) (nA := 0) [] [] (c_C_rule (kOf G ad (272 + 3 * nr)) nr μ fb rfl rfl hI hC.2.2.2.2) (gv_V wm_W_28 wi_C_rule wl_C_rule wn_C kw_C_rule) rfl (by decide +kernel) (by omega) rfl rfl rfl ⟨Nat.le_of_ble_eq_true rfl, Nat.le_of_ble_eq_true rfl⟩ hf2 (Nat.le_of_ble_eq_true rfl) (lv_ok hN) (fun _ h => nomatch h) d_W_law_140 rfl (fun v μ2 β2 ad2 N2 hq had => ?_)
  by_cases hr : (rd (sgA μ) (tlN μ)).1 = false
  · skip
    rw [if_pos hr] at hq
    obtain ⟨rfl, rfl, rfl, μ1, ht, rfl⟩ := hq
    show AW G room_1 7 (cells + 3, slots + 17, ad2, 272 + 3 * nr, fb) 143 [(4, .int (nI i)), (3, .ref 271), (2, .ref 250), (1, .ref 0), (0, .ref (SB + 50))] [.int (-10 - nI (rd (sgA μ) (tlN μ)).2.1)] (m_up μ1 1 1 0)
    refine AW.aload_n X (pc := 143) 2 rfl rfl d_W_law_143 ?_
    refine AW.callV X (pc := 144) (b := 250) (ci := 5) (nA := 0) [] [.int (-10 - nI (rd (sgA μ) (tlN μ)).2.1)] (c_M_rule (kOf G ad2 (272 + 3 * nr)) μ nr (m_up μ1 1 1 0) hN hI (hM.ke ht.ke) hC.2.2.1) (gv_V wm_W_32 wi_M_rule wl_M_rule wn_M kw_M_rule) rfl (by decide +kernel) rfl (by omega) rfl rfl ⟨Nat.le_of_ble_eq_true rfl, Nat.le_of_ble_eq_true rfl⟩ hf2 (Nat.le_of_ble_eq_true rfl) d_W_law_144 rfl (fun v μ2 hq => ?_)
    rw [if_pos hr] at hq
    obtain ⟨rfl, q, rfl⟩ := hq
    show AW G room_1 7 (cells + 3, slots + 17, ad2, 272 + 3 * nr, fb) 147 [(4, .int (nI i)), (3, .ref 271), (2, .ref 250), (1, .ref 0), (0, .ref (SB + 50))] [.int (-10 - nI (rd (sgA μ) (tlN μ)).2.1), .int (-10 - nI (rd (sgA μ) (tlN μ)).2.1)] (m_up (rlN (m_up (m_up μ1 1 1 0) 250 0 0) q) 250 2 0)
    refine AW.icmp_eq X (pc := 147) 772 d_W_law_147 (by decide) (fun _ => ?_) (fun c => absurd rfl c)
    exact law_next X (st_rule0 hV ht q) (by omega) (by omega) next
  · by_cases h20 : nr = 20
    · skip
      rw [if_neg hr, if_pos h20] at hq
      obtain ⟨rfl, rfl, rfl, μ1, ht, rfl⟩ := hq
      show AW G room_1 7 (cells + 3, slots + 17, ad2, 272 + 3 * nr, fb) 143 [(4, .int (nI i)), (3, .ref 271), (2, .ref 250), (1, .ref 0), (0, .ref (SB + 50))] [.int (-4)] (m_up μ1 1 1 0)
      refine AW.aload_n X (pc := 143) 2 rfl rfl d_W_law_143 ?_
      refine AW.callV X (pc := 144) (b := 250) (ci := 5) (nA := 0) [] [.int (-4)] (c_M_rule (kOf G ad2 (272 + 3 * nr)) μ nr (m_up μ1 1 1 0) hN hI (hM.ke ht.ke) hC.2.2.1) (gv_V wm_W_32 wi_M_rule wl_M_rule wn_M kw_M_rule) rfl (by decide +kernel) rfl (by omega) rfl rfl ⟨Nat.le_of_ble_eq_true rfl, Nat.le_of_ble_eq_true rfl⟩ hf2 (Nat.le_of_ble_eq_true rfl) d_W_law_144 rfl (fun v μ2 hq => ?_)
      rw [if_neg hr, if_pos h20] at hq
      obtain ⟨rfl, q, rfl⟩ := hq
      show AW G room_1 7 (cells + 3, slots + 17, ad2, 272 + 3 * nr, fb) 147 [(4, .int (nI i)), (3, .ref 271), (2, .ref 250), (1, .ref 0), (0, .ref (SB + 50))] [.int (-4), .int (-4)] (m_up (rlN (m_up (m_up μ1 1 1 0) 250 0 0) q) 250 2 0)
      refine AW.icmp_eq X (pc := 147) 772 d_W_law_147 (by decide) (fun _ => ?_) (fun c => absurd rfl c)
      exact law_next X (st_rule0 hV ht q) (by omega) (by omega) next
    · rw [if_neg hr, if_neg h20] at hq
      obtain ⟨rfl, rfl, rfl, μ1, ht, hm⟩ := hq
      have hr2 : (rd (sgA μ) (tlN μ)).1 = true := by
        cases h : (rd (sgA μ) (tlN μ)).1 with
        | true => rfl
        | false => exact absurd h hr
      obtain ⟨he, ⟨y, hy, ey⟩, ha⟩ := rd_ok _ _ hr2
      have hm : μ2 = ruC μ1 nr (rd (sgA μ) (tlN μ)).2.2.1 (nI y) (rd (sgA μ) (tlN μ)).2.2.2.2 := by rw [hm, ey]; rfl
      subst hm
      show AW G room_1 7 (cells + 3, slots + 17, ad2, 272 + 3 * nr + 3, fb) 143 [(4, .int (nI i)), (3, .ref 271), (2, .ref 250), (1, .ref 0), (0, .ref (SB + 50))] [.int (nI nr)] (ruC μ1 nr (rd (sgA μ) (tlN μ)).2.2.1 (nI y) (rd (sgA μ) (tlN μ)).2.2.2.2)
      refine AW.aload_n X (pc := 143) 2 rfl rfl d_W_law_143 ?_
      refine AW.callV X (pc := 144) (b := 250) (ci := 5) (nA := 0) [] [.int (nI nr)] (c_M_rule (kOf G ad2 (272 + 3 * nr + 3)) μ nr (ruC μ1 nr (rd (sgA μ) (tlN μ)).2.2.1 (nI y) (rd (sgA μ) (tlN μ)).2.2.2.2) (show 272 ≤ 272 + 3 * nr + 3 by omega) hI (hM.ke (ke_ru ht nr _ _ _)) hC.2.2.1) (gv_V wm_W_32 wi_M_rule wl_M_rule wn_M kw_M_rule) rfl (by decide +kernel) rfl (by omega) rfl rfl ⟨Nat.le_of_ble_eq_true rfl, Nat.le_of_ble_eq_true rfl⟩ hf2 (Nat.le_of_ble_eq_true rfl) d_W_law_144 rfl (fun v μ2 hq => ?_)
      rw [if_neg hr, if_neg h20, ey] at hq
      obtain ⟨rfl, q, rfl⟩ := hq
      show AW G room_1 7 (cells + 3, slots + 17, ad2, 272 + 3 * nr + 3, fb) 147 [(4, .int (nI i)), (3, .ref 271), (2, .ref 250), (1, .ref 0), (0, .ref (SB + 50))] [.int (nI nr), .int (nI nr)] (m_up (m_up (rlW (m_up (ruC μ1 nr (rd (sgA μ) (tlN μ)).2.2.1 (nI y) (rd (sgA μ) (tlN μ)).2.2.2.2) 250 0 0) q nr (rd (sgA μ) (tlN μ)).2.2.1 (nI y) (rd (sgA μ) (tlN μ)).2.2.2.2) 250 2 0) 250 4 (nI (nr + 1)))
      have hnr := hI.nr
      refine AW.icmp_eq X (pc := 147) 772 d_W_law_147 (by decide) (fun _ => ?_) (fun c => absurd rfl c)
      exact law_next X (nr := nr + 1) (st_rule hV ht (by omega) he hy ha q) (by omega) (by omega) next
set_option maxHeartbeats 4000000 in
set_option maxRecDepth 100000 in
theorem law_2 {G : GTy} {L : Nat} {xs : Nat → Int32} (X : Cx G 7 b_W_law R_W GT) (hA0 : gA G) (hl : G.2.1.stackTraces = false) (hX : gX G L xs) (hL : L ≤ 2048) {i nr : Nat} {μ : Mu} {ad : Nat → Nat} {cells slots : Nat} (hi : i + 3 < L) (hV : INV μ nr) (hc : cells ≤ 272 + i) (hs : slots ≤ 3344 + 5 * i) (next : NX G i) : AW G room_1 7 (cells, slots, ad, 272 + 3 * nr, fb) 152 [(4, .int (nI i)), (3, .ref 271), (2, .ref 250), (1, .ref 0), (0, .ref (SB + 50))] [] μ := by
  obtain ⟨hC, hM⟩ := id hV
  have hI := hC.1
  have hVR := hC.2.1
  have hN : 272 ≤ 272 + 3 * nr := by omega
  have hf := rm_f hL hi hc hs
  refine AW.aload_n X (pc := 152) 3 rfl rfl d_W_law_152 ?_
  refine AW.arg X (pc := 153) (i := i) (j := 1) hX hL (by omega) (by decide) 4 0 rfl rfl d_W_law_153 d_W_law_154 d_W_law_156 d_W_law_157 d_W_law_158 ?_
  refine AW.arg X (pc := 159) (i := i) (j := 2) hX hL (by omega) (by decide) 4 0 rfl rfl d_W_law_159 d_W_law_160 d_W_law_162 d_W_law_163 d_W_law_164 ?_
  refine AW.arg X (pc := 165) (i := i) (j := 3) hX hL (by omega) (by decide) 4 0 rfl rfl d_W_law_165 d_W_law_166 d_W_law_168 d_W_law_169 d_W_law_170 ?_
  refine AW.callV X (pc := 171) (b := 0) (ci := 4) (nA := 3) [.int (xs (i + 1)), .int (xs (i + 2)), .int (xs (i + 3))] [] (c_C_change (kOf G ad (272 + 3 * nr)) nr (xs (i + 1)) (xs (i + 2)) (xs (i + 3)) μ hN hI rfl) (gv_V wm_W_33 wi_C_change wl_C_change wn_C kw_C_change) rfl (by decide +kernel) rfl (by omega) rfl rfl ⟨Nat.le_of_ble_eq_true rfl, Nat.le_of_ble_eq_true rfl⟩ hf (Nat.le_of_ble_eq_true rfl) d_W_law_171 rfl (fun v μ2 hq => ?_)
  obtain ⟨rfl, rfl⟩ := hq
  show AW G room_1 7 (cells, slots, ad, 272 + 3 * nr, fb) 174 [(4, .int (nI i)), (3, .ref 271), (2, .ref 250), (1, .ref 0), (0, .ref (SB + 50))] [.int (F_change μ nr (xs (i + 1)) (xs (i + 2)) (xs (i + 3))).1] ((F_change μ nr (xs (i + 1)) (xs (i + 2)) (xs (i + 3))).2)
  refine AW.aload_n X (pc := 174) 2 rfl rfl d_W_law_174 ?_
  refine AW.arg X (pc := 175) (i := i) (j := 1) hX hL (by omega) (by decide) 4 0 rfl rfl d_W_law_175 d_W_law_176 d_W_law_178 d_W_law_179 d_W_law_180 ?_
  refine AW.arg X (pc := 181) (i := i) (j := 2) hX hL (by omega) (by decide) 4 0 rfl rfl d_W_law_181 d_W_law_182 d_W_law_184 d_W_law_185 d_W_law_186 ?_
  refine AW.arg X (pc := 187) (i := i) (j := 3) hX hL (by omega) (by decide) 4 0 rfl rfl d_W_law_187 d_W_law_188 d_W_law_190 d_W_law_191 d_W_law_192 ?_
  refine AW.callV X (pc := 193) (b := 250) (ci := 5) (nA := 3) [.int (xs (i + 1)), .int (xs (i + 2)), .int (xs (i + 3))] [.int (F_change μ nr (xs (i + 1)) (xs (i + 2)) (xs (i + 3))).1] (c_M_change (kOf G ad (272 + 3 * nr)) μ nr (xs (i + 1)) (xs (i + 2)) (xs (i + 3)) (F_change μ nr (xs (i + 1)) (xs (i + 2)) (xs (i + 3))).2 hN hI (hM.ke (ke_change μ nr (xs (i + 1)) (xs (i + 2)) (xs (i + 3)))) hVR) (gv_V wm_W_37 wi_M_change wl_M_change wn_M kw_M_change) rfl (by decide +kernel) rfl (by omega) rfl rfl ⟨Nat.le_of_ble_eq_true rfl, Nat.le_of_ble_eq_true rfl⟩ hf (Nat.le_of_ble_eq_true rfl) d_W_law_193 rfl (fun v μ2 hq => ?_)
  obtain ⟨rfl, rfl⟩ := hq
  show AW G room_1 7 (cells, slots, ad, 272 + 3 * nr, fb) 196 [(4, .int (nI i)), (3, .ref 271), (2, .ref 250), (1, .ref 0), (0, .ref (SB + 50))] [.int (G_change μ (F_change μ nr (xs (i + 1)) (xs (i + 2)) (xs (i + 3))).2 nr (xs (i + 1)) (xs (i + 2)) (xs (i + 3))).1, .int (F_change μ nr (xs (i + 1)) (xs (i + 2)) (xs (i + 3))).1] ((G_change μ (F_change μ nr (xs (i + 1)) (xs (i + 2)) (xs (i + 3))).2 nr (xs (i + 1)) (xs (i + 2)) (xs (i + 3))).2)
  refine AW.icmp_eq X (pc := 196) 772 d_W_law_196 (by decide) (fun _ => ?_) (fun c => absurd (st_change hV (xs (i + 1)) (xs (i + 2)) (xs (i + 3))).1 c)
  exact law_next X (st_change hV (xs (i + 1)) (xs (i + 2)) (xs (i + 3))).2 (by omega) (by omega) next
set_option maxHeartbeats 4000000 in
set_option maxRecDepth 100000 in
theorem law_3 {G : GTy} {L : Nat} {xs : Nat → Int32} (X : Cx G 7 b_W_law R_W GT) (hA0 : gA G) (hl : G.2.1.stackTraces = false) (hX : gX G L xs) (hL : L ≤ 2048) {i nr : Nat} {μ : Mu} {ad : Nat → Nat} {cells slots : Nat} (hi : i + 3 < L) (hV : INV μ nr) (hc : cells ≤ 272 + i) (hs : slots ≤ 3344 + 5 * i) (next : NX G i) : AW G room_1 7 (cells, slots, ad, 272 + 3 * nr, fb) 201 [(4, .int (nI i)), (3, .ref 271), (2, .ref 250), (1, .ref 0), (0, .ref (SB + 50))] [] μ := by
  obtain ⟨hC, hM⟩ := id hV
  have hI := hC.1
  have hVR := hC.2.1
  have hN : 272 ≤ 272 + 3 * nr := by omega
  have hf := rm_f hL hi hc hs
  by_cases hb : xs (i + 2) = 0
  · skip
    refine AW.aload_n X (pc := 201) 3 rfl rfl d_W_law_201 ?_
    refine AW.arg X (pc := 202) (i := i) (j := 1) hX hL (by omega) (by decide) 4 0 rfl rfl d_W_law_202 d_W_law_203 d_W_law_205 d_W_law_206 d_W_law_207 ?_
    refine AW.arg X (pc := 208) (i := i) (j := 2) hX hL (by omega) (by decide) 4 0 rfl rfl d_W_law_208 d_W_law_209 d_W_law_211 d_W_law_212 d_W_law_213 ?_
    refine AW.if_eq X (pc := 214) 221 d_W_law_214 (by decide) (fun _ => ?_) (fun c => absurd hb c)
    refine AW.iconst X (pc := 221) (v := 0) (by decide) d_W_law_221 ?_
    refine AW.callV X (pc := 222) (b := 0) (ci := 4) (nA := 2) [.int (xs (i + 1)), .int (bi false)] [] (c_C_breaks (kOf G ad (272 + 3 * nr)) nr (xs (i + 1)) false μ hN hI rfl) (gv_V wm_W_38 wi_C_breaks wl_C_breaks wn_C kw_C_breaks) rfl (by decide +kernel) rfl (by omega) rfl rfl ⟨Nat.le_of_ble_eq_true rfl, Nat.le_of_ble_eq_true rfl⟩ hf (Nat.le_of_ble_eq_true rfl) d_W_law_222 rfl (fun v μ2 hq => ?_)
    obtain ⟨rfl, rfl⟩ := hq
    show AW G room_1 7 (cells, slots, ad, 272 + 3 * nr, fb) 225 [(4, .int (nI i)), (3, .ref 271), (2, .ref 250), (1, .ref 0), (0, .ref (SB + 50))] [.int (bi (F_breaks μ nr (xs (i + 1)) false).1)] ((F_breaks μ nr (xs (i + 1)) false).2)
    refine AW.aload_n X (pc := 225) 2 rfl rfl d_W_law_225 ?_
    refine AW.arg X (pc := 226) (i := i) (j := 1) hX hL (by omega) (by decide) 4 0 rfl rfl d_W_law_226 d_W_law_227 d_W_law_229 d_W_law_230 d_W_law_231 ?_
    refine AW.arg X (pc := 232) (i := i) (j := 2) hX hL (by omega) (by decide) 4 0 rfl rfl d_W_law_232 d_W_law_233 d_W_law_235 d_W_law_236 d_W_law_237 ?_
    refine AW.if_eq X (pc := 238) 245 d_W_law_238 (by decide) (fun _ => ?_) (fun c => absurd hb c)
    refine AW.iconst X (pc := 245) (v := 0) (by decide) d_W_law_245 ?_
    refine AW.callV X (pc := 246) (b := 250) (ci := 5) (nA := 2) [.int (xs (i + 1)), .int (bi false)] [.int (bi (F_breaks μ nr (xs (i + 1)) false).1)] (c_M_breaks (kOf G ad (272 + 3 * nr)) μ nr (xs (i + 1)) false (F_breaks μ nr (xs (i + 1)) false).2 hN hI (hM.ke (ke_breaks μ nr (xs (i + 1)) false)) hVR) (gv_V wm_W_42 wi_M_breaks wl_M_breaks wn_M kw_M_breaks) rfl (by decide +kernel) rfl (by omega) rfl rfl ⟨Nat.le_of_ble_eq_true rfl, Nat.le_of_ble_eq_true rfl⟩ hf (Nat.le_of_ble_eq_true rfl) d_W_law_246 rfl (fun v μ2 hq => ?_)
    obtain ⟨rfl, rfl⟩ := hq
    show AW G room_1 7 (cells, slots, ad, 272 + 3 * nr, fb) 249 [(4, .int (nI i)), (3, .ref 271), (2, .ref 250), (1, .ref 0), (0, .ref (SB + 50))] [.int (bi (G_breaks μ (F_breaks μ nr (xs (i + 1)) false).2 nr (xs (i + 1)) false).1), .int (bi (F_breaks μ nr (xs (i + 1)) false).1)] ((G_breaks μ (F_breaks μ nr (xs (i + 1)) false).2 nr (xs (i + 1)) false).2)
    refine AW.icmp_eq X (pc := 249) 772 d_W_law_249 (by decide) (fun _ => ?_) (fun c => absurd (congrArg bi (st_breaks hV (xs (i + 1)) false).1) c)
    exact law_next X (st_breaks hV (xs (i + 1)) false).2 (by omega) (by omega) next
  · skip
    refine AW.aload_n X (pc := 201) 3 rfl rfl d_W_law_201 ?_
    refine AW.arg X (pc := 202) (i := i) (j := 1) hX hL (by omega) (by decide) 4 0 rfl rfl d_W_law_202 d_W_law_203 d_W_law_205 d_W_law_206 d_W_law_207 ?_
    refine AW.arg X (pc := 208) (i := i) (j := 2) hX hL (by omega) (by decide) 4 0 rfl rfl d_W_law_208 d_W_law_209 d_W_law_211 d_W_law_212 d_W_law_213 ?_
    refine AW.if_eq X (pc := 214) 221 d_W_law_214 (by decide) (fun c => absurd c hb) (fun _ => ?_)
    refine AW.iconst X (pc := 217) (v := 1) (by decide) d_W_law_217 ?_
    refine AW.goto X (pc := 218) 222 d_W_law_218 (by decide) ?_
    refine AW.callV X (pc := 222) (b := 0) (ci := 4) (nA := 2) [.int (xs (i + 1)), .int (bi true)] [] (c_C_breaks (kOf G ad (272 + 3 * nr)) nr (xs (i + 1)) true μ hN hI rfl) (gv_V wm_W_38 wi_C_breaks wl_C_breaks wn_C kw_C_breaks) rfl (by decide +kernel) rfl (by omega) rfl rfl ⟨Nat.le_of_ble_eq_true rfl, Nat.le_of_ble_eq_true rfl⟩ hf (Nat.le_of_ble_eq_true rfl) d_W_law_222 rfl (fun v μ2 hq => ?_)
    obtain ⟨rfl, rfl⟩ := hq
    show AW G room_1 7 (cells, slots, ad, 272 + 3 * nr, fb) 225 [(4, .int (nI i)), (3, .ref 271), (2, .ref 250), (1, .ref 0), (0, .ref (SB + 50))] [.int (bi (F_breaks μ nr (xs (i + 1)) true).1)] ((F_breaks μ nr (xs (i + 1)) true).2)
    refine AW.aload_n X (pc := 225) 2 rfl rfl d_W_law_225 ?_
    refine AW.arg X (pc := 226) (i := i) (j := 1) hX hL (by omega) (by decide) 4 0 rfl rfl d_W_law_226 d_W_law_227 d_W_law_229 d_W_law_230 d_W_law_231 ?_
    refine AW.arg X (pc := 232) (i := i) (j := 2) hX hL (by omega) (by decide) 4 0 rfl rfl d_W_law_232 d_W_law_233 d_W_law_235 d_W_law_236 d_W_law_237 ?_
    refine AW.if_eq X (pc := 238) 245 d_W_law_238 (by decide) (fun c => absurd c hb) (fun _ => ?_)
    refine AW.iconst X (pc := 241) (v := 1) (by decide) d_W_law_241 ?_
    refine AW.goto X (pc := 242) 246 d_W_law_242 (by decide) ?_
    refine AW.callV X (pc := 246) (b := 250) (ci := 5) (nA := 2) [.int (xs (i + 1)), .int (bi true)] [.int (bi (F_breaks μ nr (xs (i + 1)) true).1)] (c_M_breaks (kOf G ad (272 + 3 * nr)) μ nr (xs (i + 1)) true (F_breaks μ nr (xs (i + 1)) true).2 hN hI (hM.ke (ke_breaks μ nr (xs (i + 1)) true)) hVR) (gv_V wm_W_42 wi_M_breaks wl_M_breaks wn_M kw_M_breaks) rfl (by decide +kernel) rfl (by omega) rfl rfl ⟨Nat.le_of_ble_eq_true rfl, Nat.le_of_ble_eq_true rfl⟩ hf (Nat.le_of_ble_eq_true rfl) d_W_law_246 rfl (fun v μ2 hq => ?_)
    obtain ⟨rfl, rfl⟩ := hq
    show AW G room_1 7 (cells, slots, ad, 272 + 3 * nr, fb) 249 [(4, .int (nI i)), (3, .ref 271), (2, .ref 250), (1, .ref 0), (0, .ref (SB + 50))] [.int (bi (G_breaks μ (F_breaks μ nr (xs (i + 1)) true).2 nr (xs (i + 1)) true).1), .int (bi (F_breaks μ nr (xs (i + 1)) true).1)] ((G_breaks μ (F_breaks μ nr (xs (i + 1)) true).2 nr (xs (i + 1)) true).2)
    refine AW.icmp_eq X (pc := 249) 772 d_W_law_249 (by decide) (fun _ => ?_) (fun c => absurd (congrArg bi (st_breaks hV (xs (i + 1)) true).1) c)
    exact law_next X (st_breaks hV (xs (i + 1)) true).2 (by omega) (by omega) next
set_option maxHeartbeats 4000000 in
set_option maxRecDepth 100000 in
theorem law_4 {G : GTy} {L : Nat} {xs : Nat → Int32} (X : Cx G 7 b_W_law R_W GT) (hA0 : gA G) (hl : G.2.1.stackTraces = false) (hX : gX G L xs) (hL : L ≤ 2048) {i nr : Nat} {μ : Mu} {ad : Nat → Nat} {cells slots : Nat} (hi : i + 3 < L) (hV : INV μ nr) (hc : cells ≤ 272 + i) (hs : slots ≤ 3344 + 5 * i) (next : NX G i) : AW G room_1 7 (cells, slots, ad, 272 + 3 * nr, fb) 254 [(4, .int (nI i)), (3, .ref 271), (2, .ref 250), (1, .ref 0), (0, .ref (SB + 50))] [] μ := by
  obtain ⟨hC, hM⟩ := id hV
  have hI := hC.1
  have hVR := hC.2.1
  have hN : 272 ≤ 272 + 3 * nr := by omega
  have hf := rm_f hL hi hc hs
  refine AW.aload_n X (pc := 254) 3 rfl rfl d_W_law_254 ?_
  refine AW.arg X (pc := 255) (i := i) (j := 1) hX hL (by omega) (by decide) 4 0 rfl rfl d_W_law_255 d_W_law_256 d_W_law_258 d_W_law_259 d_W_law_260 ?_
  refine AW.arg X (pc := 261) (i := i) (j := 2) hX hL (by omega) (by decide) 4 0 rfl rfl d_W_law_261 d_W_law_262 d_W_law_264 d_W_law_265 d_W_law_266 ?_
  refine AW.arg X (pc := 267) (i := i) (j := 3) hX hL (by omega) (by decide) 4 0 rfl rfl d_W_law_267 d_W_law_268 d_W_law_270 d_W_law_271 d_W_law_272 ?_
  refine AW.callV X (pc := 273) (b := 0) (ci := 4) (nA := 3) [.int (xs (i + 1)), .int (xs (i + 2)), .int (xs (i + 3))] [] (c_C_event (kOf G ad (272 + 3 * nr)) nr (xs (i + 1)) (xs (i + 2)) (xs (i + 3)) μ hN hI rfl) (gv_V wm_W_43 wi_C_event wl_C_event wn_C kw_C_event) rfl (by decide +kernel) rfl (by omega) rfl rfl ⟨Nat.le_of_ble_eq_true rfl, Nat.le_of_ble_eq_true rfl⟩ hf (Nat.le_of_ble_eq_true rfl) d_W_law_273 rfl (fun v μ2 hq => ?_)
  obtain ⟨rfl, rfl⟩ := hq
  show AW G room_1 7 (cells, slots, ad, 272 + 3 * nr, fb) 276 [(4, .int (nI i)), (3, .ref 271), (2, .ref 250), (1, .ref 0), (0, .ref (SB + 50))] [.int (F_event μ (xs (i + 1)) (xs (i + 2)) (xs (i + 3))).1] ((F_event μ (xs (i + 1)) (xs (i + 2)) (xs (i + 3))).2)
  refine AW.aload_n X (pc := 276) 2 rfl rfl d_W_law_276 ?_
  refine AW.arg X (pc := 277) (i := i) (j := 1) hX hL (by omega) (by decide) 4 0 rfl rfl d_W_law_277 d_W_law_278 d_W_law_280 d_W_law_281 d_W_law_282 ?_
  refine AW.arg X (pc := 283) (i := i) (j := 2) hX hL (by omega) (by decide) 4 0 rfl rfl d_W_law_283 d_W_law_284 d_W_law_286 d_W_law_287 d_W_law_288 ?_
  refine AW.arg X (pc := 289) (i := i) (j := 3) hX hL (by omega) (by decide) 4 0 rfl rfl d_W_law_289 d_W_law_290 d_W_law_292 d_W_law_293 d_W_law_294 ?_
  refine AW.callV X (pc := 295) (b := 250) (ci := 5) (nA := 3) [.int (xs (i + 1)), .int (xs (i + 2)), .int (xs (i + 3))] [.int (F_event μ (xs (i + 1)) (xs (i + 2)) (xs (i + 3))).1] (c_M_event (kOf G ad (272 + 3 * nr)) μ nr (xs (i + 1)) (xs (i + 2)) (xs (i + 3)) (F_event μ (xs (i + 1)) (xs (i + 2)) (xs (i + 3))).2 hN hI (hM.ke (ke_event μ (xs (i + 1)) (xs (i + 2)) (xs (i + 3)))) hVR) (gv_V wm_W_46 wi_M_event wl_M_event wn_M kw_M_event) rfl (by decide +kernel) rfl (by omega) rfl rfl ⟨Nat.le_of_ble_eq_true rfl, Nat.le_of_ble_eq_true rfl⟩ hf (Nat.le_of_ble_eq_true rfl) d_W_law_295 rfl (fun v μ2 hq => ?_)
  obtain ⟨rfl, rfl⟩ := hq
  show AW G room_1 7 (cells, slots, ad, 272 + 3 * nr, fb) 298 [(4, .int (nI i)), (3, .ref 271), (2, .ref 250), (1, .ref 0), (0, .ref (SB + 50))] [.int (G_event μ (F_event μ (xs (i + 1)) (xs (i + 2)) (xs (i + 3))).2 (xs (i + 1)) (xs (i + 2)) (xs (i + 3))).1, .int (F_event μ (xs (i + 1)) (xs (i + 2)) (xs (i + 3))).1] ((G_event μ (F_event μ (xs (i + 1)) (xs (i + 2)) (xs (i + 3))).2 (xs (i + 1)) (xs (i + 2)) (xs (i + 3))).2)
  refine AW.icmp_eq X (pc := 298) 772 d_W_law_298 (by decide) (fun _ => ?_) (fun c => absurd (st_event hV (xs (i + 1)) (xs (i + 2)) (xs (i + 3))).1 c)
  exact law_next X (st_event hV (xs (i + 1)) (xs (i + 2)) (xs (i + 3))).2 (by omega) (by omega) next
set_option maxHeartbeats 4000000 in
set_option maxRecDepth 100000 in
theorem law_5 {G : GTy} {L : Nat} {xs : Nat → Int32} (X : Cx G 7 b_W_law R_W GT) (hA0 : gA G) (hl : G.2.1.stackTraces = false) (hX : gX G L xs) (hL : L ≤ 2048) {i nr : Nat} {μ : Mu} {ad : Nat → Nat} {cells slots : Nat} (hi : i + 3 < L) (hV : INV μ nr) (hc : cells ≤ 272 + i) (hs : slots ≤ 3344 + 5 * i) (next : NX G i) : AW G room_1 7 (cells, slots, ad, 272 + 3 * nr, fb) 303 [(4, .int (nI i)), (3, .ref 271), (2, .ref 250), (1, .ref 0), (0, .ref (SB + 50))] [] μ := by
  obtain ⟨hC, hM⟩ := id hV
  have hI := hC.1
  have hVR := hC.2.1
  have hN : 272 ≤ 272 + 3 * nr := by omega
  have hf := rm_f hL hi hc hs
  refine AW.aload_n X (pc := 303) 3 rfl rfl d_W_law_303 ?_
  refine AW.arg X (pc := 304) (i := i) (j := 1) hX hL (by omega) (by decide) 4 0 rfl rfl d_W_law_304 d_W_law_305 d_W_law_307 d_W_law_308 d_W_law_309 ?_
  refine AW.arg X (pc := 310) (i := i) (j := 2) hX hL (by omega) (by decide) 4 0 rfl rfl d_W_law_310 d_W_law_311 d_W_law_313 d_W_law_314 d_W_law_315 ?_
  refine AW.callV X (pc := 316) (b := 0) (ci := 4) (nA := 2) [.int (xs (i + 1)), .int (xs (i + 2))] [] (c_C_schedule (kOf G ad (272 + 3 * nr)) nr (xs (i + 1)) (xs (i + 2)) μ hN hI rfl) (gv_V wm_W_47 wi_C_schedule wl_C_schedule wn_C kw_C_schedule) rfl (by decide +kernel) rfl (by omega) rfl rfl ⟨Nat.le_of_ble_eq_true rfl, Nat.le_of_ble_eq_true rfl⟩ hf (Nat.le_of_ble_eq_true rfl) d_W_law_316 rfl (fun v μ2 hq => ?_)
  obtain ⟨rfl, rfl⟩ := hq
  show AW G room_1 7 (cells, slots, ad, 272 + 3 * nr, fb) 319 [(4, .int (nI i)), (3, .ref 271), (2, .ref 250), (1, .ref 0), (0, .ref (SB + 50))] [.int (F_schedule μ nr (xs (i + 1)) (xs (i + 2))).1] ((F_schedule μ nr (xs (i + 1)) (xs (i + 2))).2)
  refine AW.aload_n X (pc := 319) 2 rfl rfl d_W_law_319 ?_
  refine AW.arg X (pc := 320) (i := i) (j := 1) hX hL (by omega) (by decide) 4 0 rfl rfl d_W_law_320 d_W_law_321 d_W_law_323 d_W_law_324 d_W_law_325 ?_
  refine AW.arg X (pc := 326) (i := i) (j := 2) hX hL (by omega) (by decide) 4 0 rfl rfl d_W_law_326 d_W_law_327 d_W_law_329 d_W_law_330 d_W_law_331 ?_
  refine AW.callV X (pc := 332) (b := 250) (ci := 5) (nA := 2) [.int (xs (i + 1)), .int (xs (i + 2))] [.int (F_schedule μ nr (xs (i + 1)) (xs (i + 2))).1] (c_M_schedule (kOf G ad (272 + 3 * nr)) μ nr (xs (i + 1)) (xs (i + 2)) (F_schedule μ nr (xs (i + 1)) (xs (i + 2))).2 hN hI (hM.ke (ke_schedule μ nr (xs (i + 1)) (xs (i + 2)))) hVR) (gv_V wm_W_50 wi_M_schedule wl_M_schedule wn_M kw_M_schedule) rfl (by decide +kernel) rfl (by omega) rfl rfl ⟨Nat.le_of_ble_eq_true rfl, Nat.le_of_ble_eq_true rfl⟩ hf (Nat.le_of_ble_eq_true rfl) d_W_law_332 rfl (fun v μ2 hq => ?_)
  obtain ⟨rfl, rfl⟩ := hq
  show AW G room_1 7 (cells, slots, ad, 272 + 3 * nr, fb) 335 [(4, .int (nI i)), (3, .ref 271), (2, .ref 250), (1, .ref 0), (0, .ref (SB + 50))] [.int (G_schedule μ (F_schedule μ nr (xs (i + 1)) (xs (i + 2))).2 nr (xs (i + 1)) (xs (i + 2))).1, .int (F_schedule μ nr (xs (i + 1)) (xs (i + 2))).1] ((G_schedule μ (F_schedule μ nr (xs (i + 1)) (xs (i + 2))).2 nr (xs (i + 1)) (xs (i + 2))).2)
  refine AW.icmp_eq X (pc := 335) 772 d_W_law_335 (by decide) (fun _ => ?_) (fun c => absurd (st_schedule hV (xs (i + 1)) (xs (i + 2))).1 c)
  exact law_next X (st_schedule hV (xs (i + 1)) (xs (i + 2))).2 (by omega) (by omega) next
set_option maxHeartbeats 4000000 in
set_option maxRecDepth 100000 in
theorem law_6 {G : GTy} {L : Nat} {xs : Nat → Int32} (X : Cx G 7 b_W_law R_W GT) (hA0 : gA G) (hl : G.2.1.stackTraces = false) (hX : gX G L xs) (hL : L ≤ 2048) {i nr : Nat} {μ : Mu} {ad : Nat → Nat} {cells slots : Nat} (hi : i + 3 < L) (hV : INV μ nr) (hc : cells ≤ 272 + i) (hs : slots ≤ 3344 + 5 * i) (next : NX G i) : AW G room_1 7 (cells, slots, ad, 272 + 3 * nr, fb) 340 [(4, .int (nI i)), (3, .ref 271), (2, .ref 250), (1, .ref 0), (0, .ref (SB + 50))] [] μ := by
  obtain ⟨hC, hM⟩ := id hV
  have hI := hC.1
  have hVR := hC.2.1
  have hN : 272 ≤ 272 + 3 * nr := by omega
  have hf := rm_f hL hi hc hs
  refine AW.aload_n X (pc := 340) 3 rfl rfl d_W_law_340 ?_
  refine AW.arg X (pc := 341) (i := i) (j := 1) hX hL (by omega) (by decide) 4 0 rfl rfl d_W_law_341 d_W_law_342 d_W_law_344 d_W_law_345 d_W_law_346 ?_
  refine AW.arg X (pc := 347) (i := i) (j := 2) hX hL (by omega) (by decide) 4 0 rfl rfl d_W_law_347 d_W_law_348 d_W_law_350 d_W_law_351 d_W_law_352 ?_
  refine AW.arg X (pc := 353) (i := i) (j := 3) hX hL (by omega) (by decide) 4 0 rfl rfl d_W_law_353 d_W_law_354 d_W_law_356 d_W_law_357 d_W_law_358 ?_
  refine AW.callV X (pc := 359) (b := 0) (ci := 4) (nA := 3) [.int (xs (i + 1)), .int (xs (i + 2)), .int (xs (i + 3))] [] (c_C_hold (kOf G ad (272 + 3 * nr)) nr (xs (i + 1)) (xs (i + 2)) (xs (i + 3)) μ hN hI rfl) (gv_V wm_W_51 wi_C_hold wl_C_hold wn_C kw_C_hold) rfl (by decide +kernel) rfl (by omega) rfl rfl ⟨Nat.le_of_ble_eq_true rfl, Nat.le_of_ble_eq_true rfl⟩ hf (Nat.le_of_ble_eq_true rfl) d_W_law_359 rfl (fun v μ2 hq => ?_)
  obtain ⟨rfl, rfl⟩ := hq
  show AW G room_1 7 (cells, slots, ad, 272 + 3 * nr, fb) 362 [(4, .int (nI i)), (3, .ref 271), (2, .ref 250), (1, .ref 0), (0, .ref (SB + 50))] [.int (F_hold μ (xs (i + 1)) (xs (i + 2)) (xs (i + 3))).1] ((F_hold μ (xs (i + 1)) (xs (i + 2)) (xs (i + 3))).2)
  refine AW.aload_n X (pc := 362) 2 rfl rfl d_W_law_362 ?_
  refine AW.arg X (pc := 363) (i := i) (j := 1) hX hL (by omega) (by decide) 4 0 rfl rfl d_W_law_363 d_W_law_364 d_W_law_366 d_W_law_367 d_W_law_368 ?_
  refine AW.arg X (pc := 369) (i := i) (j := 2) hX hL (by omega) (by decide) 4 0 rfl rfl d_W_law_369 d_W_law_370 d_W_law_372 d_W_law_373 d_W_law_374 ?_
  refine AW.arg X (pc := 375) (i := i) (j := 3) hX hL (by omega) (by decide) 4 0 rfl rfl d_W_law_375 d_W_law_376 d_W_law_378 d_W_law_379 d_W_law_380 ?_
  refine AW.callV X (pc := 381) (b := 250) (ci := 5) (nA := 3) [.int (xs (i + 1)), .int (xs (i + 2)), .int (xs (i + 3))] [.int (F_hold μ (xs (i + 1)) (xs (i + 2)) (xs (i + 3))).1] (c_M_hold (kOf G ad (272 + 3 * nr)) μ nr (xs (i + 1)) (xs (i + 2)) (xs (i + 3)) (F_hold μ (xs (i + 1)) (xs (i + 2)) (xs (i + 3))).2 hN hI (hM.ke (ke_hold μ (xs (i + 1)) (xs (i + 2)) (xs (i + 3)))) hVR) (gv_V wm_W_54 wi_M_hold wl_M_hold wn_M kw_M_hold) rfl (by decide +kernel) rfl (by omega) rfl rfl ⟨Nat.le_of_ble_eq_true rfl, Nat.le_of_ble_eq_true rfl⟩ hf (Nat.le_of_ble_eq_true rfl) d_W_law_381 rfl (fun v μ2 hq => ?_)
  obtain ⟨rfl, rfl⟩ := hq
  show AW G room_1 7 (cells, slots, ad, 272 + 3 * nr, fb) 384 [(4, .int (nI i)), (3, .ref 271), (2, .ref 250), (1, .ref 0), (0, .ref (SB + 50))] [.int (G_hold (F_hold μ (xs (i + 1)) (xs (i + 2)) (xs (i + 3))).2 (xs (i + 1)) (xs (i + 2)) (xs (i + 3))).1, .int (F_hold μ (xs (i + 1)) (xs (i + 2)) (xs (i + 3))).1] ((G_hold (F_hold μ (xs (i + 1)) (xs (i + 2)) (xs (i + 3))).2 (xs (i + 1)) (xs (i + 2)) (xs (i + 3))).2)
  refine AW.icmp_eq X (pc := 384) 772 d_W_law_384 (by decide) (fun _ => ?_) (fun c => absurd (st_hold hV (xs (i + 1)) (xs (i + 2)) (xs (i + 3))).1 c)
  exact law_next X (st_hold hV (xs (i + 1)) (xs (i + 2)) (xs (i + 3))).2 (by omega) (by omega) next
set_option maxHeartbeats 4000000 in
set_option maxRecDepth 100000 in
theorem law_7 {G : GTy} {L : Nat} {xs : Nat → Int32} (X : Cx G 7 b_W_law R_W GT) (hA0 : gA G) (hl : G.2.1.stackTraces = false) (hX : gX G L xs) (hL : L ≤ 2048) {i nr : Nat} {μ : Mu} {ad : Nat → Nat} {cells slots : Nat} (hi : i + 3 < L) (hV : INV μ nr) (hc : cells ≤ 272 + i) (hs : slots ≤ 3344 + 5 * i) (next : NX G i) : AW G room_1 7 (cells, slots, ad, 272 + 3 * nr, fb) 389 [(4, .int (nI i)), (3, .ref 271), (2, .ref 250), (1, .ref 0), (0, .ref (SB + 50))] [] μ := by
  obtain ⟨hC, hM⟩ := id hV
  have hI := hC.1
  have hVR := hC.2.1
  have hN : 272 ≤ 272 + 3 * nr := by omega
  have hf := rm_f hL hi hc hs
  refine AW.aload_n X (pc := 389) 3 rfl rfl d_W_law_389 ?_
  refine AW.arg X (pc := 390) (i := i) (j := 1) hX hL (by omega) (by decide) 4 0 rfl rfl d_W_law_390 d_W_law_391 d_W_law_393 d_W_law_394 d_W_law_395 ?_
  refine AW.arg X (pc := 396) (i := i) (j := 2) hX hL (by omega) (by decide) 4 0 rfl rfl d_W_law_396 d_W_law_397 d_W_law_399 d_W_law_400 d_W_law_401 ?_
  refine AW.callV X (pc := 402) (b := 0) (ci := 4) (nA := 2) [.int (xs (i + 1)), .int (xs (i + 2))] [] (c_C_except (kOf G ad (272 + 3 * nr)) nr (xs (i + 1)) (xs (i + 2)) μ hN hI rfl) (gv_V wm_W_55 wi_C_except wl_C_except wn_C kw_C_except) rfl (by decide +kernel) rfl (by omega) rfl rfl ⟨Nat.le_of_ble_eq_true rfl, Nat.le_of_ble_eq_true rfl⟩ hf (Nat.le_of_ble_eq_true rfl) d_W_law_402 rfl (fun v μ2 hq => ?_)
  obtain ⟨rfl, rfl⟩ := hq
  show AW G room_1 7 (cells, slots, ad, 272 + 3 * nr, fb) 405 [(4, .int (nI i)), (3, .ref 271), (2, .ref 250), (1, .ref 0), (0, .ref (SB + 50))] [.int (F_except μ (xs (i + 1)) (xs (i + 2))).1] ((F_except μ (xs (i + 1)) (xs (i + 2))).2)
  refine AW.aload_n X (pc := 405) 2 rfl rfl d_W_law_405 ?_
  refine AW.arg X (pc := 406) (i := i) (j := 1) hX hL (by omega) (by decide) 4 0 rfl rfl d_W_law_406 d_W_law_407 d_W_law_409 d_W_law_410 d_W_law_411 ?_
  refine AW.arg X (pc := 412) (i := i) (j := 2) hX hL (by omega) (by decide) 4 0 rfl rfl d_W_law_412 d_W_law_413 d_W_law_415 d_W_law_416 d_W_law_417 ?_
  refine AW.callV X (pc := 418) (b := 250) (ci := 5) (nA := 2) [.int (xs (i + 1)), .int (xs (i + 2))] [.int (F_except μ (xs (i + 1)) (xs (i + 2))).1] (c_M_except (kOf G ad (272 + 3 * nr)) μ nr (xs (i + 1)) (xs (i + 2)) (F_except μ (xs (i + 1)) (xs (i + 2))).2 hN hI (hM.ke (ke_except μ (xs (i + 1)) (xs (i + 2)))) hVR) (gv_V wm_W_58 wi_M_except wl_M_except wn_M kw_M_except) rfl (by decide +kernel) rfl (by omega) rfl rfl ⟨Nat.le_of_ble_eq_true rfl, Nat.le_of_ble_eq_true rfl⟩ hf (Nat.le_of_ble_eq_true rfl) d_W_law_418 rfl (fun v μ2 hq => ?_)
  obtain ⟨rfl, rfl⟩ := hq
  show AW G room_1 7 (cells, slots, ad, 272 + 3 * nr, fb) 421 [(4, .int (nI i)), (3, .ref 271), (2, .ref 250), (1, .ref 0), (0, .ref (SB + 50))] [.int (G_except (F_except μ (xs (i + 1)) (xs (i + 2))).2 (xs (i + 1)) (xs (i + 2))).1, .int (F_except μ (xs (i + 1)) (xs (i + 2))).1] ((G_except (F_except μ (xs (i + 1)) (xs (i + 2))).2 (xs (i + 1)) (xs (i + 2))).2)
  refine AW.icmp_eq X (pc := 421) 772 d_W_law_421 (by decide) (fun _ => ?_) (fun c => absurd (st_except hV (xs (i + 1)) (xs (i + 2))).1 c)
  exact law_next X (st_except hV (xs (i + 1)) (xs (i + 2))).2 (by omega) (by omega) next
set_option maxHeartbeats 4000000 in
set_option maxRecDepth 100000 in
theorem law_8 {G : GTy} {L : Nat} {xs : Nat → Int32} (X : Cx G 7 b_W_law R_W GT) (hA0 : gA G) (hl : G.2.1.stackTraces = false) (hX : gX G L xs) (hL : L ≤ 2048) {i nr : Nat} {μ : Mu} {ad : Nat → Nat} {cells slots : Nat} (hi : i + 3 < L) (hV : INV μ nr) (hc : cells ≤ 272 + i) (hs : slots ≤ 3344 + 5 * i) (next : NX G i) : AW G room_1 7 (cells, slots, ad, 272 + 3 * nr, fb) 426 [(4, .int (nI i)), (3, .ref 271), (2, .ref 250), (1, .ref 0), (0, .ref (SB + 50))] [] μ := by
  obtain ⟨hC, hM⟩ := id hV
  have hI := hC.1
  have hVR := hC.2.1
  have hN : 272 ≤ 272 + 3 * nr := by omega
  have hf := rm_f hL hi hc hs
  refine AW.aload_n X (pc := 426) 3 rfl rfl d_W_law_426 ?_
  refine AW.arg X (pc := 427) (i := i) (j := 1) hX hL (by omega) (by decide) 4 0 rfl rfl d_W_law_427 d_W_law_428 d_W_law_430 d_W_law_431 d_W_law_432 ?_
  refine AW.arg X (pc := 433) (i := i) (j := 2) hX hL (by omega) (by decide) 4 0 rfl rfl d_W_law_433 d_W_law_434 d_W_law_436 d_W_law_437 d_W_law_438 ?_
  refine AW.callV X (pc := 439) (b := 0) (ci := 4) (nA := 2) [.int (xs (i + 1)), .int (xs (i + 2))] [] (c_C_day (kOf G ad (272 + 3 * nr)) nr (xs (i + 1)) (xs (i + 2)) μ hN hI rfl) (gv_V wm_W_59 wi_C_day wl_C_day wn_C kw_C_day) rfl (by decide +kernel) rfl (by omega) rfl rfl ⟨Nat.le_of_ble_eq_true rfl, Nat.le_of_ble_eq_true rfl⟩ hf (Nat.le_of_ble_eq_true rfl) d_W_law_439 rfl (fun v μ2 hq => ?_)
  obtain ⟨rfl, hm⟩ := hq
  rw [hm]
  clear hm
  show AW G room_1 7 (cells, slots, ad, 272 + 3 * nr, fb) 442 [(4, .int (nI i)), (3, .ref 271), (2, .ref 250), (1, .ref 0), (0, .ref (SB + 50))] [.int (F_day μ (xs (i + 1)) (xs (i + 2)))] (μ)
  refine AW.aload_n X (pc := 442) 2 rfl rfl d_W_law_442 ?_
  refine AW.arg X (pc := 443) (i := i) (j := 1) hX hL (by omega) (by decide) 4 0 rfl rfl d_W_law_443 d_W_law_444 d_W_law_446 d_W_law_447 d_W_law_448 ?_
  refine AW.arg X (pc := 449) (i := i) (j := 2) hX hL (by omega) (by decide) 4 0 rfl rfl d_W_law_449 d_W_law_450 d_W_law_452 d_W_law_453 d_W_law_454 ?_
  refine AW.callV X (pc := 455) (b := 250) (ci := 5) (nA := 2) [.int (xs (i + 1)), .int (xs (i + 2))] [.int (F_day μ (xs (i + 1)) (xs (i + 2)))] (c_M_day (kOf G ad (272 + 3 * nr)) μ nr (xs (i + 1)) (xs (i + 2)) μ hN hI hM hVR) (gv_V wm_W_62 wi_M_day wl_M_day wn_M kw_M_day) rfl (by decide +kernel) rfl (by omega) rfl rfl ⟨Nat.le_of_ble_eq_true rfl, Nat.le_of_ble_eq_true rfl⟩ hf (Nat.le_of_ble_eq_true rfl) d_W_law_455 rfl (fun v μ2 hq => ?_)
  obtain ⟨rfl, rfl⟩ := hq
  show AW G room_1 7 (cells, slots, ad, 272 + 3 * nr, fb) 458 [(4, .int (nI i)), (3, .ref 271), (2, .ref 250), (1, .ref 0), (0, .ref (SB + 50))] [.int (G_day μ (xs (i + 1)) (xs (i + 2))), .int (F_day μ (xs (i + 1)) (xs (i + 2)))] (m_up μ 250 0 0)
  refine AW.icmp_eq X (pc := 458) 772 d_W_law_458 (by decide) (fun _ => ?_) (fun c => absurd (st_day hV (xs (i + 1)) (xs (i + 2))) c)
  exact law_next X (hV.thr 0) (by omega) (by omega) next
set_option maxHeartbeats 4000000 in
set_option maxRecDepth 100000 in
theorem law_9 {G : GTy} {L : Nat} {xs : Nat → Int32} (X : Cx G 7 b_W_law R_W GT) (hA0 : gA G) (hl : G.2.1.stackTraces = false) (hX : gX G L xs) (hL : L ≤ 2048) {i nr : Nat} {μ : Mu} {ad : Nat → Nat} {cells slots : Nat} (hi : i + 3 < L) (hV : INV μ nr) (hc : cells ≤ 272 + i) (hs : slots ≤ 3344 + 5 * i) (next : NX G i) : AW G room_1 7 (cells, slots, ad, 272 + 3 * nr, fb) 463 [(4, .int (nI i)), (3, .ref 271), (2, .ref 250), (1, .ref 0), (0, .ref (SB + 50))] [] μ := by
  obtain ⟨hC, hM⟩ := id hV
  have hI := hC.1
  have hVR := hC.2.1
  have hN : 272 ≤ 272 + 3 * nr := by omega
  have hf := rm_f hL hi hc hs
  obtain ⟨n6, h6⟩ : ∃ n : Nat, n = 60 := ⟨_, rfl⟩
  refine AW.aload_n X (pc := 463) 3 rfl rfl d_W_law_463 ?_
  refine AW.arg X (pc := 464) (i := i) (j := 1) hX hL (by omega) (by decide) 4 0 rfl rfl d_W_law_464 d_W_law_465 d_W_law_467 d_W_law_468 d_W_law_469 ?_
  refine AW.callV X (pc := 470) (b := 0) (ci := 4) (nA := 1) [.int (xs (i + 1))] [] (c_C_due (kOf G ad (272 + 3 * nr)) nr n6 (xs (i + 1)) μ hN h6 hI rfl) (gv_V wm_W_63 wi_C_due wl_C_due wn_C kw_C_due) rfl (by decide +kernel) rfl (by omega) rfl rfl ⟨Nat.le_of_ble_eq_true rfl, Nat.le_of_ble_eq_true rfl⟩ hf (Nat.le_of_ble_eq_true rfl) d_W_law_470 rfl (fun v μ2 hq => ?_)
  by_cases hd : okD (xs (i + 1)) = false
  · rw [if_pos hd] at hq
    obtain ⟨rfl, hm⟩ := hq
    rw [hm]
    clear hm
    show AW G room_1 7 (cells, slots, ad, 272 + 3 * nr, fb) 473 [(4, .int (nI i)), (3, .ref 271), (2, .ref 250), (1, .ref 0), (0, .ref (SB + 50))] [.int (-2)] (μ)
    refine AW.aload_n X (pc := 473) 2 rfl rfl d_W_law_473 ?_
    refine AW.arg X (pc := 474) (i := i) (j := 1) hX hL (by omega) (by decide) 4 0 rfl rfl d_W_law_474 d_W_law_475 d_W_law_477 d_W_law_478 d_W_law_479 ?_
    refine AW.callV X (pc := 480) (b := 250) (ci := 5) (nA := 1) [.int (xs (i + 1))] [.int (-2)] (c_M_due (kOf G ad (272 + 3 * nr)) μ nr n6 (xs (i + 1)) (μ) hN h6 hI hM hVR) (gv_V wm_W_66 wi_M_due wl_M_due wn_M kw_M_due) rfl (by decide +kernel) rfl (by omega) rfl rfl ⟨Nat.le_of_ble_eq_true rfl, Nat.le_of_ble_eq_true rfl⟩ hf (Nat.le_of_ble_eq_true rfl) d_W_law_480 rfl (fun v μ2 hq => ?_)
    rw [if_pos hd] at hq
    obtain ⟨rfl, rfl⟩ := hq
    show AW G room_1 7 (cells, slots, ad, 272 + 3 * nr, fb) 483 [(4, .int (nI i)), (3, .ref 271), (2, .ref 250), (1, .ref 0), (0, .ref (SB + 50))] [.int (-2), .int (-2)] (m_up μ 250 0 0)
    refine AW.icmp_eq X (pc := 483) 772 d_W_law_483 (by decide) (fun _ => ?_) (fun c => absurd (rfl) c)
    exact law_next X (hV.thr 0) (by omega) (by omega) next
  · rw [if_neg hd] at hq
    obtain ⟨rfl, rfl⟩ := hq
    show AW G room_1 7 (cells, slots, ad, 272 + 3 * nr, fb) 473 [(4, .int (nI i)), (3, .ref 271), (2, .ref 250), (1, .ref 0), (0, .ref (SB + 50))] [.int (dueM μ (xs (i + 1)) n6 245 3)] (dueM μ (xs (i + 1)) n6)
    refine AW.aload_n X (pc := 473) 2 rfl rfl d_W_law_473 ?_
    refine AW.arg X (pc := 474) (i := i) (j := 1) hX hL (by omega) (by decide) 4 0 rfl rfl d_W_law_474 d_W_law_475 d_W_law_477 d_W_law_478 d_W_law_479 ?_
    refine AW.callV X (pc := 480) (b := 250) (ci := 5) (nA := 1) [.int (xs (i + 1))] [.int (dueM μ (xs (i + 1)) n6 245 3)] (c_M_due (kOf G ad (272 + 3 * nr)) μ nr n6 (xs (i + 1)) (dueM μ (xs (i + 1)) n6) hN h6 hI (hM.ke (ke_due μ (xs (i + 1)) n6)) hVR) (gv_V wm_W_66 wi_M_due wl_M_due wn_M kw_M_due) rfl (by decide +kernel) rfl (by omega) rfl rfl ⟨Nat.le_of_ble_eq_true rfl, Nat.le_of_ble_eq_true rfl⟩ hf (Nat.le_of_ble_eq_true rfl) d_W_law_480 rfl (fun v μ2 hq => ?_)
    rw [if_neg hd] at hq
    obtain ⟨rfl, rfl⟩ := hq
    show AW G room_1 7 (cells, slots, ad, 272 + 3 * nr, fb) 483 [(4, .int (nI i)), (3, .ref 271), (2, .ref 250), (1, .ref 0), (0, .ref (SB + 50))] [.int (nI (dueG μ (dueM μ (xs (i + 1)) n6) (xs (i + 1)) n6).2), .int (dueM μ (xs (i + 1)) n6 245 3)] ((dueG μ (dueM μ (xs (i + 1)) n6) (xs (i + 1)) n6).1)
    refine AW.icmp_eq X (pc := 483) 772 d_W_law_483 (by decide) (fun _ => ?_) (fun c => absurd ((st_due hV (xs (i + 1)) h6).1) c)
    exact law_next X ((st_due hV (xs (i + 1)) h6).2) (by omega) (by omega) next
set_option maxHeartbeats 4000000 in
set_option maxRecDepth 100000 in
theorem law_10 {G : GTy} {L : Nat} {xs : Nat → Int32} (X : Cx G 7 b_W_law R_W GT) (hA0 : gA G) (hl : G.2.1.stackTraces = false) (hX : gX G L xs) (hL : L ≤ 2048) {i nr : Nat} {μ : Mu} {ad : Nat → Nat} {cells slots : Nat} (hi : i + 3 < L) (hV : INV μ nr) (hc : cells ≤ 272 + i) (hs : slots ≤ 3344 + 5 * i) (next : NX G i) : AW G room_1 7 (cells, slots, ad, 272 + 3 * nr, fb) 488 [(4, .int (nI i)), (3, .ref 271), (2, .ref 250), (1, .ref 0), (0, .ref (SB + 50))] [] μ := by
  obtain ⟨hC, hM⟩ := id hV
  have hI := hC.1
  have hVR := hC.2.1
  have hN : 272 ≤ 272 + 3 * nr := by omega
  have hf := rm_f hL hi hc hs
  have hf2 : cells + 1 ≤ room_1.cells ∧ slots + 6 ≤ room_1.slots := by
    show cells + 1 ≤ 601024 ∧ slots + 6 ≤ 7293034
    omega
  have hnr := hI.nr
  refine AW.aload_n X (pc := 488) 3 rfl rfl d_W_law_488 ?_
  refine AW.arg X (pc := 489) (i := i) (j := 1) hX hL (by omega) (by decide) 4 0 rfl rfl d_W_law_489 d_W_law_490 d_W_law_492 d_W_law_493 d_W_law_494 ?_
  refine AW.arg X (pc := 495) (i := i) (j := 2) hX hL (by omega) (by decide) 4 0 rfl rfl d_W_law_495 d_W_law_496 d_W_law_498 d_W_law_499 d_W_law_500 ?_
  refine AW.aload_n X (pc := 501) 1 rfl rfl d_W_law_501 ?_
  refine AW.callSW X hA0 (pc := 502) (nA := 4) [.ref 0, .int (xs (i + 1)), .int (xs (i + 2)), .ref 271] [] (c_W_at (kOf G ad (272 + 3 * nr)) nr (272 + 3 * nr) (xs (i + 1)) (xs (i + 2)) μ rfl ⟨hN, show 272 + 3 * nr < 1000000 by omega⟩ hl hI) (gv_S2 wm_W_67 ws_W_at wn_W kw_W_at) rfl (by decide +kernel) rfl ⟨Nat.le_of_ble_eq_true rfl, Nat.le_of_ble_eq_true rfl⟩ hf2 (Nat.le_of_ble_eq_true rfl) (lv_ok hN) (fun _ h => nomatch h) d_W_law_502 rfl (fun v μ2 β2 ad2 N2 hq had => ?_)
  cases hB : atC μ (xs (i + 1)) (xs (i + 2)) with
  | false =>
    rw [if_pos hB] at hq
    obtain ⟨rfl, hm, rfl, rfl⟩ := hq
    rw [hm]
    clear hm
    show AW G room_1 7 (cells + 1, slots + 6, ad2, 272 + 3 * nr, fb) 505 [(4, .int (nI i)), (3, .ref 271), (2, .ref 250), (1, .ref 0), (0, .ref (SB + 50))] [.int 1] (μ)
    refine AW.istore X (pc := 505) (lv2 := [(5, .int 1), (4, .int (nI i)), (3, .ref 271), (2, .ref 250), (1, .ref 0), (0, .ref (SB + 50))]) d_W_law_505 (by decide) rfl ?_
    refine AW.aload_n X (pc := 507) 3 rfl rfl d_W_law_507 ?_
    refine AW.arg X (pc := 508) (i := i) (j := 1) hX hL (by omega) (by decide) 5 1 rfl rfl d_W_law_508 d_W_law_509 d_W_law_511 d_W_law_512 d_W_law_513 ?_
    refine AW.arg X (pc := 514) (i := i) (j := 2) hX hL (by omega) (by decide) 5 1 rfl rfl d_W_law_514 d_W_law_515 d_W_law_517 d_W_law_518 d_W_law_519 ?_
    refine AW.callV X (pc := 520) (b := 250) (ci := 5) (nA := 2) [.int (xs (i + 1)), .int (xs (i + 2))] [] (c_M_at (kOf G ad2 (272 + 3 * nr)) μ nr (xs (i + 1)) (xs (i + 2)) (μ) hN hI hM hVR) (gv_V wm_W_72 wi_M_at wl_M_at wn_M kw_M_at) rfl (by decide +kernel) rfl (by omega) rfl rfl ⟨Nat.le_of_ble_eq_true rfl, Nat.le_of_ble_eq_true rfl⟩ hf2 (Nat.le_of_ble_eq_true rfl) d_W_law_520 rfl (fun v μ2 hq => ?_)
    rw [st_at0 hV (xs (i + 1)) (xs (i + 2)) hB] at hq
    obtain ⟨rfl, rfl⟩ := hq
    show AW G room_1 7 (cells + 1, slots + 6, ad2, 272 + 3 * nr, fb) 523 [(5, .int 1), (4, .int (nI i)), (3, .ref 271), (2, .ref 250), (1, .ref 0), (0, .ref (SB + 50))] [.int 0] (m_up μ 250 0 1)
    refine AW.istore X (pc := 523) (lv2 := [(6, .int 0), (5, .int 1), (4, .int (nI i)), (3, .ref 271), (2, .ref 250), (1, .ref 0), (0, .ref (SB + 50))]) d_W_law_523 (by decide) rfl ?_
    refine AW.aload_n X (pc := 525) 4 rfl rfl d_W_law_525 ?_
    refine AW.callV X (pc := 526) (b := 250) (ci := 5) (nA := 0) [] [] (c_M_thrown (kOf G ad2 (272 + 3 * nr)) (m_up μ 250 0 1) hN) (gv_V wm_W_73 wi_M_thrown wl_M_thrown wn_M kw_M_thrown) rfl (by decide +kernel) rfl (by omega) rfl rfl ⟨Nat.le_of_ble_eq_true rfl, Nat.le_of_ble_eq_true rfl⟩ hf2 (Nat.le_of_ble_eq_true rfl) d_W_law_526 rfl (fun v μ2 hq => ?_)
    rw [m_up_self] at hq
    obtain ⟨rfl, rfl⟩ := hq
    show AW G room_1 7 (cells + 1, slots + 6, ad2, 272 + 3 * nr, fb) 529 [(6, .int 0), (5, .int 1), (4, .int (nI i)), (3, .ref 271), (2, .ref 250), (1, .ref 0), (0, .ref (SB + 50))] [.int 1] (m_up μ 250 0 1)
    refine AW.iload X (pc := 529) 1 rfl d_W_law_529 ?_
    refine AW.icmp_eq X (pc := 531) 536 d_W_law_531 (by decide) (fun _ => ?_) (fun c => absurd rfl c)
    refine AW.iload X (pc := 536) 1 rfl d_W_law_536 ?_
    refine AW.if_ne X (pc := 538) 553 d_W_law_538 (by decide) (fun _ => ?_) (fun c => absurd c (by decide))
    refine AW.goto X (pc := 553) 772 d_W_law_553 (by decide) ?_
    refine AW.locs [2, 3, 4, 5, 6] rfl ?_
    exact law_next X (hV.thr 1) (by omega) (by omega) next
  | true =>
    rw [if_neg (by rw [hB]; exact b_tf)] at hq
    obtain ⟨rfl, hm, rfl, rfl⟩ := hq
    rw [hm]
    clear hm
    show AW G room_1 7 (cells + 1, slots + 6, ad2, 272 + 3 * nr, fb) 505 [(4, .int (nI i)), (3, .ref 271), (2, .ref 250), (1, .ref 0), (0, .ref (SB + 50))] [.int 0] (m_up μ 271 0 (f_told μ (xs (i + 1)).toNatClampNeg (xs (i + 2))))
    refine AW.istore X (pc := 505) (lv2 := [(5, .int 0), (4, .int (nI i)), (3, .ref 271), (2, .ref 250), (1, .ref 0), (0, .ref (SB + 50))]) d_W_law_505 (by decide) rfl ?_
    refine AW.aload_n X (pc := 507) 3 rfl rfl d_W_law_507 ?_
    refine AW.arg X (pc := 508) (i := i) (j := 1) hX hL (by omega) (by decide) 5 1 rfl rfl d_W_law_508 d_W_law_509 d_W_law_511 d_W_law_512 d_W_law_513 ?_
    refine AW.arg X (pc := 514) (i := i) (j := 2) hX hL (by omega) (by decide) 5 1 rfl rfl d_W_law_514 d_W_law_515 d_W_law_517 d_W_law_518 d_W_law_519 ?_
    refine AW.callV X (pc := 520) (b := 250) (ci := 5) (nA := 2) [.int (xs (i + 1)), .int (xs (i + 2))] [] (c_M_at (kOf G ad2 (272 + 3 * nr)) μ nr (xs (i + 1)) (xs (i + 2)) (m_up μ 271 0 (f_told μ (xs (i + 1)).toNatClampNeg (xs (i + 2)))) hN hI (hM.out (f_told μ (xs (i + 1)).toNatClampNeg (xs (i + 2)))) hVR) (gv_V wm_W_72 wi_M_at wl_M_at wn_M kw_M_at) rfl (by decide +kernel) rfl (by omega) rfl rfl ⟨Nat.le_of_ble_eq_true rfl, Nat.le_of_ble_eq_true rfl⟩ hf2 (Nat.le_of_ble_eq_true rfl) d_W_law_520 rfl (fun v μ2 hq => ?_)
    rw [st_at hV (xs (i + 1)) (xs (i + 2)) _ hB] at hq
    obtain ⟨rfl, rfl⟩ := hq
    show AW G room_1 7 (cells + 1, slots + 6, ad2, 272 + 3 * nr, fb) 523 [(5, .int 0), (4, .int (nI i)), (3, .ref 271), (2, .ref 250), (1, .ref 0), (0, .ref (SB + 50))] [.int (f_told μ (xs (i + 1)).toNatClampNeg (xs (i + 2)))] (m_up (m_up μ 271 0 (f_told μ (xs (i + 1)).toNatClampNeg (xs (i + 2)))) 250 0 0)
    refine AW.istore X (pc := 523) (lv2 := [(6, .int (f_told μ (xs (i + 1)).toNatClampNeg (xs (i + 2)))), (5, .int 0), (4, .int (nI i)), (3, .ref 271), (2, .ref 250), (1, .ref 0), (0, .ref (SB + 50))]) d_W_law_523 (by decide) rfl ?_
    refine AW.aload_n X (pc := 525) 4 rfl rfl d_W_law_525 ?_
    refine AW.callV X (pc := 526) (b := 250) (ci := 5) (nA := 0) [] [] (c_M_thrown (kOf G ad2 (272 + 3 * nr)) (m_up (m_up μ 271 0 (f_told μ (xs (i + 1)).toNatClampNeg (xs (i + 2)))) 250 0 0) hN) (gv_V wm_W_73 wi_M_thrown wl_M_thrown wn_M kw_M_thrown) rfl (by decide +kernel) rfl (by omega) rfl rfl ⟨Nat.le_of_ble_eq_true rfl, Nat.le_of_ble_eq_true rfl⟩ hf2 (Nat.le_of_ble_eq_true rfl) d_W_law_526 rfl (fun v μ2 hq => ?_)
    rw [m_up_self] at hq
    obtain ⟨rfl, rfl⟩ := hq
    show AW G room_1 7 (cells + 1, slots + 6, ad2, 272 + 3 * nr, fb) 529 [(6, .int (f_told μ (xs (i + 1)).toNatClampNeg (xs (i + 2)))), (5, .int 0), (4, .int (nI i)), (3, .ref 271), (2, .ref 250), (1, .ref 0), (0, .ref (SB + 50))] [.int 0] (m_up (m_up μ 271 0 (f_told μ (xs (i + 1)).toNatClampNeg (xs (i + 2)))) 250 0 0)
    refine AW.iload X (pc := 529) 1 rfl d_W_law_529 ?_
    refine AW.icmp_eq X (pc := 531) 536 d_W_law_531 (by decide) (fun _ => ?_) (fun c => absurd rfl c)
    refine AW.iload X (pc := 536) 1 rfl d_W_law_536 ?_
    refine AW.if_ne X (pc := 538) 553 d_W_law_538 (by decide) (fun c => absurd rfl c) (fun _ => ?_)
    refine AW.aload_n X (pc := 541) 3 rfl rfl d_W_law_541 ?_
    refine AW.iconst X (pc := 542) (v := 0) (by decide) d_W_law_542 ?_
    refine AW.lald X (pc := 543) (k := 271) (t := 1) (n := 1) (i := 0) (by omega) rfl rfl (vp_in_nI (n := 0) (by decide) (by decide)) d_W_law_543 ?_
    refine AW.val (w := .long (f_told μ (xs (i + 1)).toNatClampNeg (xs (i + 2))).toInt64) (congrArg (fun x : Int32 => Value.long x.toInt64) ((m_up_ne (by omega)).trans (m_up_self _ _ _ _))) ?_
    refine AW.iload X (pc := 544) 0 rfl d_W_law_544 ?_
    refine AW.i2l X (pc := 546) d_W_law_546 ?_
    refine AW.lcmp X (pc := 547) d_W_law_547 ?_
    refine AW.if_eq X (pc := 548) 553 d_W_law_548 (by decide) (fun _ => ?_) (fun c => absurd ((lg_eq _ _).mpr rfl) c)
    refine AW.goto X (pc := 553) 772 d_W_law_553 (by decide) ?_
    refine AW.locs [2, 3, 4, 5, 6] rfl ?_
    exact law_next X ((hV.out (f_told μ (xs (i + 1)).toNatClampNeg (xs (i + 2)))).thr 0) (by omega) (by omega) next
set_option maxHeartbeats 4000000 in
set_option maxRecDepth 100000 in
theorem law_11 {G : GTy} {L : Nat} {xs : Nat → Int32} (X : Cx G 7 b_W_law R_W GT) (hA0 : gA G) (hl : G.2.1.stackTraces = false) (hX : gX G L xs) (hL : L ≤ 2048) {i nr : Nat} {μ : Mu} {ad : Nat → Nat} {cells slots : Nat} (hi : i + 3 < L) (hV : INV μ nr) (hc : cells ≤ 272 + i) (hs : slots ≤ 3344 + 5 * i) (next : NX G i) : AW G room_1 7 (cells, slots, ad, 272 + 3 * nr, fb) 556 [(4, .int (nI i)), (3, .ref 271), (2, .ref 250), (1, .ref 0), (0, .ref (SB + 50))] [] μ := by
  obtain ⟨hC, hM⟩ := id hV
  have hI := hC.1
  have hVR := hC.2.1
  have hN : 272 ≤ 272 + 3 * nr := by omega
  have hf := rm_f hL hi hc hs
  refine AW.aload_n X (pc := 556) 3 rfl rfl d_W_law_556 ?_
  refine AW.arg X (pc := 557) (i := i) (j := 1) hX hL (by omega) (by decide) 4 0 rfl rfl d_W_law_557 d_W_law_558 d_W_law_560 d_W_law_561 d_W_law_562 ?_
  refine AW.arg X (pc := 563) (i := i) (j := 2) hX hL (by omega) (by decide) 4 0 rfl rfl d_W_law_563 d_W_law_564 d_W_law_566 d_W_law_567 d_W_law_568 ?_
  refine AW.callV X (pc := 569) (b := 0) (ci := 4) (nA := 2) [.int (xs (i + 1)), .int (xs (i + 2))] [] (c_C_approve (kOf G ad (272 + 3 * nr)) nr (xs (i + 1)) (xs (i + 2)) μ hN hI rfl) (gv_V wm_W_76 wi_C_approve wl_C_approve wn_C kw_C_approve) rfl (by decide +kernel) rfl (by omega) rfl rfl ⟨Nat.le_of_ble_eq_true rfl, Nat.le_of_ble_eq_true rfl⟩ hf (Nat.le_of_ble_eq_true rfl) d_W_law_569 rfl (fun v μ2 hq => ?_)
  obtain ⟨rfl, rfl⟩ := hq
  show AW G room_1 7 (cells, slots, ad, 272 + 3 * nr, fb) 572 [(4, .int (nI i)), (3, .ref 271), (2, .ref 250), (1, .ref 0), (0, .ref (SB + 50))] [.int (F_approve μ (xs (i + 1)) (xs (i + 2))).1] ((F_approve μ (xs (i + 1)) (xs (i + 2))).2)
  refine AW.aload_n X (pc := 572) 2 rfl rfl d_W_law_572 ?_
  refine AW.arg X (pc := 573) (i := i) (j := 1) hX hL (by omega) (by decide) 4 0 rfl rfl d_W_law_573 d_W_law_574 d_W_law_576 d_W_law_577 d_W_law_578 ?_
  refine AW.arg X (pc := 579) (i := i) (j := 2) hX hL (by omega) (by decide) 4 0 rfl rfl d_W_law_579 d_W_law_580 d_W_law_582 d_W_law_583 d_W_law_584 ?_
  refine AW.callV X (pc := 585) (b := 250) (ci := 5) (nA := 2) [.int (xs (i + 1)), .int (xs (i + 2))] [.int (F_approve μ (xs (i + 1)) (xs (i + 2))).1] (c_M_approve (kOf G ad (272 + 3 * nr)) μ nr (xs (i + 1)) (xs (i + 2)) (F_approve μ (xs (i + 1)) (xs (i + 2))).2 hN hI (hM.ke (ke_approve μ (xs (i + 1)) (xs (i + 2)))) hVR) (gv_V wm_W_79 wi_M_approve wl_M_approve wn_M kw_M_approve) rfl (by decide +kernel) rfl (by omega) rfl rfl ⟨Nat.le_of_ble_eq_true rfl, Nat.le_of_ble_eq_true rfl⟩ hf (Nat.le_of_ble_eq_true rfl) d_W_law_585 rfl (fun v μ2 hq => ?_)
  obtain ⟨rfl, rfl⟩ := hq
  show AW G room_1 7 (cells, slots, ad, 272 + 3 * nr, fb) 588 [(4, .int (nI i)), (3, .ref 271), (2, .ref 250), (1, .ref 0), (0, .ref (SB + 50))] [.int (G_approve μ (F_approve μ (xs (i + 1)) (xs (i + 2))).2 (xs (i + 1)) (xs (i + 2))).1, .int (F_approve μ (xs (i + 1)) (xs (i + 2))).1] ((G_approve μ (F_approve μ (xs (i + 1)) (xs (i + 2))).2 (xs (i + 1)) (xs (i + 2))).2)
  refine AW.icmp_eq X (pc := 588) 772 d_W_law_588 (by decide) (fun _ => ?_) (fun c => absurd (st_approve hV (xs (i + 1)) (xs (i + 2))).1 c)
  exact law_next X (st_approve hV (xs (i + 1)) (xs (i + 2))).2 (by omega) (by omega) next
set_option maxHeartbeats 4000000 in
set_option maxRecDepth 100000 in
theorem law_12 {G : GTy} {L : Nat} {xs : Nat → Int32} (X : Cx G 7 b_W_law R_W GT) (hA0 : gA G) (hl : G.2.1.stackTraces = false) (hX : gX G L xs) (hL : L ≤ 2048) {i nr : Nat} {μ : Mu} {ad : Nat → Nat} {cells slots : Nat} (hi : i + 3 < L) (hV : INV μ nr) (hc : cells ≤ 272 + i) (hs : slots ≤ 3344 + 5 * i) (next : NX G i) : AW G room_1 7 (cells, slots, ad, 272 + 3 * nr, fb) 593 [(4, .int (nI i)), (3, .ref 271), (2, .ref 250), (1, .ref 0), (0, .ref (SB + 50))] [] μ := by
  obtain ⟨hC, hM⟩ := id hV
  have hI := hC.1
  have hVR := hC.2.1
  have hN : 272 ≤ 272 + 3 * nr := by omega
  have hf := rm_f hL hi hc hs
  refine AW.aload_n X (pc := 593) 3 rfl rfl d_W_law_593 ?_
  refine AW.arg X (pc := 594) (i := i) (j := 1) hX hL (by omega) (by decide) 4 0 rfl rfl d_W_law_594 d_W_law_595 d_W_law_597 d_W_law_598 d_W_law_599 ?_
  refine AW.arg X (pc := 600) (i := i) (j := 2) hX hL (by omega) (by decide) 4 0 rfl rfl d_W_law_600 d_W_law_601 d_W_law_603 d_W_law_604 d_W_law_605 ?_
  refine AW.arg X (pc := 606) (i := i) (j := 3) hX hL (by omega) (by decide) 4 0 rfl rfl d_W_law_606 d_W_law_607 d_W_law_609 d_W_law_610 d_W_law_611 ?_
  refine AW.callV X (pc := 612) (b := 0) (ci := 4) (nA := 3) [.int (xs (i + 1)), .int (xs (i + 2)), .int (xs (i + 3))] [] (c_C_dispose (kOf G ad (272 + 3 * nr)) nr (xs (i + 1)) (xs (i + 2)) (xs (i + 3)) μ hN hI rfl) (gv_V wm_W_80 wi_C_dispose wl_C_dispose wn_C kw_C_dispose) rfl (by decide +kernel) rfl (by omega) rfl rfl ⟨Nat.le_of_ble_eq_true rfl, Nat.le_of_ble_eq_true rfl⟩ hf (Nat.le_of_ble_eq_true rfl) d_W_law_612 rfl (fun v μ2 hq => ?_)
  obtain ⟨rfl, rfl⟩ := hq
  show AW G room_1 7 (cells, slots, ad, 272 + 3 * nr, fb) 615 [(4, .int (nI i)), (3, .ref 271), (2, .ref 250), (1, .ref 0), (0, .ref (SB + 50))] [.int (F_dispose μ (xs (i + 1)) (xs (i + 2)) (xs (i + 3))).1] ((F_dispose μ (xs (i + 1)) (xs (i + 2)) (xs (i + 3))).2)
  refine AW.aload_n X (pc := 615) 2 rfl rfl d_W_law_615 ?_
  refine AW.arg X (pc := 616) (i := i) (j := 1) hX hL (by omega) (by decide) 4 0 rfl rfl d_W_law_616 d_W_law_617 d_W_law_619 d_W_law_620 d_W_law_621 ?_
  refine AW.arg X (pc := 622) (i := i) (j := 2) hX hL (by omega) (by decide) 4 0 rfl rfl d_W_law_622 d_W_law_623 d_W_law_625 d_W_law_626 d_W_law_627 ?_
  refine AW.arg X (pc := 628) (i := i) (j := 3) hX hL (by omega) (by decide) 4 0 rfl rfl d_W_law_628 d_W_law_629 d_W_law_631 d_W_law_632 d_W_law_633 ?_
  refine AW.callV X (pc := 634) (b := 250) (ci := 5) (nA := 3) [.int (xs (i + 1)), .int (xs (i + 2)), .int (xs (i + 3))] [.int (F_dispose μ (xs (i + 1)) (xs (i + 2)) (xs (i + 3))).1] (c_M_dispose (kOf G ad (272 + 3 * nr)) μ nr (xs (i + 1)) (xs (i + 2)) (xs (i + 3)) (F_dispose μ (xs (i + 1)) (xs (i + 2)) (xs (i + 3))).2 hN hI (hM.ke (ke_dispose (xs (i + 1)) (xs (i + 2)) (xs (i + 3)))) hVR hV.hg) (gv_V wm_W_83 wi_M_dispose wl_M_dispose wn_M kw_M_dispose) rfl (by decide +kernel) rfl (by omega) rfl rfl ⟨Nat.le_of_ble_eq_true rfl, Nat.le_of_ble_eq_true rfl⟩ hf (Nat.le_of_ble_eq_true rfl) d_W_law_634 rfl (fun v μ2 hq => ?_)
  obtain ⟨rfl, rfl⟩ := hq
  show AW G room_1 7 (cells, slots, ad, 272 + 3 * nr, fb) 637 [(4, .int (nI i)), (3, .ref 271), (2, .ref 250), (1, .ref 0), (0, .ref (SB + 50))] [.int (G_dispose μ (F_dispose μ (xs (i + 1)) (xs (i + 2)) (xs (i + 3))).2 (xs (i + 1)) (xs (i + 2)) (xs (i + 3))).1, .int (F_dispose μ (xs (i + 1)) (xs (i + 2)) (xs (i + 3))).1] ((G_dispose μ (F_dispose μ (xs (i + 1)) (xs (i + 2)) (xs (i + 3))).2 (xs (i + 1)) (xs (i + 2)) (xs (i + 3))).2)
  refine AW.icmp_eq X (pc := 637) 772 d_W_law_637 (by decide) (fun _ => ?_) (fun c => absurd (st_dispose hV (xs (i + 1)) (xs (i + 2)) (xs (i + 3))).1 c)
  exact law_next X (st_dispose hV (xs (i + 1)) (xs (i + 2)) (xs (i + 3))).2 (by omega) (by omega) next
set_option maxHeartbeats 4000000 in
set_option maxRecDepth 100000 in
theorem law_13 {G : GTy} {L : Nat} {xs : Nat → Int32} (X : Cx G 7 b_W_law R_W GT) (hA0 : gA G) (hl : G.2.1.stackTraces = false) (hX : gX G L xs) (hL : L ≤ 2048) {i nr : Nat} {μ : Mu} {ad : Nat → Nat} {cells slots : Nat} (hi : i + 3 < L) (hV : INV μ nr) (hc : cells ≤ 272 + i) (hs : slots ≤ 3344 + 5 * i) (next : NX G i) : AW G room_1 7 (cells, slots, ad, 272 + 3 * nr, fb) 642 [(4, .int (nI i)), (3, .ref 271), (2, .ref 250), (1, .ref 0), (0, .ref (SB + 50))] [] μ := by
  obtain ⟨hC, hM⟩ := id hV
  have hI := hC.1
  have hVR := hC.2.1
  have hN : 272 ≤ 272 + 3 * nr := by omega
  have hf := rm_f hL hi hc hs
  refine AW.aload_n X (pc := 642) 3 rfl rfl d_W_law_642 ?_
  refine AW.arg X (pc := 643) (i := i) (j := 1) hX hL (by omega) (by decide) 4 0 rfl rfl d_W_law_643 d_W_law_644 d_W_law_646 d_W_law_647 d_W_law_648 ?_
  refine AW.arg X (pc := 649) (i := i) (j := 2) hX hL (by omega) (by decide) 4 0 rfl rfl d_W_law_649 d_W_law_650 d_W_law_652 d_W_law_653 d_W_law_654 ?_
  refine AW.callV X (pc := 655) (b := 0) (ci := 4) (nA := 2) [.int (xs (i + 1)), .int (xs (i + 2))] [] (c_C_certificate (kOf G ad (272 + 3 * nr)) nr (xs (i + 1)) (xs (i + 2)) μ hN hI rfl) (gv_V wm_W_84 wi_C_certificate wl_C_certificate wn_C kw_C_certificate) rfl (by decide +kernel) rfl (by omega) rfl rfl ⟨Nat.le_of_ble_eq_true rfl, Nat.le_of_ble_eq_true rfl⟩ hf (Nat.le_of_ble_eq_true rfl) d_W_law_655 rfl (fun v μ2 hq => ?_)
  obtain ⟨rfl, rfl⟩ := hq
  show AW G room_1 7 (cells, slots, ad, 272 + 3 * nr, fb) 658 [(4, .int (nI i)), (3, .ref 271), (2, .ref 250), (1, .ref 0), (0, .ref (SB + 50))] [.int (F_certificate μ (xs (i + 1)) (xs (i + 2))).1] ((F_certificate μ (xs (i + 1)) (xs (i + 2))).2)
  refine AW.aload_n X (pc := 658) 2 rfl rfl d_W_law_658 ?_
  refine AW.arg X (pc := 659) (i := i) (j := 1) hX hL (by omega) (by decide) 4 0 rfl rfl d_W_law_659 d_W_law_660 d_W_law_662 d_W_law_663 d_W_law_664 ?_
  refine AW.arg X (pc := 665) (i := i) (j := 2) hX hL (by omega) (by decide) 4 0 rfl rfl d_W_law_665 d_W_law_666 d_W_law_668 d_W_law_669 d_W_law_670 ?_
  refine AW.callV X (pc := 671) (b := 250) (ci := 5) (nA := 2) [.int (xs (i + 1)), .int (xs (i + 2))] [.int (F_certificate μ (xs (i + 1)) (xs (i + 2))).1] (c_M_certificate (kOf G ad (272 + 3 * nr)) μ nr (xs (i + 1)) (xs (i + 2)) (F_certificate μ (xs (i + 1)) (xs (i + 2))).2 hN hI (hM.ke (ke_certificate μ (xs (i + 1)) (xs (i + 2)))) hVR) (gv_V wm_W_87 wi_M_certificate wl_M_certificate wn_M kw_M_certificate) rfl (by decide +kernel) rfl (by omega) rfl rfl ⟨Nat.le_of_ble_eq_true rfl, Nat.le_of_ble_eq_true rfl⟩ hf (Nat.le_of_ble_eq_true rfl) d_W_law_671 rfl (fun v μ2 hq => ?_)
  obtain ⟨rfl, rfl⟩ := hq
  show AW G room_1 7 (cells, slots, ad, 272 + 3 * nr, fb) 674 [(4, .int (nI i)), (3, .ref 271), (2, .ref 250), (1, .ref 0), (0, .ref (SB + 50))] [.int (G_certificate μ (F_certificate μ (xs (i + 1)) (xs (i + 2))).2 (xs (i + 1)) (xs (i + 2))).1, .int (F_certificate μ (xs (i + 1)) (xs (i + 2))).1] ((G_certificate μ (F_certificate μ (xs (i + 1)) (xs (i + 2))).2 (xs (i + 1)) (xs (i + 2))).2)
  refine AW.icmp_eq X (pc := 674) 772 d_W_law_674 (by decide) (fun _ => ?_) (fun c => absurd (st_certificate hV (xs (i + 1)) (xs (i + 2))).1 c)
  exact law_next X (st_certificate hV (xs (i + 1)) (xs (i + 2))).2 (by omega) (by omega) next
set_option maxHeartbeats 4000000 in
set_option maxRecDepth 100000 in
theorem law_14 {G : GTy} {L : Nat} {xs : Nat → Int32} (X : Cx G 7 b_W_law R_W GT) (hA0 : gA G) (hl : G.2.1.stackTraces = false) (hX : gX G L xs) (hL : L ≤ 2048) {i nr : Nat} {μ : Mu} {ad : Nat → Nat} {cells slots : Nat} (hi : i + 3 < L) (hV : INV μ nr) (hc : cells ≤ 272 + i) (hs : slots ≤ 3344 + 5 * i) (next : NX G i) : AW G room_1 7 (cells, slots, ad, 272 + 3 * nr, fb) 679 [(4, .int (nI i)), (3, .ref 271), (2, .ref 250), (1, .ref 0), (0, .ref (SB + 50))] [] μ := by
  obtain ⟨hC, hM⟩ := id hV
  have hI := hC.1
  have hVR := hC.2.1
  have hN : 272 ≤ 272 + 3 * nr := by omega
  have hf := rm_f hL hi hc hs
  refine AW.aload_n X (pc := 679) 3 rfl rfl d_W_law_679 ?_
  refine AW.arg X (pc := 680) (i := i) (j := 1) hX hL (by omega) (by decide) 4 0 rfl rfl d_W_law_680 d_W_law_681 d_W_law_683 d_W_law_684 d_W_law_685 ?_
  refine AW.arg X (pc := 686) (i := i) (j := 2) hX hL (by omega) (by decide) 4 0 rfl rfl d_W_law_686 d_W_law_687 d_W_law_689 d_W_law_690 d_W_law_691 ?_
  refine AW.callV X (pc := 692) (b := 0) (ci := 4) (nA := 2) [.int (xs (i + 1)), .int (xs (i + 2))] [] (c_C_about (kOf G ad (272 + 3 * nr)) nr (xs (i + 1)) (xs (i + 2)) μ hN hI rfl) (gv_V wm_W_88 wi_C_about wl_C_about wn_C kw_C_about) rfl (by decide +kernel) rfl (by omega) rfl rfl ⟨Nat.le_of_ble_eq_true rfl, Nat.le_of_ble_eq_true rfl⟩ hf (Nat.le_of_ble_eq_true rfl) d_W_law_692 rfl (fun v μ2 hq => ?_)
  obtain ⟨rfl, hm⟩ := hq
  rw [hm]
  clear hm
  show AW G room_1 7 (cells, slots, ad, 272 + 3 * nr, fb) 695 [(4, .int (nI i)), (3, .ref 271), (2, .ref 250), (1, .ref 0), (0, .ref (SB + 50))] [.int (F_about μ (xs (i + 1)) (xs (i + 2)))] (μ)
  refine AW.aload_n X (pc := 695) 2 rfl rfl d_W_law_695 ?_
  refine AW.arg X (pc := 696) (i := i) (j := 1) hX hL (by omega) (by decide) 4 0 rfl rfl d_W_law_696 d_W_law_697 d_W_law_699 d_W_law_700 d_W_law_701 ?_
  refine AW.arg X (pc := 702) (i := i) (j := 2) hX hL (by omega) (by decide) 4 0 rfl rfl d_W_law_702 d_W_law_703 d_W_law_705 d_W_law_706 d_W_law_707 ?_
  refine AW.callV X (pc := 708) (b := 250) (ci := 5) (nA := 2) [.int (xs (i + 1)), .int (xs (i + 2))] [.int (F_about μ (xs (i + 1)) (xs (i + 2)))] (c_M_about (kOf G ad (272 + 3 * nr)) μ nr (xs (i + 1)) (xs (i + 2)) μ hN hI hM hVR) (gv_V wm_W_91 wi_M_about wl_M_about wn_M kw_M_about) rfl (by decide +kernel) rfl (by omega) rfl rfl ⟨Nat.le_of_ble_eq_true rfl, Nat.le_of_ble_eq_true rfl⟩ hf (Nat.le_of_ble_eq_true rfl) d_W_law_708 rfl (fun v μ2 hq => ?_)
  obtain ⟨rfl, rfl⟩ := hq
  show AW G room_1 7 (cells, slots, ad, 272 + 3 * nr, fb) 711 [(4, .int (nI i)), (3, .ref 271), (2, .ref 250), (1, .ref 0), (0, .ref (SB + 50))] [.int (G_about μ (xs (i + 1)) (xs (i + 2))), .int (F_about μ (xs (i + 1)) (xs (i + 2)))] (m_up μ 250 0 0)
  refine AW.icmp_eq X (pc := 711) 772 d_W_law_711 (by decide) (fun _ => ?_) (fun c => absurd (st_about hV (xs (i + 1)) (xs (i + 2))) c)
  exact law_next X (hV.thr 0) (by omega) (by omega) next
set_option maxHeartbeats 4000000 in
set_option maxRecDepth 100000 in
theorem law_15 {G : GTy} {L : Nat} {xs : Nat → Int32} (X : Cx G 7 b_W_law R_W GT) (hA0 : gA G) (hl : G.2.1.stackTraces = false) (hX : gX G L xs) (hL : L ≤ 2048) {i nr : Nat} {μ : Mu} {ad : Nat → Nat} {cells slots : Nat} (hi : i + 3 < L) (hV : INV μ nr) (hc : cells ≤ 272 + i) (hs : slots ≤ 3344 + 5 * i) (next : NX G i) : AW G room_1 7 (cells, slots, ad, 272 + 3 * nr, fb) 716 [(4, .int (nI i)), (3, .ref 271), (2, .ref 250), (1, .ref 0), (0, .ref (SB + 50))] [] μ := by
  obtain ⟨hC, hM⟩ := id hV
  have hI := hC.1
  have hVR := hC.2.1
  have hN : 272 ≤ 272 + 3 * nr := by omega
  have hf := rm_f hL hi hc hs
  have hf2 : cells + 1 ≤ room_1.cells ∧ slots + 6 ≤ room_1.slots := by
    show cells + 1 ≤ 601024 ∧ slots + 6 ≤ 7293034
    omega
  have hnr := hI.nr
  refine AW.aload_n X (pc := 716) 3 rfl rfl d_W_law_716 ?_
  refine AW.arg X (pc := 717) (i := i) (j := 1) hX hL (by omega) (by decide) 4 0 rfl rfl d_W_law_717 d_W_law_718 d_W_law_720 d_W_law_721 d_W_law_722 ?_
  refine AW.aload_n X (pc := 723) 1 rfl rfl d_W_law_723 ?_
  refine AW.callSW X hA0 (pc := 724) (nA := 3) [.ref 0, .int (xs (i + 1)), .ref 271] [] (c_W_history (kOf G ad (272 + 3 * nr)) nr (272 + 3 * nr) (xs (i + 1)) μ rfl ⟨hN, show 272 + 3 * nr < 1000000 by omega⟩ hl hI) (gv_S2 wm_W_92 ws_W_history wn_W kw_W_history) rfl (by decide +kernel) rfl ⟨Nat.le_of_ble_eq_true rfl, Nat.le_of_ble_eq_true rfl⟩ hf2 (Nat.le_of_ble_eq_true rfl) (lv_ok hN) (fun _ h => nomatch h) d_W_law_724 rfl (fun v μ2 β2 ad2 N2 hq had => ?_)
  cases hB : inB 0 (nI (dnN μ) - 1) (xs (i + 1)) with
  | false =>
    rw [if_pos hB] at hq
    obtain ⟨rfl, hm, rfl, rfl⟩ := hq
    rw [hm]
    clear hm
    show AW G room_1 7 (cells + 1, slots + 6, ad2, 272 + 3 * nr, fb) 727 [(4, .int (nI i)), (3, .ref 271), (2, .ref 250), (1, .ref 0), (0, .ref (SB + 50))] [.int 1] (μ)
    refine AW.istore X (pc := 727) (lv2 := [(5, .int 1), (4, .int (nI i)), (3, .ref 271), (2, .ref 250), (1, .ref 0), (0, .ref (SB + 50))]) d_W_law_727 (by decide) rfl ?_
    refine AW.aload_n X (pc := 729) 3 rfl rfl d_W_law_729 ?_
    refine AW.arg X (pc := 730) (i := i) (j := 1) hX hL (by omega) (by decide) 5 1 rfl rfl d_W_law_730 d_W_law_731 d_W_law_733 d_W_law_734 d_W_law_735 ?_
    refine AW.callV X (pc := 736) (b := 250) (ci := 5) (nA := 1) [.int (xs (i + 1))] [] (c_M_history (kOf G ad2 (272 + 3 * nr)) μ nr (xs (i + 1)) (μ) hN hI hM hVR) (gv_V wm_W_95 wi_M_history wl_M_history wn_M kw_M_history) rfl (by decide +kernel) rfl (by omega) rfl rfl ⟨Nat.le_of_ble_eq_true rfl, Nat.le_of_ble_eq_true rfl⟩ hf2 (Nat.le_of_ble_eq_true rfl) d_W_law_736 rfl (fun v μ2 hq => ?_)
    rw [st_history0 (xs (i + 1)) hB] at hq
    obtain ⟨rfl, rfl⟩ := hq
    show AW G room_1 7 (cells + 1, slots + 6, ad2, 272 + 3 * nr, fb) 739 [(5, .int 1), (4, .int (nI i)), (3, .ref 271), (2, .ref 250), (1, .ref 0), (0, .ref (SB + 50))] [.int 0] (m_up μ 250 0 1)
    refine AW.istore X (pc := 739) (lv2 := [(6, .int 0), (5, .int 1), (4, .int (nI i)), (3, .ref 271), (2, .ref 250), (1, .ref 0), (0, .ref (SB + 50))]) d_W_law_739 (by decide) rfl ?_
    refine AW.aload_n X (pc := 741) 4 rfl rfl d_W_law_741 ?_
    refine AW.callV X (pc := 742) (b := 250) (ci := 5) (nA := 0) [] [] (c_M_thrown (kOf G ad2 (272 + 3 * nr)) (m_up μ 250 0 1) hN) (gv_V wm_W_73 wi_M_thrown wl_M_thrown wn_M kw_M_thrown) rfl (by decide +kernel) rfl (by omega) rfl rfl ⟨Nat.le_of_ble_eq_true rfl, Nat.le_of_ble_eq_true rfl⟩ hf2 (Nat.le_of_ble_eq_true rfl) d_W_law_742 rfl (fun v μ2 hq => ?_)
    rw [m_up_self] at hq
    obtain ⟨rfl, rfl⟩ := hq
    show AW G room_1 7 (cells + 1, slots + 6, ad2, 272 + 3 * nr, fb) 745 [(6, .int 0), (5, .int 1), (4, .int (nI i)), (3, .ref 271), (2, .ref 250), (1, .ref 0), (0, .ref (SB + 50))] [.int 1] (m_up μ 250 0 1)
    refine AW.iload X (pc := 745) 1 rfl d_W_law_745 ?_
    refine AW.icmp_eq X (pc := 747) 752 d_W_law_747 (by decide) (fun _ => ?_) (fun c => absurd rfl c)
    refine AW.iload X (pc := 752) 1 rfl d_W_law_752 ?_
    refine AW.if_ne X (pc := 754) 769 d_W_law_754 (by decide) (fun _ => ?_) (fun c => absurd c (by decide))
    refine AW.goto X (pc := 769) 772 d_W_law_769 (by decide) ?_
    refine AW.locs [2, 3, 4, 5, 6] rfl ?_
    exact law_next X (hV.thr 1) (by omega) (by omega) next
  | true =>
    rw [if_neg (by rw [hB]; exact b_tf)] at hq
    obtain ⟨rfl, hm, rfl, rfl⟩ := hq
    rw [hm]
    clear hm
    show AW G room_1 7 (cells + 1, slots + 6, ad2, 272 + 3 * nr, fb) 727 [(4, .int (nI i)), (3, .ref 271), (2, .ref 250), (1, .ref 0), (0, .ref (SB + 50))] [.int 0] (m_up μ 271 0 (nI (diN μ (xs (i + 1)).toNatClampNeg)))
    refine AW.istore X (pc := 727) (lv2 := [(5, .int 0), (4, .int (nI i)), (3, .ref 271), (2, .ref 250), (1, .ref 0), (0, .ref (SB + 50))]) d_W_law_727 (by decide) rfl ?_
    refine AW.aload_n X (pc := 729) 3 rfl rfl d_W_law_729 ?_
    refine AW.arg X (pc := 730) (i := i) (j := 1) hX hL (by omega) (by decide) 5 1 rfl rfl d_W_law_730 d_W_law_731 d_W_law_733 d_W_law_734 d_W_law_735 ?_
    refine AW.callV X (pc := 736) (b := 250) (ci := 5) (nA := 1) [.int (xs (i + 1))] [] (c_M_history (kOf G ad2 (272 + 3 * nr)) μ nr (xs (i + 1)) (m_up μ 271 0 (nI (diN μ (xs (i + 1)).toNatClampNeg))) hN hI (hM.out (nI (diN μ (xs (i + 1)).toNatClampNeg))) hVR) (gv_V wm_W_95 wi_M_history wl_M_history wn_M kw_M_history) rfl (by decide +kernel) rfl (by omega) rfl rfl ⟨Nat.le_of_ble_eq_true rfl, Nat.le_of_ble_eq_true rfl⟩ hf2 (Nat.le_of_ble_eq_true rfl) d_W_law_736 rfl (fun v μ2 hq => ?_)
    rw [st_history (xs (i + 1)) _ hB] at hq
    obtain ⟨rfl, rfl⟩ := hq
    show AW G room_1 7 (cells + 1, slots + 6, ad2, 272 + 3 * nr, fb) 739 [(5, .int 0), (4, .int (nI i)), (3, .ref 271), (2, .ref 250), (1, .ref 0), (0, .ref (SB + 50))] [.int (nI (diN μ (xs (i + 1)).toNatClampNeg))] (m_up (m_up μ 271 0 (nI (diN μ (xs (i + 1)).toNatClampNeg))) 250 0 0)
    refine AW.istore X (pc := 739) (lv2 := [(6, .int (nI (diN μ (xs (i + 1)).toNatClampNeg))), (5, .int 0), (4, .int (nI i)), (3, .ref 271), (2, .ref 250), (1, .ref 0), (0, .ref (SB + 50))]) d_W_law_739 (by decide) rfl ?_
    refine AW.aload_n X (pc := 741) 4 rfl rfl d_W_law_741 ?_
    refine AW.callV X (pc := 742) (b := 250) (ci := 5) (nA := 0) [] [] (c_M_thrown (kOf G ad2 (272 + 3 * nr)) (m_up (m_up μ 271 0 (nI (diN μ (xs (i + 1)).toNatClampNeg))) 250 0 0) hN) (gv_V wm_W_73 wi_M_thrown wl_M_thrown wn_M kw_M_thrown) rfl (by decide +kernel) rfl (by omega) rfl rfl ⟨Nat.le_of_ble_eq_true rfl, Nat.le_of_ble_eq_true rfl⟩ hf2 (Nat.le_of_ble_eq_true rfl) d_W_law_742 rfl (fun v μ2 hq => ?_)
    rw [m_up_self] at hq
    obtain ⟨rfl, rfl⟩ := hq
    show AW G room_1 7 (cells + 1, slots + 6, ad2, 272 + 3 * nr, fb) 745 [(6, .int (nI (diN μ (xs (i + 1)).toNatClampNeg))), (5, .int 0), (4, .int (nI i)), (3, .ref 271), (2, .ref 250), (1, .ref 0), (0, .ref (SB + 50))] [.int 0] (m_up (m_up μ 271 0 (nI (diN μ (xs (i + 1)).toNatClampNeg))) 250 0 0)
    refine AW.iload X (pc := 745) 1 rfl d_W_law_745 ?_
    refine AW.icmp_eq X (pc := 747) 752 d_W_law_747 (by decide) (fun _ => ?_) (fun c => absurd rfl c)
    refine AW.iload X (pc := 752) 1 rfl d_W_law_752 ?_
    refine AW.if_ne X (pc := 754) 769 d_W_law_754 (by decide) (fun c => absurd rfl c) (fun _ => ?_)
    refine AW.aload_n X (pc := 757) 3 rfl rfl d_W_law_757 ?_
    refine AW.iconst X (pc := 758) (v := 0) (by decide) d_W_law_758 ?_
    refine AW.lald X (pc := 759) (k := 271) (t := 1) (n := 1) (i := 0) (by omega) rfl rfl (vp_in_nI (n := 0) (by decide) (by decide)) d_W_law_759 ?_
    refine AW.val (w := .long (nI (diN μ (xs (i + 1)).toNatClampNeg)).toInt64) (congrArg (fun x : Int32 => Value.long x.toInt64) ((m_up_ne (by omega)).trans (m_up_self _ _ _ _))) ?_
    refine AW.iload X (pc := 760) 0 rfl d_W_law_760 ?_
    refine AW.i2l X (pc := 762) d_W_law_762 ?_
    refine AW.lcmp X (pc := 763) d_W_law_763 ?_
    refine AW.if_eq X (pc := 764) 769 d_W_law_764 (by decide) (fun _ => ?_) (fun c => absurd ((lg_eq _ _).mpr rfl) c)
    refine AW.goto X (pc := 769) 772 d_W_law_769 (by decide) ?_
    refine AW.locs [2, 3, 4, 5, 6] rfl ?_
    exact law_next X ((hV.out (nI (diN μ (xs (i + 1)).toNatClampNeg))).thr 0) (by omega) (by omega) next
