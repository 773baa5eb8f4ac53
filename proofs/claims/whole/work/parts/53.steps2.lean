theorem m_up_comm {μ : Mu} {a b c d : Nat} {x y : Int32} (h : ¬ (a = c ∧ b = d)) : m_up (m_up μ a b x) c d y = m_up (m_up μ c d y) a b x := by
  funext p q
  by_cases h1 : p = a ∧ q = b
  · obtain ⟨rfl, rfl⟩ := h1
    rw [m_up_ne h, m_up_self, m_up_self]
  · by_cases h2 : p = c ∧ q = d
    · obtain ⟨rfl, rfl⟩ := h2
      rw [m_up_self, m_up_ne h1, m_up_self]
    · rw [m_up_ne h2, m_up_ne h1, m_up_ne h1, m_up_ne h2]
/-- who came first is no more asked -/
theorem MR.w_264 {σ μ : Mu} {nr i : Nat} {x : Int32} (h : MR σ μ nr) (hI : CI σ nr) (hi : i < 60) (h1 : ¬ σ (5 + 4 * i) 5 = 1) : MR σ (m_up μ 264 i x) nr := by
  refine h.unit hI hi (fun k hk => rfl) (fun k hk => m_up_row (by omega)) (fun j hj hne => ⟨fun q hq => ⟨m_up_ne (by omega), m_up_ne (by omega), m_up_ne (by omega)⟩, m_up_ne (by omega), m_up_ne (by omega), m_up_ne (by omega), m_up_ne (by omega), m_up_ne (by omega), m_up_ne (by omega)⟩) ?_
  obtain ⟨b1, b2, b3, b4, b5, b6, b7, b8⟩ := h.1.un hi
  refine ⟨fun q hq => ?_, ?_, fun j hj => ?_, ?_, ?_, fun hh => absurd hh h1, ?_, ?_⟩
  · rw [m_up_ne (by omega), m_up_ne (by omega)]; exact b1 q hq
  · rw [m_up_ne (by omega)]; exact b2
  · rw [m_up_ne (by omega)]; exact b3 j hj
  · rw [m_up_ne (by omega)]; exact b4
  · rw [m_up_ne (by omega)]; exact b5
  · rw [m_up_ne (by omega)]; exact b7
  · rw [m_up_ne (by omega)]; exact b8
theorem ke_approve (μ : Mu) (u d : Int32) : KE μ (F_approve μ u d).2 := by
  cases hU : okU u with
  | false => rw [F_approve, if_pos hU]; exact KE.refl μ
  | true =>
    obtain ⟨i, hi, rfl⟩ := okU_of hU
    rw [F_approve, if_neg (by rw [hU]; decide), nI_clamp (show i < 2 ^ 31 by omega)]
    split
    · exact KE.refl μ
    · split
      · exact KE.refl μ
      · show KE μ (addAp μ i d)
        unfold addAp
        split
        · exact ((KE.refl μ).up (by omega)).up (by omega)
        · exact (KE.refl μ).up (by omega)
theorem st_approve {μ : Mu} {nr : Nat} (h : INV μ nr) (u p : Int32) : (F_approve μ u p).1 = (G_approve μ (F_approve μ u p).2 u p).1 ∧ INV (G_approve μ (F_approve μ u p).2 u p).2 nr := by
  obtain ⟨hC, hM⟩ := id h
  cases hU : okU u with
  | false =>
    rw [show F_approve μ u p = (-1, μ) by rw [F_approve, if_pos hU]]
    show -1 = (G_approve μ μ u p).1 ∧ INV (G_approve μ μ u p).2 nr
    rw [G_approve, if_pos hU]
    exact ⟨rfl, h.thr 0⟩
  | true =>
    obtain ⟨i, hi, rfl⟩ := okU_of hU
    have hci : (nI i).toNatClampNeg = i := nI_clamp (by omega)
    have hn : ¬ okU (nI i) = false := by rw [hU]; decide
    have h7 := e0_lt (hC.2.1.dp hi)
    obtain ⟨a, ha, ea⟩ := hC.2.1.ap hi
    by_cases hk : p < 0 ∨ ¬ p < 100
    · have hk2 : inB 0 99 p = false := by
        rcases hk with q | q
        · rw [inB, decide_eq_false (not_not_intro q)]; rfl
        · rw [inB, decide_eq_false (not_not_intro (show 99 < p by rw [i_lt rfl (show (100 : Int32).toInt = 100 by decide)] at q; rw [i_lt (show (99 : Int32).toInt = 99 by decide) rfl]; omega)), Bool.and_false]
      rw [show F_approve μ (nI i) p = (-2, μ) by rw [F_approve, if_neg hn, if_pos hk]]
      show -2 = (G_approve μ μ (nI i) p).1 ∧ INV (G_approve μ μ (nI i) p).2 nr
      rw [G_approve, if_neg hn, if_pos hk2]
      exact ⟨rfl, h.thr 0⟩
    · have hk2 : ¬ inB 0 99 p = false := fun q => by
        rcases inB_f q with q | q
        · exact hk (Or.inl q)
        · refine hk (Or.inr ?_)
          rw [i_lt (show (99 : Int32).toInt = 99 by decide) rfl] at q
          rw [i_lt rfl (show (100 : Int32).toInt = 100 by decide)]
          omega
      have cond : (¬ μ (5 + 4 * i) 7 = -1 ∨ 2 ≤ μ (5 + 4 * i) 5 ∨ (¬ μ (5 + 4 * i) 5 ≤ 0 ∧ μ (5 + 4 * i) 6 = p)) ↔ (¬ μ (5 + 4 * i) 7 < 0 ∨ μ (5 + 4 * i) 5 = 2 ∨ (μ (5 + 4 * i) 5 = 1 ∧ μ (5 + 4 * i) 6 = p)) := by
        rw [h7, ea]
        rcases (show a = 0 ∨ a = 1 ∨ a = 2 by omega) with rfl | rfl | rfl
        · simp only [show ¬ (2 : Int32) ≤ nI 0 by decide, show ¬ nI 0 = (2 : Int32) by decide, show ¬ nI 0 = (1 : Int32) by decide, show ¬ ¬ nI 0 ≤ (0 : Int32) by decide, false_and, or_false]
        · simp only [show ¬ (2 : Int32) ≤ nI 1 by decide, show ¬ nI 1 = (2 : Int32) by decide, show nI 1 = (1 : Int32) by decide, show (¬ (1 : Int32) ≤ 0) = True by decide, show ¬ (2 : Int32) ≤ 1 by decide, show ¬ (1 : Int32) = 2 by decide, true_and, false_or]
        · simp only [show (2 : Int32) ≤ nI 2 by decide, show nI 2 = (2 : Int32) by decide, true_or, or_true, show (2 : Int32) ≤ 2 by decide]
      by_cases hs : ¬ μ (5 + 4 * i) 7 = -1 ∨ 2 ≤ μ (5 + 4 * i) 5 ∨ (¬ μ (5 + 4 * i) 5 ≤ 0 ∧ μ (5 + 4 * i) 6 = p)
      · rw [show F_approve μ (nI i) p = (-3, μ) by rw [F_approve, if_neg hn, if_neg hk, hci, if_pos hs]]
        show -3 = (G_approve μ μ (nI i) p).1 ∧ INV (G_approve μ μ (nI i) p).2 nr
        rw [G_approve, if_neg hn, if_neg hk2, hci, if_pos (cond.mp hs)]
        exact ⟨rfl, h.thr 0⟩
      · have hs2 : ¬ (¬ μ (5 + 4 * i) 7 < 0 ∨ μ (5 + 4 * i) 5 = 2 ∨ (μ (5 + 4 * i) 5 = 1 ∧ μ (5 + 4 * i) 6 = p)) := fun q => hs (cond.mpr q)
        rw [show F_approve μ (nI i) p = (addAp μ i p (5 + 4 * i) 5, addAp μ i p) by rw [F_approve, if_neg hn, if_neg hk, hci, if_neg hs]]
        show addAp μ i p (5 + 4 * i) 5 = (G_approve μ (addAp μ i p) (nI i) p).1 ∧ INV (G_approve μ (addAp μ i p) (nI i) p).2 nr
        rw [G_approve, if_neg hn, if_neg hk2, hci, if_neg hs2]
        have ha2 : ¬ a = 2 := fun q => hs2 (Or.inr (Or.inl (by rw [ea, q]; decide)))
        rcases (show a = 0 ∨ a = 1 by omega) with rfl | rfl
        · have e5 : μ (5 + 4 * i) 5 = 0 := by rw [ea]; decide
          have eA : addAp μ i p = m_up (m_up μ (5 + 4 * i) 6 p) (5 + 4 * i) 5 1 := by
            unfold addAp
            rw [if_pos e5, m_up_ne (by omega), e5]
            rfl
          rw [eA, e5]
          have c1 : CV (m_up μ (5 + 4 * i) 6 p) nr := hC.w_fb hi
          refine ⟨by rw [m_up_self]; rfl, ?_⟩
          show INV (m_up (m_up (m_up (m_up (m_up μ (5 + 4 * i) 6 p) (5 + 4 * i) 5 1) 250 0 0) 264 i p) 263 i 1) nr
          exact INV.of (c1.w_ap hi ⟨1, by decide, rfl⟩) ((((hM.ke (((KE.refl μ).up (by omega)).up (by omega))).thr 0).w_fb hC.1 hi).w_ap c1.1 hi (fun _ => by rw [m_up_self, m_up_self])) ((((CE.refl _).up (by decide) (by decide)).up (by decide) (by decide)).up (by decide) (by decide))
        · have e5 : μ (5 + 4 * i) 5 = 1 := by rw [ea]; decide
          have eA : addAp μ i p = m_up μ (5 + 4 * i) 5 2 := by
            unfold addAp
            rw [if_neg (by rw [e5]; decide), e5]
            rfl
          rw [eA, e5]
          have c1 : CV (m_up μ (5 + 4 * i) 5 2) nr := hC.w_ap hi ⟨2, by decide, rfl⟩
          refine ⟨by rw [m_up_self]; rfl, ?_⟩
          show INV (m_up (m_up (m_up (m_up μ (5 + 4 * i) 5 2) 250 0 0) 264 i p) 263 i 2) nr
          rw [m_up_comm (by omega)]
          exact INV.of c1 ((((hM.ke ((KE.refl μ).up (by omega))).thr 0).w_ap hC.1 hi (fun q => by cases q)).w_264 c1.1 hi (by rw [m_up_self]; decide)) ((((CE.refl _).up (by decide) (by decide)).up (by decide) (by decide)).up (by decide) (by decide))
/-! rules -/
theorem CV.rule {σ σ' : Mu} {nr r : Nat} (h : CV σ nr) (hr : r < nr) (hk : ∀ k, (k < 272 + 3 * r ∨ 272 + 3 * r + 2 < k) → σ' k = σ k) (h4 : CI4 σ' r) (hv : VL σ' r) : CV σ' nr := by
  obtain ⟨hI, hV, hB, hC, hZ⟩ := h
  refine ⟨CI.mk ?_ (fun r hr => ?_) (fun k hk2 => ?_) (fun j hj => ?_) (fun j hj => ?_) ?_ ?_ ?_, VR.mk (fun j hj => ?_) (fun j hj => ?_), hB.congr (by rw [hk 1 (by omega)]) (hk 2 (by omega)), ?_, fun k j hk2 => by rw [hk k (by omega)]; exact hZ k j hk2⟩
  · rw [hk 0 (by omega)]; exact ⟨hI.nr, hI.rc⟩
  · rw [hk 3 (by omega)]; exact hI.ru hr
  · rw [hk 4 (by omega)]; exact hI.un hk2
  · by_cases e : j = r
    · subst e; exact h4
    · have q := hk (272 + 3 * j) (by omega)
      exact (hI.p4 hj).congr (by rw [q]) (by rw [q]) (by rw [q])
  · exact (hI.p5 hj).congr (by rw [hk _ (by omega)]) (hk _ (by omega))
  · exact hI.p6.congr (by rw [hk 0 (by omega)]) (hk 249 (by omega))
  · exact hI.p7.congr (by rw [hk 245 (by omega)])
  · exact hI.p8.congr (by rw [hk 1 (by omega)])
  · exact (hV.u hj).congr (hk _ (by omega)) (hk _ (by omega))
  · by_cases e : j = r
    · subst e; exact hv
    · exact (hV.l hj).congr (hk _ (by omega)) (hk _ (by omega)) (hk _ (by omega))
  · rw [cnt_congr (σ := σ) 60 (fun j hj => by rw [hk _ (by omega)]), ← hC]
    unfold dnN
    rw [hk 0 (by omega)]
theorem MR.rule {σ σ' μ μ' : Mu} {nr r : Nat} (h : MR σ μ nr) (hI : CI σ nr) (hr : r < nr) (hk : ∀ k, (k < 272 + 3 * r ∨ 272 + 3 * r + 2 < k) → σ' k = σ k) (hm : ∀ k, (k < 252 ∨ 257 < k) → μ' k = μ k) (ho : ∀ j, j < 20 → j ≠ r → (μ' 252 j = μ 252 j ∧ μ' 253 j = μ 253 j ∧ μ' 254 j = μ 254 j ∧ μ' 255 j = μ 255 j) ∧ (∀ q, q < 6 → μ' 256 (6 * j + q) = μ 256 (6 * j + q)) ∧ ∀ q, q < 6 → μ' 257 (6 * j + q) = μ 257 (6 * j + q)) (hu : RI σ' μ' r) : MR σ' μ' nr := by
  have hnr := hI.nr
  refine ⟨MU.mk ?_ (fun j hj => ?_) (fun j h1 h2 => ?_) (fun j hj => ?_), h.2.congr (by rw [hk 245 (by omega)]) ⟨hk _ (by omega), hk _ (by omega), hk _ (by omega)⟩ (by rw [hk 0 (by omega)]) (hk _ (by omega)) (by rw [hk 1 (by omega)]) (hk _ (by omega)) (fun k h1 h2 => hm k (by omega)) ⟨by rw [hm 250 (by omega)], by rw [hm 250 (by omega)], by rw [hm 250 (by omega)]⟩⟩
  · rw [hm 250 (by omega)]; exact h.1.ru
  · by_cases e : j = r
    · subst e; exact hu
    · obtain ⟨⟨q1, q2, q3, q4⟩, q5, q6⟩ := ho j (by omega) e
      exact (h.1.r hj).congr (hk _ (by omega)) (hk _ (by omega)) (hk _ (by omega)) q1 q2 q3 q4 q5 q6 (hI.cc hj).2
  · obtain ⟨⟨-, -, q3, q4⟩, -, -⟩ := ho j h2 (by omega)
    rw [q3, q4]; exact h.1.z h1 h2
  · exact (h.1.un hj).congr (hk _ (by omega)) (hk _ (by omega)) (hk _ (by omega)) (hk _ (by omega)) (fun q hq => ⟨by rw [hm 258 (by omega)], by rw [hm 259 (by omega)], by rw [hm 261 (by omega)]⟩) ⟨by rw [hm 260 (by omega)], by rw [hm 262 (by omega)], by rw [hm 263 (by omega)], by rw [hm 264 (by omega)], by rw [hm 265 (by omega)], by rw [hm 266 (by omega)]⟩ (hI.rn hj).2
theorem ke_breaks (μ : Mu) (nr : Nat) (x : Int32) (b : Bool) : KE μ (F_breaks μ nr x b).2 := by
  unfold F_breaks
  split
  · exact KE.refl μ
  · exact (KE.refl μ).up (by omega)
theorem brB_bi {σ : Mu} {r : Nat} {b : Bool} (h : σ (272 + 3 * r) 6 = bi b) : brB σ r = b := by
  unfold brB
  rw [h]
  cases b <;> decide
theorem CV.w_br {σ : Mu} {nr r : Nat} {b : Bool} (hC : CV σ nr) (hr : r < nr) : CV (m_up σ (272 + 3 * r) 6 (bi b)) nr := by
  have ec : ccN (m_up σ (272 + 3 * r) 6 (bi b)) r = ccN σ r := by unfold ccN; rw [m_up_ne (by omega)]
  have ee : ekN (m_up σ (272 + 3 * r) 6 (bi b)) r = ekN σ r := by unfold ekN; rw [m_up_ne (by omega)]
  have eb : brB (m_up σ (272 + 3 * r) 6 (bi b)) r = b := brB_bi (m_up_self _ _ _ _)
  obtain ⟨q1, q2, q3, q4, q5⟩ := hC.1.p4 hr
  obtain ⟨v1, v2, v3⟩ := hC.2.1.l hr
  refine hC.rule hr (fun k hk => m_up_row (by omega)) ⟨?_, ?_, ?_, ?_, ?_⟩ ⟨?_, ?_, fun j hj => ?_⟩
  · rw [m_up_ne (by omega), ee]; exact q1
  · rw [ee]; exact q2
  · rw [m_up_ne (by omega), ec]; exact q3
  · rw [ec]; exact q4
  · rw [m_up_self, eb]
  · rw [m_up_ne (by omega)]; exact v1
  · rw [m_up_ne (by omega)]; exact v2
  · rw [ec] at hj
    rw [m_up_ne (by omega), m_up_ne (by omega)]; exact v3 j hj
theorem MR.w_br {σ μ : Mu} {nr r : Nat} {b : Bool} (h : MR σ μ nr) (hI : CI σ nr) (hr : r < nr) : MR (m_up σ (272 + 3 * r) 6 (bi b)) (m_up μ 254 r (bi b)) nr := by
  have ec : ccN (m_up σ (272 + 3 * r) 6 (bi b)) r = ccN σ r := by unfold ccN; rw [m_up_ne (by omega)]
  have ee : ekN (m_up σ (272 + 3 * r) 6 (bi b)) r = ekN σ r := by unfold ekN; rw [m_up_ne (by omega)]
  have eb : brB (m_up σ (272 + 3 * r) 6 (bi b)) r = b := brB_bi (m_up_self _ _ _ _)
  refine h.rule hI hr (fun k hk => m_up_row (by omega)) (fun k hk => m_up_row (by omega)) (fun j hj hne => ⟨⟨m_up_ne (by omega), m_up_ne (by omega), m_up_ne (by omega), m_up_ne (by omega)⟩, fun q hq => m_up_ne (by omega), fun q hq => m_up_ne (by omega)⟩) ?_
  obtain ⟨b1, b2, b3, b4, b5, b6, b7⟩ := h.1.r hr
  refine ⟨?_, ?_, ?_, ?_, ?_, ?_, fun j hj => ?_⟩
  · rw [m_up_ne (by omega), ee]; exact b1
  · rw [m_up_ne (by omega), m_up_ne (by omega)]; exact b2
  · rw [m_up_self, eb]
  · rw [m_up_ne (by omega), ec]; exact b4
  · rw [m_up_ne (by omega), m_up_ne (by omega)]; exact b5
  · rw [m_up_ne (by omega)]; exact b6
  · rw [ec] at hj
    rw [m_up_ne (by omega), m_up_ne (by omega), m_up_ne (by omega), m_up_ne (by omega)]; exact b7 j hj
theorem st_breaks {μ : Mu} {nr : Nat} (h : INV μ nr) (x : Int32) (b : Bool) : (F_breaks μ nr x b).1 = (G_breaks μ (F_breaks μ nr x b).2 nr x b).1 ∧ INV (G_breaks μ (F_breaks μ nr x b).2 nr x b).2 nr := by
  obtain ⟨hC, hM⟩ := id h
  have hnr := hC.1.nr
  cases hR : okR nr x with
  | false =>
    rw [show F_breaks μ nr x b = (false, μ) by rw [F_breaks, if_pos hR]]
    show false = (G_breaks μ μ nr x b).1 ∧ INV (G_breaks μ μ nr x b).2 nr
    rw [G_breaks, if_pos hR]
    exact ⟨rfl, h.thr 0⟩
  | true =>
    obtain ⟨r, hr, rfl⟩ := okR_of hnr hR
    have hcr : (nI r).toNatClampNeg = r := nI_clamp (by omega)
    have hn : ¬ okR nr (nI r) = false := by rw [hR]; decide
    rw [show F_breaks μ nr (nI r) b = (brB μ r, m_up μ (272 + 3 * r) 6 (bi b)) by rw [F_breaks, if_neg hn, hcr]]
    show brB μ r = (G_breaks μ (m_up μ (272 + 3 * r) 6 (bi b)) nr (nI r) b).1 ∧ INV (G_breaks μ (m_up μ (272 + 3 * r) 6 (bi b)) nr (nI r) b).2 nr
    rw [G_breaks, if_neg hn, hcr]
    exact ⟨rfl, INV.of (hC.w_br hr) (((hM.ke ((KE.refl μ).up (by omega))).thr 0).w_br hC.1 hr) (((CE.refl _).up (by decide) (by decide)).up (by decide) (by decide))⟩
/-- the class's cells behind a change of rule r, the reference's -/
def chC (σ : Mu) (r c : Nat) (y d : Int32) : Mu := m_up (m_up (m_up σ (272 + 3 * r + 1) c d) (272 + 3 * r + 2) c y) (272 + 3 * r) 5 (nI (c + 1))
def chM (μ : Mu) (r c : Nat) (y d : Int32) : Mu := m_up (m_up (m_up μ 255 r (nI (c + 1))) 256 (6 * r + (c + 1)) y) 257 (6 * r + (c + 1)) d
theorem chC_out {σ : Mu} {r c : Nat} {y d : Int32} {k : Nat} (h : k < 272 + 3 * r ∨ 272 + 3 * r + 2 < k) : chC σ r c y d k = σ k := by
  unfold chC
  rw [m_up_row (by omega), m_up_row (by omega), m_up_row (by omega)]
theorem chC_0 {σ : Mu} {r c : Nat} {y d : Int32} {s : Nat} (h : s ≠ 5) : chC σ r c y d (272 + 3 * r) s = σ (272 + 3 * r) s := by
  unfold chC
  rw [m_up_ne (by omega), m_up_ne (by omega), m_up_ne (by omega)]
theorem chC_5 {σ : Mu} {r c : Nat} {y d : Int32} : chC σ r c y d (272 + 3 * r) 5 = nI (c + 1) := m_up_self _ _ _ _
theorem chC_1 {σ : Mu} {r c : Nat} {y d : Int32} (j : Nat) : chC σ r c y d (272 + 3 * r + 1) j = if j = c then d else σ (272 + 3 * r + 1) j := by
  unfold chC
  rw [m_up_ne (by omega), m_up_ne (by omega)]
  by_cases h : j = c
  · subst h; rw [m_up_self, if_pos rfl]
  · rw [m_up_ne (by omega), if_neg h]
theorem chC_2 {σ : Mu} {r c : Nat} {y d : Int32} (j : Nat) : chC σ r c y d (272 + 3 * r + 2) j = if j = c then y else σ (272 + 3 * r + 2) j := by
  unfold chC
  rw [m_up_ne (by omega)]
  by_cases h : j = c
  · subst h; rw [m_up_self, if_pos rfl]
  · rw [m_up_ne (by omega), m_up_ne (by omega), if_neg h]
theorem chC_cc {σ : Mu} {r c : Nat} {y d : Int32} (h : c < 5) : ccN (chC σ r c y d) r = c + 1 := by
  unfold ccN
  rw [chC_5, nI_clamp (by omega)]
theorem CV.w_ch {σ : Mu} {nr r : Nat} {y d : Nat} (hC : CV σ nr) (hr : r < nr) (h5 : ccN σ r < 5) (hy : y ≤ 999) (hd : d ≤ 1000000) : CV (chC σ r (ccN σ r) (nI y) (nI d)) nr := by
  have ec := chC_cc (σ := σ) (r := r) (y := nI y) (d := nI d) h5
  have ee : ekN (chC σ r (ccN σ r) (nI y) (nI d)) r = ekN σ r := by unfold ekN; rw [chC_0 (by decide)]
  have eb : brB (chC σ r (ccN σ r) (nI y) (nI d)) r = brB σ r := by unfold brB; rw [chC_0 (by decide)]
  obtain ⟨q1, q2, q3, q4, q5⟩ := hC.1.p4 hr
  obtain ⟨v1, v2, v3⟩ := hC.2.1.l hr
  refine hC.rule hr (fun k hk => chC_out hk) ⟨?_, ?_, ?_, ?_, ?_⟩ ⟨?_, ?_, fun j hj => ?_⟩
  · rw [chC_0 (by decide), ee]; exact q1
  · rw [ee]; exact q2
  · rw [chC_5, ec]
  · rw [ec]; omega
  · rw [chC_0 (by decide), eb]; exact q5
  · rw [chC_0 (by decide)]; exact v1
  · rw [chC_0 (by decide)]; exact v2
  · rw [ec] at hj
    rw [chC_1, chC_2]
    by_cases e : j = ccN σ r
    · rw [if_pos e, if_pos e]; exact ⟨⟨y, hy, rfl⟩, d, hd, rfl⟩
    · rw [if_neg e, if_neg e]; exact v3 j (by omega)
theorem MR.w_ch {σ μ : Mu} {nr r : Nat} {y d : Int32} (h : MR σ μ nr) (hI : CI σ nr) (hr : r < nr) (h5 : ccN σ r < 5) : MR (chC σ r (ccN σ r) y d) (chM μ r (ccN σ r) y d) nr := by
  have ec := chC_cc (σ := σ) (r := r) (y := y) (d := d) h5
  have ee : ekN (chC σ r (ccN σ r) y d) r = ekN σ r := by unfold ekN; rw [chC_0 (by decide)]
  have eb : brB (chC σ r (ccN σ r) y d) r = brB σ r := by unfold brB; rw [chC_0 (by decide)]
  have hnr := hI.nr
  have o3 : ∀ {k j : Nat}, ¬ (k = 255 ∧ j = r) → ¬ (k = 256 ∧ j = 6 * r + (ccN σ r + 1)) → ¬ (k = 257 ∧ j = 6 * r + (ccN σ r + 1)) → chM μ r (ccN σ r) y d k j = μ k j := fun h1 h2 h3 => by
    unfold chM
    rw [m_up_ne h3, m_up_ne h2, m_up_ne h1]
  refine h.rule hI hr (fun k hk => chC_out hk) (fun k hk => by unfold chM; rw [m_up_row (by omega), m_up_row (by omega), m_up_row (by omega)]) (fun j hj hne => ⟨⟨o3 (by omega) (by omega) (by omega), o3 (by omega) (by omega) (by omega), o3 (by omega) (by omega) (by omega), o3 (by omega) (by omega) (by omega)⟩, fun q hq => o3 (by omega) (by omega) (by omega), fun q hq => o3 (by omega) (by omega) (by omega)⟩) ?_
  obtain ⟨b1, b2, b3, b4, b5, b6, b7⟩ := h.1.r hr
  refine ⟨?_, ?_, ?_, ?_, ?_, ?_, fun j hj => ?_⟩
  · rw [o3 (by omega) (by omega) (by omega), ee]; exact b1
  · rw [o3 (by omega) (by omega) (by omega), chC_0 (by decide)]; exact b2
  · rw [o3 (by omega) (by omega) (by omega), eb]; exact b3
  · rw [ec]
    unfold chM
    rw [m_up_ne (by omega), m_up_ne (by omega), m_up_self]
  · rw [o3 (by omega) (by omega) (by omega), chC_0 (by decide)]; exact b5
  · rw [o3 (by omega) (by omega) (by omega)]; exact b6
  · rw [ec] at hj
    rw [chC_1, chC_2]
    by_cases e : j = ccN σ r
    · rw [if_pos e, if_pos e, e]
      unfold chM
      refine ⟨?_, ?_⟩
      · rw [m_up_ne (by omega), m_up_self]
      · rw [m_up_self]
    · rw [if_neg e, if_neg e, o3 (by omega) (by omega) (by omega), o3 (by omega) (by omega) (by omega)]
      exact b7 j (by omega)
theorem ke_change (μ : Mu) (nr : Nat) (x y d : Int32) : KE μ (F_change μ nr x y d).2 := by
  unfold F_change
  repeat' split
  all_goals first
    | exact KE.refl μ
    | exact (((KE.refl μ).up (by omega)).up (by omega)).up (by omega)
theorem st_change {μ : Mu} {nr : Nat} (h : INV μ nr) (x y d : Int32) : (F_change μ nr x y d).1 = (G_change μ (F_change μ nr x y d).2 nr x y d).1 ∧ INV (G_change μ (F_change μ nr x y d).2 nr x y d).2 nr := by
  obtain ⟨hC, hM⟩ := id h
  have hnr := hC.1.nr
  cases hR : okR nr x with
  | false =>
    rw [show F_change μ nr x y d = (-1, μ) by rw [F_change, if_pos hR]]
    show -1 = (G_change μ μ nr x y d).1 ∧ INV (G_change μ μ nr x y d).2 nr
    rw [G_change, if_pos hR]
    exact ⟨rfl, h.thr 0⟩
  | true =>
    obtain ⟨r, hr, rfl⟩ := okR_of hnr hR
    have hcr : (nI r).toNatClampNeg = r := nI_clamp (by omega)
    have hn : ¬ okR nr (nI r) = false := by rw [hR]; decide
    have hcc := (hC.1.cc hr).2
    by_cases hk : y < 0 ∨ 999 < y ∨ okD d = false
    · have hk2 : inB 0 999 y = false ∨ okD d = false := by
        rcases hk with q | q | q
        · left; rw [inB, decide_eq_false (not_not_intro q)]; rfl
        · left; rw [inB, decide_eq_false (not_not_intro q), Bool.and_false]
        · exact Or.inr q
      rw [show F_change μ nr (nI r) y d = (-2, μ) by rw [F_change, if_neg hn, if_pos hk]]
      show -2 = (G_change μ μ nr (nI r) y d).1 ∧ INV (G_change μ μ nr (nI r) y d).2 nr
      rw [G_change, if_neg hn, if_pos hk2]
      exact ⟨rfl, h.thr 0⟩
    · have hk2 : ¬ (inB 0 999 y = false ∨ okD d = false) := fun q => by
        rcases q with q | q
        · rcases inB_f q with q | q
          · exact hk (Or.inl q)
          · exact hk (Or.inr (Or.inl q))
        · exact hk (Or.inr (Or.inr q))
      have hd3 : okD d = true := by cases q : okD d with
        | false => exact absurd (Or.inr q) hk2
        | true => rfl
      obtain ⟨e, he, rfl⟩ := okD_t hd3
      obtain ⟨yy, hyy, rfl⟩ : ∃ n, n ≤ 999 ∧ y = nI n := by
        obtain ⟨n, hn2, e2⟩ := nI_of (fun q => hk (Or.inl q))
        refine ⟨n, ?_, e2⟩
        have q : ¬ 999 < y := fun q => hk (Or.inr (Or.inl q))
        rw [e2, i_lt (show (999 : Int32).toInt = 999 by decide) (nI_toInt hn2)] at q
        omega
      have cond : ∀ μ1 : Mu, KE μ μ1 → ((0 < ccN μ r ∧ ¬ μ (272 + 3 * r + 1) (ccN μ r - 1) < nI e) ↔ ¬ μ1 257 (6 * r + ccN μ r) < nI e) := by
        intro μ1 hke
        rw [hke 257 (by decide) (by decide)]
        cases hz : ccN μ r with
        | zero =>
          rw [show 6 * r + 0 = 6 * r from rfl, hM.1.s0 hr]
          constructor
          · intro q; exact absurd q.1 (Nat.lt_irrefl _)
          · intro q
            exact absurd (show (-1 : Int32) < nI e by rw [i_lt (show (-1 : Int32).toInt = -1 by decide) (nI_toInt (show e < 2 ^ 31 by omega))]; omega) q
        | succ c =>
          rw [hM.1.sn hr (show c < ccN μ r by omega), Nat.add_sub_cancel]
          exact ⟨fun q => q.2, fun q => ⟨Nat.succ_pos _, q⟩⟩
      by_cases hs : 0 < ccN μ r ∧ ¬ μ (272 + 3 * r + 1) (ccN μ r - 1) < nI e
      · rw [show F_change μ nr (nI r) (nI yy) (nI e) = (-3, μ) by rw [F_change, if_neg hn, if_neg hk, hcr, if_pos hs]]
        show -3 = (G_change μ μ nr (nI r) (nI yy) (nI e)).1 ∧ INV (G_change μ μ nr (nI r) (nI yy) (nI e)).2 nr
        rw [G_change, if_neg hn, if_neg hk2, hcr, if_pos ((cond μ (KE.refl μ)).mp hs)]
        exact ⟨rfl, h.thr 0⟩
      · by_cases h5 : ccN μ r < 5
        · have eF : F_change μ nr (nI r) (nI yy) (nI e) = (1, chC μ r (ccN μ r) (nI yy) (nI e)) := by rw [F_change, if_neg hn, if_neg hk, hcr, if_neg hs, if_pos h5, nI_1]; rfl
          rw [eF]
          have hke : KE μ (chC μ r (ccN μ r) (nI yy) (nI e)) := fun k h1 h2 => chC_out (by omega)
          show 1 = (G_change μ (chC μ r (ccN μ r) (nI yy) (nI e)) nr (nI r) (nI yy) (nI e)).1 ∧ INV (G_change μ (chC μ r (ccN μ r) (nI yy) (nI e)) nr (nI r) (nI yy) (nI e)).2 nr
          rw [G_change, if_neg hn, if_neg hk2, hcr, if_neg (fun q => hs ((cond _ hke).mpr q)), if_neg (by omega)]
          refine ⟨rfl, INV.of (hC.w_ch hr h5 hyy he) (((hM.ke hke).thr 0).w_ch hC.1 hr h5) (((((CE.refl _).up (by decide) (by decide)).up (by decide) (by decide)).up (by decide) (by decide)).up (by decide) (by decide))⟩
        · rw [show F_change μ nr (nI r) (nI yy) (nI e) = (-4, μ) by rw [F_change, if_neg hn, if_neg hk, hcr, if_neg hs, if_neg h5]]
          show -4 = (G_change μ μ nr (nI r) (nI yy) (nI e)).1 ∧ INV (G_change μ μ nr (nI r) (nI yy) (nI e)).2 nr
          rw [G_change, if_neg hn, if_neg hk2, hcr, if_neg (fun q => hs ((cond μ (KE.refl μ)).mpr q)), if_pos (by omega)]
          exact ⟨rfl, h.thr 0⟩
