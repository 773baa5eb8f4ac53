/-- the text's parts alone -/
theorem CV.text {σ σ' : Mu} {nr : Nat} (h : CV σ nr) (hk : ∀ k, k ≠ 1 → k ≠ 2 → σ' k = σ k) (h8 : CI8 σ') (hB : BR σ') : CV σ' nr := by
  obtain ⟨hI, hV, -, hC, hZ⟩ := h
  refine ⟨CI.mk ?_ (fun r hr => ?_) (fun k hk2 => ?_) (fun j hj => ?_) (fun j hj => ?_) ?_ ?_ h8, VR.mk (fun j hj => (hV.u hj).congr (hk _ (by omega) (by omega)) (hk _ (by omega) (by omega))) (fun j hj => (hV.l hj).congr (hk _ (by omega) (by omega)) (hk _ (by omega) (by omega)) (hk _ (by omega) (by omega))), hB, ?_, fun k j hk2 => by rw [hk _ (by omega) (by omega)]; exact hZ k j hk2⟩
  · rw [hk 0 (by decide) (by decide)]; exact ⟨hI.nr, hI.rc⟩
  · rw [hk 3 (by decide) (by decide)]; exact hI.ru hr
  · rw [hk 4 (by decide) (by decide)]; exact hI.un hk2
  · have q := hk (272 + 3 * j) (by omega) (by omega)
    exact (hI.p4 hj).congr (by rw [q]) (by rw [q]) (by rw [q])
  · exact (hI.p5 hj).congr (by rw [hk _ (by omega) (by omega)]) (hk _ (by omega) (by omega))
  · exact hI.p6.congr (by rw [hk 0 (by decide) (by decide)]) (hk 249 (by decide) (by decide))
  · exact hI.p7.congr (by rw [hk 245 (by decide) (by decide)])
  · rw [cnt_congr (σ := σ) 60 (fun j hj => by rw [hk _ (by omega) (by omega)]), ← hC]
    unfold dnN
    rw [hk 0 (by decide) (by decide)]
theorem MR.text {σ σ' μ μ' : Mu} {nr : Nat} (h : MR σ μ nr) (hI : CI σ nr) (hk : ∀ k, k ≠ 1 → k ≠ 2 → σ' k = σ k) (hm : ∀ k, k ≠ 250 → k ≠ 251 → μ' k = μ k) (h4 : μ' 250 4 = μ 250 4 ∧ μ' 250 22 = μ 250 22 ∧ μ' 250 20 = μ 250 20) (ht : μ' 250 2 = nI (tlN σ') ∧ ∀ j, j < tlN σ' → μ' 251 j = (σ' 2 j).toInt8.toInt32) : MR σ' μ' nr := by
  refine ⟨MU.mk ?_ (fun j hj => ?_) (fun j h1 h2 => ?_) (fun j hj => ?_), ?_, ?_, ht⟩
  · rw [h4.1]; exact h.1.ru
  · exact (h.1.r hj).congr (hk _ (by omega) (by omega)) (hk _ (by omega) (by omega)) (hk _ (by omega) (by omega)) (by rw [hm 252 (by decide) (by decide)]) (by rw [hm 253 (by decide) (by decide)]) (by rw [hm 254 (by decide) (by decide)]) (by rw [hm 255 (by decide) (by decide)]) (fun _ _ => by rw [hm 256 (by decide) (by decide)]) (fun _ _ => by rw [hm 257 (by decide) (by decide)]) (hI.cc hj).2
  · rw [hm 254 (by decide) (by decide), hm 255 (by decide) (by decide)]; exact h.1.z h1 h2
  · exact (h.1.un hj).congr (hk _ (by omega) (by omega)) (hk _ (by omega) (by omega)) (hk _ (by omega) (by omega)) (hk _ (by omega) (by omega)) (fun _ _ => ⟨by rw [hm 258 (by decide) (by decide)], by rw [hm 259 (by decide) (by decide)], by rw [hm 261 (by decide) (by decide)]⟩) ⟨by rw [hm 260 (by decide) (by decide)], by rw [hm 262 (by decide) (by decide)], by rw [hm 263 (by decide) (by decide)], by rw [hm 264 (by decide) (by decide)], by rw [hm 265 (by decide) (by decide)], by rw [hm 266 (by decide) (by decide)]⟩ (hI.rn hj).2
  · have q := h.2.1
    unfold lnN at q ⊢
    rw [hk 245 (by decide) (by decide), hk 246 (by decide) (by decide), hk 247 (by decide) (by decide), hk 248 (by decide) (by decide), h4.2.1, hm 268 (by decide) (by decide), hm 269 (by decide) (by decide), hm 270 (by decide) (by decide)]
    exact q
  · have q := h.2.2.1
    unfold dnN diN at q ⊢
    rw [hk 0 (by decide) (by decide), hk 249 (by decide) (by decide), h4.2.2, hm 267 (by decide) (by decide)]
    exact q
theorem ke_sign (μ : Mu) (c : Int32) : KE μ (collectM μ c) := by
  unfold collectM
  split
  · exact ((KE.refl μ).up (by omega)).up (by omega)
  · exact KE.refl μ
theorem st_sign {μ : Mu} {nr : Nat} (h : INV μ nr) (c : Int32) : INV (G_sign μ (collectM μ c) c) nr := by
  obtain ⟨hC, hM⟩ := id h
  have ht := hC.1.tl.2
  by_cases h4 : tlN μ < 40
  · have e1 : collectM μ c = m_up (m_up μ 2 (tlN μ) (c &&& 255)) 1 1 (nI (tlN μ + 1)) := by unfold collectM; rw [if_pos h4, nI_1]
    have hke := ke_sign μ c
    unfold G_sign
    rw [if_neg (by omega)]
    rw [e1] at hke ⊢
    have et : tlN (m_up (m_up μ 2 (tlN μ) (c &&& 255)) 1 1 (nI (tlN μ + 1))) = tlN μ + 1 := by
      show (m_up (m_up μ 2 (tlN μ) (c &&& 255)) 1 1 (nI (tlN μ + 1)) 1 1).toNatClampNeg = _
      rw [m_up_self, nI_clamp (by omega)]
    have e2 : ∀ j, m_up (m_up μ 2 (tlN μ) (c &&& 255)) 1 1 (nI (tlN μ + 1)) 2 j = if j = tlN μ then c &&& 255 else μ 2 j := fun j => by
      rw [m_up_ne (by omega)]
      by_cases q : j = tlN μ
      · rw [q, m_up_self, if_pos rfl]
      · rw [m_up_ne (by omega), if_neg q]
    refine INV.of (σ' := m_up (m_up μ 2 (tlN μ) (c &&& 255)) 1 1 (nI (tlN μ + 1))) (hC.text (fun k h1 h2 => by rw [m_up_row h1, m_up_row h2]) ⟨?_, ?_⟩ (fun j hj => ?_)) ((hM.ke hke).text hC.1 (fun k h1 h2 => by rw [m_up_row h1, m_up_row h2]) (fun k h1 h2 => by rw [m_up_row h1, m_up_row h2, m_up_row h1]) ⟨?_, ?_, ?_⟩ ⟨?_, fun j hj => ?_⟩) ((((CE.refl _).up (by decide) (by decide)).up (by decide) (by decide)).up (by decide) (by decide))
    · rw [et, m_up_self]
    · rw [et]; omega
    · rw [et] at hj
      rw [e2]
      by_cases q : j = tlN μ
      · rw [if_pos q]
        obtain ⟨n, hn, e⟩ := pk_andE c (m := 255) 8 (by decide)
        exact ⟨n, by omega, e⟩
      · rw [if_neg q]; exact hC.2.2.1 j (by omega)
    · rw [m_up_ne (by omega), m_up_row (by decide), m_up_ne (by omega)]
    · rw [m_up_ne (by omega), m_up_row (by decide), m_up_ne (by omega)]
    · rw [m_up_ne (by omega), m_up_row (by decide), m_up_ne (by omega)]
    · rw [et, m_up_self]
    · rw [et] at hj
      rw [e2, m_up_row (by decide)]
      by_cases q : j = tlN μ
      · rw [if_pos q, q, m_up_self, and_b8]
      · rw [if_neg q, m_up_ne (by omega), m_up_row (by decide), m_up_row (by decide), m_up_row (by decide)]
        exact hM.tx (by omega)
  · have e1 : collectM μ c = μ := by unfold collectM; rw [if_neg h4]
    unfold G_sign
    rw [if_pos (by omega), e1]
    exact h.thr 0
/-! the throwing calls -/
theorem MR.out {σ μ : Mu} {nr : Nat} (h : MR σ μ nr) (x : Int32) : MR σ (m_up μ 271 0 x) nr :=
  ⟨h.1.of (fun k h1 _ => m_up_row (by omega)) (m_up_ne (by omega)), h.2.of (fun k h1 _ => m_up_row (by omega)) ⟨m_up_ne (by omega), m_up_ne (by omega), m_up_ne (by omega)⟩⟩
theorem INV.out {μ : Mu} {nr : Nat} (h : INV μ nr) (x : Int32) : INV (m_up μ 271 0 x) nr := INV.of h.1 (h.2.out x) ((CE.refl μ).up (by decide) (by decide))
theorem at_eq {μ : Mu} {nr : Nat} (hI : CI μ nr) (x w : Int32) : atC μ x w = atB μ x w := by
  unfold atC atB
  congr 1
  rw [inB_hist hI.ln.2, hI.ln.1]
  by_cases h1 : x < 0
  · simp [h1]
  · by_cases h2 : nI (lnN μ) ≤ x
    · simp [h1, h2]
    · simp [h1, h2]
theorem st_at {μ : Mu} {nr : Nat} (h : INV μ nr) (x w v : Int32) (hq : atC μ x w = true) : G_at μ (m_up μ 271 0 v) x w = (f_told μ x.toNatClampNeg w, m_up (m_up μ 271 0 v) 250 0 0) := by
  obtain ⟨hC, hM⟩ := id h
  obtain ⟨j, hj, rfl, hw⟩ := atC_ix hC.1 hq
  have hl := hC.1.ln.2
  unfold G_at f_told
  rw [if_neg (by rw [← at_eq hC.1, hq]; decide), nI_clamp (show j < 2 ^ 31 by omega), m_up_row (by decide), m_up_row (by decide), m_up_row (by decide), (hM.li hj).1, (hM.li hj).2.1, (hM.li hj).2.2]
theorem st_at0 {μ : Mu} {nr : Nat} (h : INV μ nr) (x w : Int32) (hq : atC μ x w = false) : G_at μ μ x w = (0, m_up μ 250 0 1) := by
  unfold G_at
  rw [if_pos (by rw [← at_eq h.1.1]; exact hq)]
/-! a rule told -/
theorem rd_ok (tx : Nat → Int32) (T : Nat) (h : (rd tx T).1 = true) : (rd tx T).2.2.1 < 4 ∧ (∃ y, y ≤ 999 ∧ (rd tx T).2.2.2.1 = nI y) ∧ (rd tx T).2.2.2.2 < 2 := by
  have h1 := evK_le tx 0 (wE tx 41 0)
  have h2 := acK_le tx ((dgR tx 3 (wE tx 41 0 + 1) 0).1 + 1) (wE tx 41 ((dgR tx 3 (wE tx 41 0 + 1) 0).1 + 1))
  unfold rd at h ⊢
  split at h
  · cases h
  · rename_i k1
    rw [if_neg k1]
    split at h
    · cases h
    · rename_i k2
      rw [if_neg k2]
      split at h
      · cases h
      · rename_i k3
        rw [if_neg k3]
        split at h
        · cases h
        · rename_i k4
          rw [if_neg k4]
          split at h
          · cases h
          · rename_i k5
            rw [if_neg k5]
            split at h
            · cases h
            · rename_i k6
              rw [if_neg k6]
              refine ⟨?_, dg_val tx (wE tx 41 0 + 1), ?_⟩
              · show evK tx 0 (wE tx 41 0) < 4
                omega
              · show acK tx ((dgR tx 3 (wE tx 41 0 + 1) 0).1 + 1) (wE tx 41 ((dgR tx 3 (wE tx 41 0 + 1) 0).1 + 1)) < 2
                omega
theorem TS.ke {μ ν : Mu} (h : TS μ ν) : KE μ (m_up ν 1 1 0) := fun k h1 h2 => by
  rw [m_up_row (by omega)]
  funext j
  exact h k j (Or.inl (by omega))
/-- a text that is no rule, or for which there is no room -/
theorem st_rule0 {μ ν : Mu} {nr : Nat} (h : INV μ nr) (ht : TS μ ν) (q : Nat) : INV (m_up (rlN (m_up (m_up ν 1 1 0) 250 0 0) q) 250 2 0) nr := by
  obtain ⟨hC, hM⟩ := id h
  have e0 : tlN (m_up ν 1 1 0) = 0 := by
    show (m_up ν 1 1 0 1 1).toNatClampNeg = 0
    rw [m_up_self]; rfl
  have hk : ∀ k, k ≠ 1 → k ≠ 2 → m_up ν 1 1 0 k = μ k := fun k h1 h2 => by
    rw [m_up_row h1]
    funext j
    exact ht k j (Or.inl h1)
  refine INV.of (σ' := m_up ν 1 1 0) (hC.text hk ⟨?_, ?_⟩ (fun j hj => ?_)) ((hM.ke ht.ke).text hC.1 hk (fun k h1 h2 => ?_) ⟨?_, ?_, ?_⟩ ⟨?_, fun j hj => ?_⟩) ((((CE.refl _).up (by decide) (by decide)).up (by decide) (by decide)).up (by decide) (by decide))
  · rw [e0, m_up_self, nI_0]
  · rw [e0]; omega
  · rw [e0] at hj; omega
  · unfold rlN
    rw [m_up_row h1, m_up_row h1, m_up_row h1]
  · unfold rlN
    rw [m_up_ne (by omega), m_up_ne (by omega), m_up_ne (by omega)]
  · unfold rlN
    rw [m_up_ne (by omega), m_up_ne (by omega), m_up_ne (by omega)]
  · unfold rlN
    rw [m_up_ne (by omega), m_up_ne (by omega), m_up_ne (by omega)]
  · rw [e0, m_up_self, nI_0]
  · rw [e0] at hj; omega
/-- the class's cells behind a new rule -/
def ruC (ν : Mu) (nr ek : Nat) (yr : Int32) (ac : Nat) : Mu := m_up (m_up (m_up (m_up (m_up (m_up ν 1 1 0) (272 + 3 * nr) 0 (nI ek)) (272 + 3 * nr) 1 yr) (272 + 3 * nr) 2 (nI ac)) 3 nr (nI (272 + 3 * nr + 1))) 0 2 (nI (nr + 1))
theorem st_rule {μ ν : Mu} {nr ek ac y : Nat} (h : INV μ nr) (ht : TS μ ν) (hn : nr < 20) (he : ek < 4) (hy : y ≤ 999) (ha : ac < 2) (q : Nat) : INV (m_up (m_up (rlW (m_up (ruC ν nr ek (nI y) ac) 250 0 0) q nr ek (nI y) ac) 250 2 0) 250 4 (nI (nr + 1))) (nr + 1) := by
  obtain ⟨hC, hM⟩ := id h
  obtain ⟨hI, hV, -, hCn, hZ⟩ := id hC
  have oS : ∀ {k : Nat}, k ≠ 0 → k ≠ 1 → k ≠ 3 → k ≠ 272 + 3 * nr → ruC ν nr ek (nI y) ac k = μ k := fun h1 h2 h3 h4 => by
    unfold ruC
    rw [m_up_row h1, m_up_row h3, m_up_row h4, m_up_row h4, m_up_row h4, m_up_row h2]
    funext j
    exact ht _ j (Or.inl h2)
  have o0 : ∀ {s : Nat}, s ≠ 2 → ruC ν nr ek (nI y) ac 0 s = μ 0 s := fun h1 => by
    unfold ruC
    rw [m_up_ne (by omega), m_up_ne (by omega), m_up_ne (by omega), m_up_ne (by omega), m_up_ne (by omega), m_up_ne (by omega)]
    exact ht 0 _ (Or.inl (by decide))
  have o02 : ruC ν nr ek (nI y) ac 0 2 = nI (nr + 1) := m_up_self _ _ _ _
  have o3 : ∀ r, ruC ν nr ek (nI y) ac 3 r = if r = nr then nI (272 + 3 * nr + 1) else μ 3 r := fun r => by
    unfold ruC
    rw [m_up_ne (by omega)]
    by_cases e : r = nr
    · rw [if_pos e, e, m_up_self]
    · rw [if_neg e, m_up_ne (by omega), m_up_ne (by omega), m_up_ne (by omega), m_up_ne (by omega), m_up_ne (by omega)]
      exact ht 3 _ (Or.inl (by decide))
  have o1 : ruC ν nr ek (nI y) ac 1 1 = 0 := by
    unfold ruC
    rw [m_up_ne (by omega), m_up_ne (by omega), m_up_ne (by omega), m_up_ne (by omega), m_up_ne (by omega), m_up_self]
  have z : ∀ s, ν (272 + 3 * nr) s = 0 := fun s => (ht _ s (Or.inl (by omega))).trans (hZ _ s (Nat.le_refl _))
  have r0 : ruC ν nr ek (nI y) ac (272 + 3 * nr) 0 = nI ek := by
    unfold ruC
    rw [m_up_ne (by omega), m_up_ne (by omega), m_up_ne (by omega), m_up_ne (by omega), m_up_self]
  have r1 : ruC ν nr ek (nI y) ac (272 + 3 * nr) 1 = nI y := by
    unfold ruC
    rw [m_up_ne (by omega), m_up_ne (by omega), m_up_ne (by omega), m_up_self]
  have r2 : ruC ν nr ek (nI y) ac (272 + 3 * nr) 2 = nI ac := by
    unfold ruC
    rw [m_up_ne (by omega), m_up_ne (by omega), m_up_self]
  have r56 : ∀ {s : Nat}, 2 < s → ruC ν nr ek (nI y) ac (272 + 3 * nr) s = 0 := fun h1 => by
    unfold ruC
    rw [m_up_ne (by omega), m_up_ne (by omega), m_up_ne (by omega), m_up_ne (by omega), m_up_ne (by omega), m_up_ne (by omega)]
    exact z _
  have ec : ccN (ruC ν nr ek (nI y) ac) nr = 0 := by unfold ccN; rw [r56 (by decide)]; rfl
  have ee : ekN (ruC ν nr ek (nI y) ac) nr = ek := by unfold ekN; rw [r0, nI_clamp (by omega)]
  have eb : brB (ruC ν nr ek (nI y) ac) nr = false := by unfold brB; rw [r56 (by decide)]; rfl
  have et : tlN (ruC ν nr ek (nI y) ac) = 0 := by unfold tlN; rw [o1]; rfl
  have hke : KE μ (ruC ν nr ek (nI y) ac) := fun k h1 h2 => oS (by omega) (by omega) (by omega) (by omega)
  have cv : CV (ruC ν nr ek (nI y) ac) (nr + 1) := by
    refine ⟨CI.mk ⟨by omega, o02⟩ (fun r hr => ?_) (fun k hk2 => ?_) (fun j hj => ?_) (fun j hj => ?_) ?_ ?_ ⟨?_, ?_⟩, VR.mk (fun j hj => ?_) (fun j hj => ?_), fun j hj => ?_, ?_, fun k j hk2 => ?_⟩
    · rw [o3]
      by_cases e : r = nr
      · rw [if_pos e, e]
      · rw [if_neg e]; exact hI.ru (by omega)
    · rw [oS (by decide) (by decide) (by decide) (by omega)]; exact hI.un hk2
    · by_cases e : j = nr
      · subst e
        exact ⟨by rw [r0, ee], by rw [ee]; exact he, by rw [r56 (by decide), ec, nI_0], by rw [ec]; omega, by rw [r56 (by decide), eb]; rfl⟩
      · have q := oS (k := 272 + 3 * j) (by omega) (by omega) (by omega) (by omega)
        exact (hI.p4 (show j < nr by omega)).congr (by rw [q]) (by rw [q]) (by rw [q])
    · obtain ⟨u1, u2, u3⟩ := (hI.p5 hj).congr (σ' := ruC ν nr ek (nI y) ac) (by rw [oS (by omega) (by omega) (by omega) (by omega)]) (oS (by omega) (by omega) (by omega) (by omega))
      exact ⟨u1, u2, fun t ht => ⟨(u3 t ht).1, Nat.lt_succ_of_lt (u3 t ht).2⟩⟩
    · exact hI.p6.congr (o0 (by decide)) (oS (by decide) (by decide) (by decide) (by omega))
    · exact hI.p7.congr (by rw [oS (by decide) (by decide) (by decide) (by omega)])
    · rw [et, o1, nI_0]
    · rw [et]; omega
    · exact (hV.u hj).congr (oS (by omega) (by omega) (by omega) (by omega)) (oS (by omega) (by omega) (by omega) (by omega))
    · by_cases e : j = nr
      · subst e
        refine ⟨⟨y, hy, r1⟩, ?_, fun t ht => ?_⟩
        · rw [r2]
          rcases (show ac = 0 ∨ ac = 1 by omega) with rfl | rfl
          · exact Or.inl nI_0
          · exact Or.inr (by decide)
        · rw [ec] at ht; omega
      · exact (hV.l (show j < nr by omega)).congr (oS (by omega) (by omega) (by omega) (by omega)) (oS (by omega) (by omega) (by omega) (by omega)) (oS (by omega) (by omega) (by omega) (by omega))
    · rw [et] at hj; omega
    · rw [cnt_congr (σ := μ) 60 (fun j hj => by rw [oS (by omega) (by omega) (by omega) (by omega)]), ← hCn]
      unfold dnN
      rw [o0 (by decide)]
    · rw [oS (by omega) (by omega) (by omega) (by omega)]; exact hZ k j (by omega)
  have hm0 : MR μ (m_up (ruC ν nr ek (nI y) ac) 250 0 0) nr := (hM.ke hke).thr 0
  generalize hμ : m_up (ruC ν nr ek (nI y) ac) 250 0 0 = κ at hm0 ⊢
  have hκ : CE (ruC ν nr ek (nI y) ac) κ := by rw [← hμ]; exact (CE.refl _).up (by decide) (by decide)
  have oM : ∀ {k j : Nat}, ¬ (k = 250 ∧ (j = 2 ∨ j = 3 ∨ j = 4)) → ¬ (k = 252 ∧ j = nr) → ¬ (k = 253 ∧ j = nr) → ¬ (k = 256 ∧ j = 6 * nr) → ¬ (k = 257 ∧ j = 6 * nr) → m_up (m_up (rlW κ q nr ek (nI y) ac) 250 2 0) 250 4 (nI (nr + 1)) k j = κ k j := fun h1 h2 h3 h4 h5 => by
    unfold rlW
    rw [m_up_ne (by omega), m_up_ne (by omega), m_up_ne (by omega), m_up_ne (by omega), m_up_ne (by omega), m_up_ne (by omega), m_up_ne (by omega)]
  have mr : MR (ruC ν nr ek (nI y) ac) (m_up (m_up (rlW κ q nr ek (nI y) ac) 250 2 0) 250 4 (nI (nr + 1))) (nr + 1) := by
    refine ⟨MU.mk (m_up_self _ _ _ _) (fun j hj => ?_) (fun j h1 h2 => ?_) (fun j hj => ?_), ?_, ?_, ?_, fun j hj => ?_⟩
    · by_cases e : j = nr
      · subst e
        have hz := hm0.1.z (Nat.le_refl j) hn
        refine ⟨?_, ?_, ?_, ?_, ?_, ?_, fun t ht => ?_⟩
        · rw [ee]; unfold rlW; rw [m_up_ne (by omega), m_up_ne (by omega), m_up_ne (by omega), m_up_ne (by omega), m_up_ne (by omega), m_up_self]
        · rw [r2]; unfold rlW; rw [m_up_ne (by omega), m_up_ne (by omega), m_up_self]
        · rw [eb, oM (by omega) (by omega) (by omega) (by omega) (by omega), hz.1]; rfl
        · rw [ec, oM (by omega) (by omega) (by omega) (by omega) (by omega), hz.2, nI_0]
        · rw [r1]; unfold rlW; rw [m_up_ne (by omega), m_up_ne (by omega), m_up_ne (by omega), m_up_ne (by omega), m_up_self]
        · unfold rlW; rw [m_up_ne (by omega), m_up_ne (by omega), m_up_ne (by omega), m_up_self]
        · rw [ec] at ht; omega
      · exact (hm0.1.r (show j < nr by omega)).congr (oS (by omega) (by omega) (by omega) (by omega)) (oS (by omega) (by omega) (by omega) (by omega)) (oS (by omega) (by omega) (by omega) (by omega)) (oM (by omega) (by omega) (by omega) (by omega) (by omega)) (oM (by omega) (by omega) (by omega) (by omega) (by omega)) (oM (by omega) (by omega) (by omega) (by omega) (by omega)) (oM (by omega) (by omega) (by omega) (by omega) (by omega)) (fun t ht => oM (by omega) (by omega) (by omega) (by omega) (by omega)) (fun t ht => oM (by omega) (by omega) (by omega) (by omega) (by omega)) (hI.cc (show j < nr by omega)).2
    · rw [oM (by omega) (by omega) (by omega) (by omega) (by omega), oM (by omega) (by omega) (by omega) (by omega) (by omega)]; exact hm0.1.z (by omega) h2
    · exact (hm0.1.un hj).congr (oS (by omega) (by omega) (by omega) (by omega)) (oS (by omega) (by omega) (by omega) (by omega)) (oS (by omega) (by omega) (by omega) (by omega)) (oS (by omega) (by omega) (by omega) (by omega)) (fun _ _ => ⟨oM (by omega) (by omega) (by omega) (by omega) (by omega), oM (by omega) (by omega) (by omega) (by omega) (by omega), oM (by omega) (by omega) (by omega) (by omega) (by omega)⟩) ⟨oM (by omega) (by omega) (by omega) (by omega) (by omega), oM (by omega) (by omega) (by omega) (by omega) (by omega), oM (by omega) (by omega) (by omega) (by omega) (by omega), oM (by omega) (by omega) (by omega) (by omega) (by omega), oM (by omega) (by omega) (by omega) (by omega) (by omega), oM (by omega) (by omega) (by omega) (by omega) (by omega)⟩ (hI.rn hj).2
    · have l := hm0.2.1
      have el : lnN (ruC ν nr ek (nI y) ac) = lnN μ := by unfold lnN; rw [oS (by decide) (by decide) (by decide) (by omega)]
      rw [el, oM (by omega) (by omega) (by omega) (by omega) (by omega)]
      refine ⟨l.1, fun j hj => ?_⟩
      rw [oM (by omega) (by omega) (by omega) (by omega) (by omega), oM (by omega) (by omega) (by omega) (by omega) (by omega), oM (by omega) (by omega) (by omega) (by omega) (by omega), oS (by decide) (by decide) (by decide) (by omega), oS (by decide) (by decide) (by decide) (by omega), oS (by decide) (by decide) (by decide) (by omega)]
      exact l.2 j hj
    · have l := hm0.2.2.1
      have el : dnN (ruC ν nr ek (nI y) ac) = dnN μ := by unfold dnN; rw [o0 (by decide)]
      have ed : ∀ j, diN (ruC ν nr ek (nI y) ac) j = diN μ j := fun j => by unfold diN; rw [oS (by decide) (by decide) (by decide) (by omega)]
      rw [el, oM (by omega) (by omega) (by omega) (by omega) (by omega)]
      refine ⟨l.1, fun j hj => ?_⟩
      rw [oM (by omega) (by omega) (by omega) (by omega) (by omega), ed]
      exact l.2 j hj
    · rw [et, m_up_ne (by omega), m_up_self, nI_0]
    · rw [et] at hj; omega
  refine INV.of cv mr (hκ.trans ?_)
  unfold rlW
  exact (((((((CE.refl κ).up (by decide) (by decide)).up (by decide) (by decide)).up (by decide) (by decide)).up (by decide) (by decide)).up (by decide) (by decide)).up (by decide) (by decide)).up (by decide) (by decide)
