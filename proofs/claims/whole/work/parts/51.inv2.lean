theorem CV.unit {σ σ' : Mu} {nr i : Nat} (h : CV σ nr) (hi : i < 60) (hk : ∀ k, (k < 5 + 4 * i ∨ 5 + 4 * i + 3 < k) → σ' k = σ k) (h5 : CI5 σ' nr i) (hv : VU σ' i) (h7 : σ' (5 + 4 * i) 7 = σ (5 + 4 * i) 7) : CV σ' nr := by
  obtain ⟨hI, hV, hB, hC, hZ⟩ := h
  refine ⟨CI.mk ?_ (fun r hr => ?_) (fun k hk2 => ?_) (fun r hr => ?_) (fun j hj => ?_) ?_ ?_ ?_, VR.mk (fun j hj => ?_) (fun r hr => ?_), hB.congr (by rw [hk 1 (by omega)]) (hk 2 (by omega)), ?_, fun k j hk2 => by rw [hk k (by omega)]; exact hZ k j hk2⟩
  · rw [hk 0 (by omega)]; exact ⟨hI.nr, hI.rc⟩
  · rw [hk 3 (by omega)]; exact hI.ru hr
  · rw [hk 4 (by omega)]; exact hI.un hk2
  · have q := hk (272 + 3 * r) (by omega)
    exact (hI.p4 hr).congr (by rw [q]) (by rw [q]) (by rw [q])
  · by_cases e : j = i
    · subst e; exact h5
    · exact (hI.p5 hj).congr (by rw [hk _ (by omega)]) (hk _ (by omega))
  · exact hI.p6.congr (by rw [hk 0 (by omega)]) (hk 249 (by omega))
  · exact hI.p7.congr (by rw [hk 245 (by omega)])
  · exact hI.p8.congr (by rw [hk 1 (by omega)])
  · by_cases e : j = i
    · subst e; exact hv
    · exact (hV.u hj).congr (hk _ (by omega)) (hk _ (by omega))
  · exact (hV.l hr).congr (hk _ (by omega)) (hk _ (by omega)) (hk _ (by omega))
  · rw [cnt_congr (σ := σ) 60 (fun j hj => by
      by_cases e : j = i
      · subst e; exact h7
      · rw [hk _ (by omega)])]
    rw [← hC]
    unfold dnN
    rw [hk 0 (by omega)]
theorem MR.unit {σ σ' μ μ' : Mu} {nr i : Nat} (h : MR σ μ nr) (hI : CI σ nr) (hi : i < 60) (hk : ∀ k, (k < 5 + 4 * i ∨ 5 + 4 * i + 3 < k) → σ' k = σ k) (hr : ∀ k, (k < 258 ∨ 266 < k) → μ' k = μ k) (ho : ∀ j, j < 60 → j ≠ i → (∀ q, q < 4 → μ' 258 (4 * j + q) = μ 258 (4 * j + q) ∧ μ' 259 (4 * j + q) = μ 259 (4 * j + q) ∧ μ' 261 (4 * j + q) = μ 261 (4 * j + q)) ∧ (μ' 260 j = μ 260 j ∧ μ' 262 j = μ 262 j ∧ μ' 263 j = μ 263 j ∧ μ' 264 j = μ 264 j ∧ μ' 265 j = μ 265 j ∧ μ' 266 j = μ 266 j)) (hu : UI σ' μ' i) : MR σ' μ' nr := by
  refine ⟨MU.mk ?_ (fun r hr2 => ?_) (fun r h1 h2 => ?_) (fun j hj => ?_), h.2.congr (by rw [hk 245 (by omega)]) ⟨hk _ (by omega), hk _ (by omega), hk _ (by omega)⟩ (by rw [hk 0 (by omega)]) (hk _ (by omega)) (by rw [hk 1 (by omega)]) (hk _ (by omega)) (fun k h1 h2 => hr k (by omega)) ⟨by rw [hr 250 (by omega)], by rw [hr 250 (by omega)], by rw [hr 250 (by omega)]⟩⟩
  · rw [hr 250 (by omega)]; exact h.1.ru
  · exact (h.1.r hr2).congr (hk _ (by omega)) (hk _ (by omega)) (hk _ (by omega)) (by rw [hr 252 (by omega)]) (by rw [hr 253 (by omega)]) (by rw [hr 254 (by omega)]) (by rw [hr 255 (by omega)]) (fun j _ => by rw [hr 256 (by omega)]) (fun j _ => by rw [hr 257 (by omega)]) (hI.cc hr2).2
  · rw [hr 254 (by omega), hr 255 (by omega)]; exact h.1.z h1 h2
  · by_cases e : j = i
    · subst e; exact hu
    · exact (h.1.un hj).congr (hk _ (by omega)) (hk _ (by omega)) (hk _ (by omega)) (hk _ (by omega)) (ho j hj e).1 (ho j hj e).2 (hI.rn hj).2
theorem MR.w_ex {σ μ : Mu} {nr i : Nat} {x : Int32} (h : MR σ μ nr) (hI : CI σ nr) (hi : i < 60) : MR (m_up σ (5 + 4 * i) 4 x) (m_up μ 262 i x) nr := by
  refine h.unit hI hi (fun k hk => m_up_row (by omega)) (fun k hk => m_up_row (by omega)) (fun j hj hne => ⟨fun q hq => ⟨m_up_ne (by omega), m_up_ne (by omega), m_up_ne (by omega)⟩, m_up_ne (by omega), m_up_ne (by omega), m_up_ne (by omega), m_up_ne (by omega), m_up_ne (by omega), m_up_ne (by omega)⟩) ?_
  obtain ⟨b1, b2, b3, b4, b5, b6, b7, b8⟩ := h.1.un hi
  have en : rnN (m_up σ (5 + 4 * i) 4 x) i = rnN σ i := by unfold rnN; rw [m_up_ne (by omega)]
  have ew : ∀ j, rwN (m_up σ (5 + 4 * i) 4 x) i j = rwN σ i j := fun j => by unfold rwN; rw [m_up_ne (by omega)]
  refine ⟨fun q hq => ?_, ?_, fun j hj => ?_, ?_, ?_, fun hh => ?_, ?_, ?_⟩
  · rw [m_up_ne (by omega), m_up_ne (by omega), m_up_ne (by omega), m_up_ne (by omega)]; exact b1 q hq
  · rw [m_up_ne (by omega), en]; exact b2
  · rw [en] at hj
    rw [m_up_ne (by omega), ew]; exact b3 j hj
  · rw [m_up_self, m_up_self]
  · rw [m_up_ne (by omega), m_up_ne (by omega)]; exact b5
  · rw [m_up_ne (by omega)] at hh
    rw [m_up_ne (by omega), m_up_ne (by omega)]; exact b6 hh
  · rw [m_up_ne (by omega), m_up_ne (by omega)]; exact b7
  · rw [m_up_ne (by omega), m_up_ne (by omega)]; exact b8
theorem MR.w_ap {σ μ : Mu} {nr i : Nat} {x : Int32} (h : MR σ μ nr) (hI : CI σ nr) (hi : i < 60) (hx : x = 1 → μ 264 i = σ (5 + 4 * i) 6) : MR (m_up σ (5 + 4 * i) 5 x) (m_up μ 263 i x) nr := by
  refine h.unit hI hi (fun k hk => m_up_row (by omega)) (fun k hk => m_up_row (by omega)) (fun j hj hne => ⟨fun q hq => ⟨m_up_ne (by omega), m_up_ne (by omega), m_up_ne (by omega)⟩, m_up_ne (by omega), m_up_ne (by omega), m_up_ne (by omega), m_up_ne (by omega), m_up_ne (by omega), m_up_ne (by omega)⟩) ?_
  obtain ⟨b1, b2, b3, b4, b5, b6, b7, b8⟩ := h.1.un hi
  have en : rnN (m_up σ (5 + 4 * i) 5 x) i = rnN σ i := by unfold rnN; rw [m_up_ne (by omega)]
  have ew : ∀ j, rwN (m_up σ (5 + 4 * i) 5 x) i j = rwN σ i j := fun j => by unfold rwN; rw [m_up_ne (by omega)]
  refine ⟨fun q hq => ?_, ?_, fun j hj => ?_, ?_, ?_, fun hh => ?_, ?_, ?_⟩
  · rw [m_up_ne (by omega), m_up_ne (by omega), m_up_ne (by omega), m_up_ne (by omega)]; exact b1 q hq
  · rw [m_up_ne (by omega), en]; exact b2
  · rw [en] at hj
    rw [m_up_ne (by omega), ew]; exact b3 j hj
  · rw [m_up_ne (by omega), m_up_ne (by omega)]; exact b4
  · rw [m_up_self, m_up_self]
  · rw [m_up_self] at hh
    rw [m_up_ne (by omega), m_up_ne (by omega)]; exact hx hh
  · rw [m_up_ne (by omega), m_up_ne (by omega)]; exact b7
  · rw [m_up_ne (by omega), m_up_ne (by omega)]; exact b8
theorem MR.w_fb {σ μ : Mu} {nr i : Nat} {x : Int32} (h : MR σ μ nr) (hI : CI σ nr) (hi : i < 60) : MR (m_up σ (5 + 4 * i) 6 x) (m_up μ 264 i x) nr := by
  refine h.unit hI hi (fun k hk => m_up_row (by omega)) (fun k hk => m_up_row (by omega)) (fun j hj hne => ⟨fun q hq => ⟨m_up_ne (by omega), m_up_ne (by omega), m_up_ne (by omega)⟩, m_up_ne (by omega), m_up_ne (by omega), m_up_ne (by omega), m_up_ne (by omega), m_up_ne (by omega), m_up_ne (by omega)⟩) ?_
  obtain ⟨b1, b2, b3, b4, b5, b6, b7, b8⟩ := h.1.un hi
  have en : rnN (m_up σ (5 + 4 * i) 6 x) i = rnN σ i := by unfold rnN; rw [m_up_ne (by omega)]
  have ew : ∀ j, rwN (m_up σ (5 + 4 * i) 6 x) i j = rwN σ i j := fun j => by unfold rwN; rw [m_up_ne (by omega)]
  refine ⟨fun q hq => ?_, ?_, fun j hj => ?_, ?_, ?_, fun hh => ?_, ?_, ?_⟩
  · rw [m_up_ne (by omega), m_up_ne (by omega), m_up_ne (by omega), m_up_ne (by omega)]; exact b1 q hq
  · rw [m_up_ne (by omega), en]; exact b2
  · rw [en] at hj
    rw [m_up_ne (by omega), ew]; exact b3 j hj
  · rw [m_up_ne (by omega), m_up_ne (by omega)]; exact b4
  · rw [m_up_ne (by omega), m_up_ne (by omega)]; exact b5
  · rw [m_up_self, m_up_self]
  · rw [m_up_ne (by omega), m_up_ne (by omega)]; exact b7
  · rw [m_up_ne (by omega), m_up_ne (by omega)]; exact b8
theorem MR.w_dp {σ μ : Mu} {nr i : Nat} {x : Int32} (h : MR σ μ nr) (hI : CI σ nr) (hi : i < 60) : MR (m_up σ (5 + 4 * i) 7 x) (m_up μ 265 i x) nr := by
  refine h.unit hI hi (fun k hk => m_up_row (by omega)) (fun k hk => m_up_row (by omega)) (fun j hj hne => ⟨fun q hq => ⟨m_up_ne (by omega), m_up_ne (by omega), m_up_ne (by omega)⟩, m_up_ne (by omega), m_up_ne (by omega), m_up_ne (by omega), m_up_ne (by omega), m_up_ne (by omega), m_up_ne (by omega)⟩) ?_
  obtain ⟨b1, b2, b3, b4, b5, b6, b7, b8⟩ := h.1.un hi
  have en : rnN (m_up σ (5 + 4 * i) 7 x) i = rnN σ i := by unfold rnN; rw [m_up_ne (by omega)]
  have ew : ∀ j, rwN (m_up σ (5 + 4 * i) 7 x) i j = rwN σ i j := fun j => by unfold rwN; rw [m_up_ne (by omega)]
  refine ⟨fun q hq => ?_, ?_, fun j hj => ?_, ?_, ?_, fun hh => ?_, ?_, ?_⟩
  · rw [m_up_ne (by omega), m_up_ne (by omega), m_up_ne (by omega), m_up_ne (by omega)]; exact b1 q hq
  · rw [m_up_ne (by omega), en]; exact b2
  · rw [en] at hj
    rw [m_up_ne (by omega), ew]; exact b3 j hj
  · rw [m_up_ne (by omega), m_up_ne (by omega)]; exact b4
  · rw [m_up_ne (by omega), m_up_ne (by omega)]; exact b5
  · rw [m_up_ne (by omega)] at hh
    rw [m_up_ne (by omega), m_up_ne (by omega)]; exact b6 hh
  · rw [m_up_self, m_up_self]
  · rw [m_up_ne (by omega), m_up_ne (by omega)]; exact b8
theorem MR.w_ce {σ μ : Mu} {nr i : Nat} {x : Int32} (h : MR σ μ nr) (hI : CI σ nr) (hi : i < 60) : MR (m_up σ (5 + 4 * i) 8 x) (m_up μ 266 i x) nr := by
  refine h.unit hI hi (fun k hk => m_up_row (by omega)) (fun k hk => m_up_row (by omega)) (fun j hj hne => ⟨fun q hq => ⟨m_up_ne (by omega), m_up_ne (by omega), m_up_ne (by omega)⟩, m_up_ne (by omega), m_up_ne (by omega), m_up_ne (by omega), m_up_ne (by omega), m_up_ne (by omega), m_up_ne (by omega)⟩) ?_
  obtain ⟨b1, b2, b3, b4, b5, b6, b7, b8⟩ := h.1.un hi
  have en : rnN (m_up σ (5 + 4 * i) 8 x) i = rnN σ i := by unfold rnN; rw [m_up_ne (by omega)]
  have ew : ∀ j, rwN (m_up σ (5 + 4 * i) 8 x) i j = rwN σ i j := fun j => by unfold rwN; rw [m_up_ne (by omega)]
  refine ⟨fun q hq => ?_, ?_, fun j hj => ?_, ?_, ?_, fun hh => ?_, ?_, ?_⟩
  · rw [m_up_ne (by omega), m_up_ne (by omega), m_up_ne (by omega), m_up_ne (by omega)]; exact b1 q hq
  · rw [m_up_ne (by omega), en]; exact b2
  · rw [en] at hj
    rw [m_up_ne (by omega), ew]; exact b3 j hj
  · rw [m_up_ne (by omega), m_up_ne (by omega)]; exact b4
  · rw [m_up_ne (by omega), m_up_ne (by omega)]; exact b5
  · rw [m_up_ne (by omega)] at hh
    rw [m_up_ne (by omega), m_up_ne (by omega)]; exact b6 hh
  · rw [m_up_ne (by omega), m_up_ne (by omega)]; exact b7
  · rw [m_up_self, m_up_self]
theorem MR.w_ev {σ μ : Mu} {nr i q : Nat} {x : Int32} (h : MR σ μ nr) (hI : CI σ nr) (hi : i < 60) (hq : q < 4) : MR (m_up σ (5 + 4 * i + 1) q x) (m_up μ 258 (4 * i + q) x) nr := by
  refine h.unit hI hi (fun k hk => m_up_row (by omega)) (fun k hk => m_up_row (by omega)) (fun j hj hne => ⟨fun q hq => ⟨m_up_ne (by omega), m_up_ne (by omega), m_up_ne (by omega)⟩, m_up_ne (by omega), m_up_ne (by omega), m_up_ne (by omega), m_up_ne (by omega), m_up_ne (by omega), m_up_ne (by omega)⟩) ?_
  obtain ⟨b1, b2, b3, b4, b5, b6, b7, b8⟩ := h.1.un hi
  have en : rnN (m_up σ (5 + 4 * i + 1) q x) i = rnN σ i := by unfold rnN; rw [m_up_ne (by omega)]
  have ew : ∀ j, rwN (m_up σ (5 + 4 * i + 1) q x) i j = rwN σ i j := fun j => by unfold rwN; rw [m_up_ne (by omega)]
  refine ⟨fun q2 hq2 => ?_, ?_, fun j hj => ?_, ?_, ?_, fun hh => ?_, ?_, ?_⟩
  · by_cases e : q2 = q
    · subst e
      refine ⟨?_, ?_⟩
      · rw [m_up_self, m_up_self]
      · rw [m_up_ne (by omega), m_up_ne (by omega)]; exact (b1 q2 hq2).2
    · rw [m_up_ne (by omega), m_up_ne (by omega), m_up_ne (by omega), m_up_ne (by omega)]; exact b1 q2 hq2
  · rw [m_up_ne (by omega), en]; exact b2
  · rw [en] at hj
    rw [m_up_ne (by omega), ew]; exact b3 j hj
  · rw [m_up_ne (by omega), m_up_ne (by omega)]; exact b4
  · rw [m_up_ne (by omega), m_up_ne (by omega)]; exact b5
  · rw [m_up_ne (by omega)] at hh
    rw [m_up_ne (by omega), m_up_ne (by omega)]; exact b6 hh
  · rw [m_up_ne (by omega), m_up_ne (by omega)]; exact b7
  · rw [m_up_ne (by omega), m_up_ne (by omega)]; exact b8
theorem MR.w_ho {σ μ : Mu} {nr i q : Nat} {x : Int32} (h : MR σ μ nr) (hI : CI σ nr) (hi : i < 60) (hq : q < 4) : MR (m_up σ (5 + 4 * i + 3) q x) (m_up μ 261 (4 * i + q) x) nr := by
  refine h.unit hI hi (fun k hk => m_up_row (by omega)) (fun k hk => m_up_row (by omega)) (fun j hj hne => ⟨fun q hq => ⟨m_up_ne (by omega), m_up_ne (by omega), m_up_ne (by omega)⟩, m_up_ne (by omega), m_up_ne (by omega), m_up_ne (by omega), m_up_ne (by omega), m_up_ne (by omega), m_up_ne (by omega)⟩) ?_
  obtain ⟨b1, b2, b3, b4, b5, b6, b7, b8⟩ := h.1.un hi
  have en : rnN (m_up σ (5 + 4 * i + 3) q x) i = rnN σ i := by unfold rnN; rw [m_up_ne (by omega)]
  have ew : ∀ j, rwN (m_up σ (5 + 4 * i + 3) q x) i j = rwN σ i j := fun j => by unfold rwN; rw [m_up_ne (by omega)]
  refine ⟨fun q2 hq2 => ?_, ?_, fun j hj => ?_, ?_, ?_, fun hh => ?_, ?_, ?_⟩
  · by_cases e : q2 = q
    · subst e
      refine ⟨?_, ?_⟩
      · rw [m_up_ne (by omega), m_up_ne (by omega)]; exact (b1 q2 hq2).1
      · rw [m_up_self, m_up_self]
    · rw [m_up_ne (by omega), m_up_ne (by omega), m_up_ne (by omega), m_up_ne (by omega)]; exact b1 q2 hq2
  · rw [m_up_ne (by omega), en]; exact b2
  · rw [en] at hj
    rw [m_up_ne (by omega), ew]; exact b3 j hj
  · rw [m_up_ne (by omega), m_up_ne (by omega)]; exact b4
  · rw [m_up_ne (by omega), m_up_ne (by omega)]; exact b5
  · rw [m_up_ne (by omega)] at hh
    rw [m_up_ne (by omega), m_up_ne (by omega)]; exact b6 hh
  · rw [m_up_ne (by omega), m_up_ne (by omega)]; exact b7
  · rw [m_up_ne (by omega), m_up_ne (by omega)]; exact b8
theorem CV.w_ex {σ : Mu} {nr i : Nat} {x : Int32} (h : CV σ nr) (hi : i < 60) : CV (m_up σ (5 + 4 * i) 4 x) nr := by
  have hv := h.2.1.u hi
  refine h.unit hi (fun k hk => m_up_row (by omega)) ((h.1.p5 hi).congr (m_up_ne (by omega)) (m_up_row (by omega))) ⟨fun q hq => ?_, ?_, ?_, ?_⟩ (m_up_ne (by omega))
  · rw [m_up_ne (by omega)]; exact hv.1 q hq
  · rw [m_up_ne (by omega)]; exact hv.2.1
  · rw [m_up_ne (by omega)]; exact hv.2.2.1
  · rw [m_up_ne (by omega)]; exact hv.2.2.2
theorem CV.w_fb {σ : Mu} {nr i : Nat} {x : Int32} (h : CV σ nr) (hi : i < 60) : CV (m_up σ (5 + 4 * i) 6 x) nr := by
  have hv := h.2.1.u hi
  refine h.unit hi (fun k hk => m_up_row (by omega)) ((h.1.p5 hi).congr (m_up_ne (by omega)) (m_up_row (by omega))) ⟨fun q hq => ?_, ?_, ?_, ?_⟩ (m_up_ne (by omega))
  · rw [m_up_ne (by omega)]; exact hv.1 q hq
  · rw [m_up_ne (by omega)]; exact hv.2.1
  · rw [m_up_ne (by omega)]; exact hv.2.2.1
  · rw [m_up_ne (by omega)]; exact hv.2.2.2
theorem CV.w_ap {σ : Mu} {nr i : Nat} {x : Int32} (h : CV σ nr) (hi : i < 60) (hx : ∃ a, a ≤ 2 ∧ x = nI a) : CV (m_up σ (5 + 4 * i) 5 x) nr := by
  have hv := h.2.1.u hi
  refine h.unit hi (fun k hk => m_up_row (by omega)) ((h.1.p5 hi).congr (m_up_ne (by omega)) (m_up_row (by omega))) ⟨fun q hq => ?_, ?_, ?_, ?_⟩ (m_up_ne (by omega))
  · rw [m_up_ne (by omega)]; exact hv.1 q hq
  · rw [m_up_ne (by omega)]; exact hv.2.1
  · rw [m_up_ne (by omega)]; exact hv.2.2.1
  · rw [m_up_self]; exact hx
theorem CV.w_ce {σ : Mu} {nr i : Nat} {x : Int32} (h : CV σ nr) (hi : i < 60) (hx : e0 x) : CV (m_up σ (5 + 4 * i) 8 x) nr := by
  have hv := h.2.1.u hi
  refine h.unit hi (fun k hk => m_up_row (by omega)) ((h.1.p5 hi).congr (m_up_ne (by omega)) (m_up_row (by omega))) ⟨fun q hq => ?_, ?_, ?_, ?_⟩ (m_up_ne (by omega))
  · rw [m_up_ne (by omega)]; exact hv.1 q hq
  · rw [m_up_ne (by omega)]; exact hv.2.1
  · rw [m_up_self]; exact hx
  · rw [m_up_ne (by omega)]; exact hv.2.2.2
theorem CV.w_ev {σ : Mu} {nr i q d : Nat} (h : CV σ nr) (hi : i < 60) (hd : d ≤ 1000000) : CV (m_up σ (5 + 4 * i + 1) q (nI d)) nr := by
  have hv := h.2.1.u hi
  refine h.unit hi (fun k hk => m_up_row (by omega)) ((h.1.p5 hi).congr (m_up_ne (by omega)) (m_up_row (by omega))) ⟨fun q2 hq => ?_, ?_, ?_, ?_⟩ (m_up_ne (by omega))
  · by_cases e : q2 = q
    · subst e; rw [m_up_self]; exact Or.inr ⟨d, hd, rfl⟩
    · rw [m_up_ne (by omega)]; exact hv.1 q2 hq
  · rw [m_up_ne (by omega)]; exact hv.2.1
  · rw [m_up_ne (by omega)]; exact hv.2.2.1
  · rw [m_up_ne (by omega)]; exact hv.2.2.2
theorem CV.w_ho {σ : Mu} {nr i q : Nat} {x : Int32} (h : CV σ nr) (hi : i < 60) : CV (m_up σ (5 + 4 * i + 3) q x) nr := by
  have hv := h.2.1.u hi
  refine h.unit hi (fun k hk => m_up_row (by omega)) ((h.1.p5 hi).congr (m_up_ne (by omega)) (m_up_row (by omega))) ⟨fun q2 hq => ?_, ?_, ?_, ?_⟩ (m_up_ne (by omega))
  · rw [m_up_ne (by omega)]; exact hv.1 q2 hq
  · rw [m_up_ne (by omega)]; exact hv.2.1
  · rw [m_up_ne (by omega)]; exact hv.2.2.1
  · rw [m_up_ne (by omega)]; exact hv.2.2.2
