/-! disposal -/
theorem ob_eq {μ : Mu} {nr i : Nat} (h : INV μ nr) (hi : i < 60) (how d : Int32) : f_obst μ i how d = g_against μ i how d := by
  obtain ⟨hC, hM⟩ := id h
  have h7 := e0_lt (hC.2.1.dp hi)
  have hcm : (f_cm μ = true) ↔ (0 < dnN μ ∧ μ (5 + 4 * diN μ (dnN μ - 1)) 8 < 0) := by
    simp only [f_cm, Bool.and_eq_true, decide_eq_true_eq]
    constructor
    · rintro ⟨q1, q2⟩
      exact ⟨q1, (e0_lt (hC.2.1.ce (hC.1.di (show dnN μ - 1 < dnN μ by omega)).2)).mpr q2⟩
    · rintro ⟨q1, q2⟩
      exact ⟨q1, (e0_lt (hC.2.1.ce (hC.1.di (show dnN μ - 1 < dnN μ by omega)).2)).mp q2⟩
  unfold f_obst g_against
  rw [← isDue_eq hC.1 hC.2.1 hi d]
  by_cases a1 : μ (5 + 4 * i) 7 = -1
  · rw [if_neg (not_not_intro a1), if_neg (not_not_intro (h7.mpr a1))]
    by_cases a2 : f_cm μ = true
    · rw [if_pos a2, if_pos (hcm.mp a2)]
    · rw [if_neg a2, if_neg (fun q => a2 (hcm.mpr q))]
      by_cases a3 : f_fails μ i = true
      · rw [if_pos a3, if_pos a3]
      · rw [if_neg a3, if_neg a3]
        cases a4 : f_isDue μ i d with
        | false => rw [if_pos rfl, if_pos rfl]
        | true =>
          rw [if_neg b_tf, if_neg b_tf, ← act_eq hC.1 hC.2.1 hi d a4]
          by_cases a5 : f_held μ i d = true
          · rw [if_pos a5, if_pos a5]
          · rw [if_neg a5, if_neg a5]
            by_cases a6 : 2 ≤ μ (5 + 4 * i) 5
            · rw [if_neg (not_not_intro a6), if_neg (not_not_intro a6)]
              by_cases a7 : f_dueAction μ i d = how
              · rw [if_neg (not_not_intro a7), if_pos a7]
              · rw [if_pos a7, if_neg a7]
            · rw [if_pos a6, if_pos a6]
  · rw [if_pos a1, if_pos (fun q => a1 (h7.mp q))]
theorem ob_val (μ : Mu) (i : Nat) (how d : Int32) : f_obst μ i how d = 0 ∨ ¬ f_obst μ i how d ≤ 0 := by
  unfold f_obst
  repeat' split
  all_goals first
    | exact Or.inl rfl
    | exact Or.inr (by decide)
/-- the cells behind a disposal of unit i -/
def dsC (σ : Mu) (i n : Nat) (d : Int32) : Mu := m_up (m_up (m_up σ (5 + 4 * i) 7 d) 249 n (nI i)) 0 6 (nI (n + 1))
theorem dsC_out {σ : Mu} {i n k : Nat} {d : Int32} (h : k ≠ 5 + 4 * i ∧ k ≠ 249 ∧ k ≠ 0) : dsC σ i n d k = σ k := by
  unfold dsC
  rw [m_up_row h.2.2, m_up_row h.2.1, m_up_row h.1]
theorem dsC_u {σ : Mu} {i n s : Nat} {d : Int32} (hi : i < 60) (h : s ≠ 7) : dsC σ i n d (5 + 4 * i) s = σ (5 + 4 * i) s := by
  unfold dsC
  rw [m_up_ne (by omega), m_up_ne (by omega), m_up_ne (by omega)]
theorem dsC_7 {σ : Mu} {i n : Nat} {d : Int32} (hi : i < 60) : dsC σ i n d (5 + 4 * i) 7 = d := by
  unfold dsC
  rw [m_up_ne (by omega), m_up_ne (by omega), m_up_self]
theorem dsC_0 {σ : Mu} {i n s : Nat} {d : Int32} (h : s ≠ 6) : dsC σ i n d 0 s = σ 0 s := by
  unfold dsC
  rw [m_up_ne (by omega), m_up_ne (by omega), m_up_ne (by omega)]
theorem dsC_h {σ : Mu} {i n : Nat} {d : Int32} (hi : i < 60) (j : Nat) : dsC σ i n d 249 j = if j = n then nI i else σ 249 j := by
  unfold dsC
  rw [m_up_ne (by omega)]
  by_cases h : j = n
  · subst h; rw [m_up_self, if_pos rfl]
  · rw [m_up_ne (by omega), m_up_ne (by omega), if_neg h]
theorem dsC_dn {σ : Mu} {i n : Nat} {d : Int32} (h : n < 60) : dnN (dsC σ i n d) = n + 1 := by
  unfold dnN dsC
  rw [m_up_self, nI_clamp (by omega)]
theorem dsC_di {σ : Mu} {i n : Nat} {d : Int32} (hi : i < 60) (j : Nat) : diN (dsC σ i n d) j = if j = n then i else diN σ j := by
  unfold diN
  rw [dsC_h hi]
  by_cases h : j = n
  · rw [if_pos h, if_pos h, nI_clamp (by omega)]
  · rw [if_neg h, if_neg h]
theorem CV.w_ds {σ : Mu} {nr i e : Nat} (h : CV σ nr) (hi : i < 60) (hu : σ (5 + 4 * i) 7 = -1) (he : e ≤ 1000000) : CV (dsC σ i (dnN σ) (nI e)) nr := by
  obtain ⟨hI, hV, hB, hC, hZ⟩ := id h
  have hn : dnN σ < 60 := by rw [hC]; exact cnt_lt hu 60 hi
  refine ⟨CI.mk ?_ (fun r hr => ?_) (fun k hk2 => ?_) (fun j hj => ?_) (fun j hj => ?_) ⟨?_, ?_, fun j hj => ?_⟩ ?_ ?_, VR.mk (fun j hj => ?_) (fun j hj => ?_), hB.congr (by rw [dsC_out (by omega)]) (dsC_out (by omega)), ?_, fun k j hk2 => by rw [dsC_out (by omega)]; exact hZ k j hk2⟩
  · rw [dsC_0 (by decide)]; exact ⟨hI.nr, hI.rc⟩
  · rw [dsC_out (by omega)]; exact hI.ru hr
  · rw [dsC_out (by omega)]; exact hI.un hk2
  · exact (hI.p4 hj).congr (by rw [dsC_out (by omega)]) (by rw [dsC_out (by omega)]) (by rw [dsC_out (by omega)])
  · by_cases q : j = i
    · subst q; exact (hI.p5 hj).congr (dsC_u hi (by decide)) (dsC_out (by omega))
    · exact (hI.p5 hj).congr (by rw [dsC_out (by omega)]) (dsC_out (by omega))
  · rw [dsC_dn hn]; exact m_up_self _ _ _ _
  · rw [dsC_dn hn]; omega
  · rw [dsC_dn hn] at hj
    rw [dsC_h hi, dsC_di hi]
    by_cases q : j = dnN σ
    · rw [if_pos q, if_pos q]; exact ⟨rfl, hi⟩
    · rw [if_neg q, if_neg q]; exact hI.di (by omega)
  · exact hI.p7.congr (by rw [dsC_out (by omega)])
  · exact hI.p8.congr (by rw [dsC_out (by omega)])
  · by_cases q : j = i
    · subst q
      obtain ⟨v1, v2, v3, v4⟩ := hV.u hj
      refine ⟨fun t ht => ?_, ?_, ?_, ?_⟩
      · rw [dsC_out (by omega)]; exact v1 t ht
      · rw [dsC_7 hi]; exact Or.inr (nI_pos' (by omega))
      · rw [dsC_u hi (by decide)]; exact v3
      · rw [dsC_u hi (by decide)]; exact v4
    · exact (hV.u hj).congr (dsC_out (by omega)) (dsC_out (by omega))
  · exact (hV.l hj).congr (dsC_out (by omega)) (dsC_out (by omega)) (dsC_out (by omega))
  · rw [dsC_dn hn, cnt_set (σ := σ) (i := i) hu (by rw [dsC_7 hi]; exact fun q => by rw [i_eq (nI_toInt (show e < 2 ^ 31 by omega)) (show (-1 : Int32).toInt = -1 by decide)] at q; omega) 60 hi (fun j h1 h2 => by rw [dsC_out (by omega)]), ← hC]
/-- the history's next place -/
theorem MR.w_hi {σ μ : Mu} {nr i : Nat} (h : MR σ μ nr) (hI : CI σ nr) (hi : i < 60) (hn : dnN σ < 60) : MR (m_up (m_up σ 249 (dnN σ) (nI i)) 0 6 (nI (dnN σ + 1))) (m_up (m_up μ 267 (dnN σ) (nI i)) 250 20 (nI (dnN σ + 1))) nr := by
  have oS : ∀ k, k ≠ 249 → k ≠ 0 → m_up (m_up σ 249 (dnN σ) (nI i)) 0 6 (nI (dnN σ + 1)) k = σ k := fun k h1 h2 => by rw [m_up_row h2, m_up_row h1]
  have e1 : dnN (m_up (m_up σ 249 (dnN σ) (nI i)) 0 6 (nI (dnN σ + 1))) = dnN σ + 1 := by
    show (m_up (m_up σ 249 (dnN σ) (nI i)) 0 6 (nI (dnN σ + 1)) 0 6).toNatClampNeg = _
    rw [m_up_self, nI_clamp (by omega)]
  refine ⟨MU.mk ?_ (fun j hj => ?_) (fun j h1 h2 => ?_) (fun j hj => ?_), ?_⟩
  · rw [m_up_ne (by omega), m_up_row (by decide)]; exact h.1.ru
  · exact (h.1.r hj).congr (oS _ (by omega) (by omega)) (oS _ (by omega) (by omega)) (oS _ (by omega) (by omega)) (by rw [m_up_row (by decide), m_up_row (by decide)]) (by rw [m_up_row (by decide), m_up_row (by decide)]) (by rw [m_up_row (by decide), m_up_row (by decide)]) (by rw [m_up_row (by decide), m_up_row (by decide)]) (fun _ _ => by rw [m_up_row (by decide), m_up_row (by decide)]) (fun _ _ => by rw [m_up_row (by decide), m_up_row (by decide)]) (hI.cc hj).2
  · rw [m_up_row (by decide), m_up_row (by decide), m_up_row (by decide), m_up_row (by decide)]; exact h.1.z h1 h2
  · exact (h.1.un hj).congr (oS _ (by omega) (by omega)) (oS _ (by omega) (by omega)) (oS _ (by omega) (by omega)) (oS _ (by omega) (by omega)) (fun _ _ => ⟨by rw [m_up_row (by decide), m_up_row (by decide)], by rw [m_up_row (by decide), m_up_row (by decide)], by rw [m_up_row (by decide), m_up_row (by decide)]⟩) ⟨by rw [m_up_row (by decide), m_up_row (by decide)], by rw [m_up_row (by decide), m_up_row (by decide)], by rw [m_up_row (by decide), m_up_row (by decide)], by rw [m_up_row (by decide), m_up_row (by decide)], by rw [m_up_row (by decide), m_up_row (by decide)], by rw [m_up_row (by decide), m_up_row (by decide)]⟩ (hI.rn hj).2
  · obtain ⟨l1, l2, l3⟩ := h.2
    refine ⟨?_, ⟨?_, fun j hj => ?_⟩, ?_⟩
    · unfold lnN at l1 ⊢
      rw [oS 245 (by decide) (by decide), oS 246 (by decide) (by decide), oS 247 (by decide) (by decide), oS 248 (by decide) (by decide), m_up_ne (by omega), m_up_row (by decide), m_up_row (a := 268) (by decide), m_up_row (a := 268) (by decide), m_up_row (a := 269) (by decide), m_up_row (a := 269) (by decide), m_up_row (a := 270) (by decide), m_up_row (a := 270) (by decide)]
      exact l1
    · rw [m_up_self, e1]
    · rw [e1] at hj
      rw [m_up_row (by decide)]
      unfold diN
      rw [m_up_row (a := 249) (by decide)]
      by_cases q : j = dnN σ
      · rw [q, m_up_self, m_up_self, nI_clamp (by omega)]
      · rw [m_up_ne (by omega), m_up_ne (by omega)]
        exact l2.2 j (by omega)
    · unfold tlN at l3 ⊢
      rw [oS 1 (by decide) (by decide), oS 2 (by decide) (by decide), m_up_ne (by omega), m_up_row (by decide), m_up_row (a := 251) (by decide), m_up_row (a := 251) (by decide)]
      exact l3
theorem ke_dispose {μ : Mu} (u how d : Int32) : KE μ (F_dispose μ u how d).2 := by
  cases hU : okU u with
  | false => rw [F_dispose, if_pos hU]; exact KE.refl μ
  | true =>
    obtain ⟨i, hi, rfl⟩ := okU_of hU
    rw [F_dispose, if_neg (by rw [hU]; decide), nI_clamp (show i < 2 ^ 31 by omega)]
    split
    · exact KE.refl μ
    · split
      · exact KE.refl μ
      · show KE μ (keepD _ _ _)
        unfold keepD
        split
        · exact (((KE.refl μ).up (by omega)).up (by omega)).up (by omega)
        · exact (KE.refl μ).up (by omega)
theorem hw_cond (how d : Int32) : ((¬ how = 0 ∧ ¬ how = 1) ∨ okD d = false) ↔ (inB 0 1 how = false ∨ okD d = false) := by
  have h : (¬ how = 0 ∧ ¬ how = 1) ↔ inB 0 1 how = false := by
    constructor
    · rintro ⟨h1, h2⟩
      cases q : inB 0 1 how with
      | false => rfl
      | true =>
        exfalso
        obtain ⟨q1, q2⟩ := inB_t q
        rw [i_lt rfl (show (0 : Int32).toInt = 0 by decide)] at q1
        rw [i_lt (show (1 : Int32).toInt = 1 by decide) rfl] at q2
        rw [i_eq rfl (show (0 : Int32).toInt = 0 by decide)] at h1
        rw [i_eq rfl (show (1 : Int32).toInt = 1 by decide)] at h2
        omega
    · intro q
      refine ⟨fun z => ?_, fun z => ?_⟩
      · rw [z] at q; exact absurd q (by decide)
      · rw [z] at q; exact absurd q (by decide)
  rw [h]
theorem st_dispose {μ : Mu} {nr : Nat} (h : INV μ nr) (u how d : Int32) : (F_dispose μ u how d).1 = (G_dispose μ (F_dispose μ u how d).2 u how d).1 ∧ INV (G_dispose μ (F_dispose μ u how d).2 u how d).2 nr := by
  obtain ⟨hC, hM⟩ := id h
  cases hU : okU u with
  | false =>
    rw [show F_dispose μ u how d = (-1, μ) by rw [F_dispose, if_pos hU]]
    show -1 = (G_dispose μ μ u how d).1 ∧ INV (G_dispose μ μ u how d).2 nr
    rw [G_dispose, if_pos hU]
    exact ⟨rfl, h.thr 0⟩
  | true =>
    obtain ⟨i, hi, rfl⟩ := okU_of hU
    have hci : (nI i).toNatClampNeg = i := nI_clamp (by omega)
    have hn : ¬ okU (nI i) = false := by rw [hU]; decide
    by_cases hk : (¬ how = 0 ∧ ¬ how = 1) ∨ okD d = false
    · rw [show F_dispose μ (nI i) how d = (-2, μ) by rw [F_dispose, if_neg hn, if_pos hk]]
      show -2 = (G_dispose μ μ (nI i) how d).1 ∧ INV (G_dispose μ μ (nI i) how d).2 nr
      rw [G_dispose, if_neg hn, if_pos ((hw_cond how d).mp hk)]
      exact ⟨rfl, h.thr 0⟩
    · have hk2 : ¬ (inB 0 1 how = false ∨ okD d = false) := fun q => hk ((hw_cond how d).mpr q)
      have hd3 : okD d = true := by cases q : okD d with
        | false => exact absurd (Or.inr q) hk2
        | true => rfl
      obtain ⟨e, he, rfl⟩ := okD_t hd3
      have hob := ob_eq h hi how (nI e)
      by_cases hs : f_obst μ i how (nI e) = 0
      · have h7 : μ (5 + 4 * i) 7 = -1 := by
          refine Decidable.by_contra (fun q => ?_)
          rw [f_obst, if_pos q] at hs
          exact absurd hs (by decide)
        have hd6 : dnN μ < 60 := by rw [hC.2.2.2.1]; exact cnt_lt h7 60 hi
        have eF : F_dispose μ (nI i) how (nI e) = (1, dsC μ i (dnN μ) (nI e)) := by
          rw [F_dispose, if_neg hn, if_neg hk, hci, if_neg (not_not_intro hs), keepD, if_pos hd6, nI_1]
          rfl
        rw [eF]
        have hke : KE μ (dsC μ i (dnN μ) (nI e)) := fun k h1 h2 => dsC_out (by omega)
        show 1 = (G_dispose μ (dsC μ i (dnN μ) (nI e)) (nI i) how (nI e)).1 ∧ INV (G_dispose μ (dsC μ i (dnN μ) (nI e)) (nI i) how (nI e)).2 nr
        rw [G_dispose, if_neg hn, if_neg hk2, hci, ← hob, hs, if_neg (by decide)]
        have m1 : MR (m_up μ (5 + 4 * i) 7 (nI e)) (m_up (m_up (dsC μ i (dnN μ) (nI e)) 250 0 0) 265 i (nI e)) nr := ((hM.ke hke).thr 0).w_dp hC.1 hi
        have hdn : dnN (m_up μ (5 + 4 * i) 7 (nI e)) = dnN μ := by
          show (m_up μ (5 + 4 * i) 7 (nI e) 0 6).toNatClampNeg = _
          rw [m_up_ne (by omega)]
          rfl
        have hci2 : CI (m_up μ (5 + 4 * i) 7 (nI e)) nr := by
          have c := hC.1
          refine CI.mk ?_ (fun r hr => ?_) (fun k hk2 => ?_) (fun j hj => ?_) (fun j hj => ?_) ?_ ?_ ?_
          · rw [m_up_row (by omega)]; exact ⟨c.nr, c.rc⟩
          · rw [m_up_row (by omega)]; exact c.ru hr
          · rw [m_up_row (by omega)]; exact c.un hk2
          · exact (c.p4 hj).congr (by rw [m_up_row (by omega)]) (by rw [m_up_row (by omega)]) (by rw [m_up_row (by omega)])
          · exact (c.p5 hj).congr (m_up_ne (by omega)) (m_up_row (by omega))
          · exact c.p6.congr (by rw [m_up_row (by omega)]) (m_up_row (by omega))
          · exact c.p7.congr (by rw [m_up_row (by omega)])
          · exact c.p8.congr (by rw [m_up_row (by omega)])
        have m2 := m1.w_hi hci2 hi (by rw [hdn]; exact hd6)
        rw [hdn] at m2
        exact ⟨rfl, INV.of (hC.w_ds hi h7 he) m2 (((((CE.refl _).up (by decide) (by decide)).up (by decide) (by decide)).up (by decide) (by decide)).up (by decide) (by decide))⟩
      · have hs2 : ¬ f_obst μ i how (nI e) ≤ 0 := by
          rcases ob_val μ i how (nI e) with q | q
          · exact absurd q hs
          · exact q
        rw [show F_dispose μ (nI i) how (nI e) = (-10 - f_obst μ i how (nI e), μ) by rw [F_dispose, if_neg hn, if_neg hk, hci, if_pos hs]]
        show -10 - f_obst μ i how (nI e) = (G_dispose μ μ (nI i) how (nI e)).1 ∧ INV (G_dispose μ μ (nI i) how (nI e)).2 nr
        rw [G_dispose, if_neg hn, if_neg hk2, hci, ← hob, if_pos hs2]
        exact ⟨rfl, h.thr 0⟩
/-! signs -/
theorem and_b8 (c : Int32) : (c &&& 255).toInt8.toInt32 = c.toInt8.toInt32 := by
  congr 1
  apply Int8.toBitVec_inj.mp
  simp only [Int32.toBitVec_toInt8, Int32.toBitVec_and]
  ext k hk
  simp
  intro _
  have : ∀ k, k < 8 → ((255 : Int32).toBitVec).getLsbD k = true := by decide
  exact this k hk
