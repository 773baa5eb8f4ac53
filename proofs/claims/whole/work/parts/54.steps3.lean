def scC (σ : Mu) (i r n : Nat) : Mu := m_up (m_up σ (5 + 4 * i + 2) n (nI (272 + 3 * r + 1))) (5 + 4 * i) 2 (nI (n + 1))
def scM (μ : Mu) (i r n : Nat) : Mu := m_up (m_up μ 259 (4 * i + n) (nI r)) 260 i (nI (n + 1))
theorem scC_out {σ : Mu} {i r n k : Nat} (h : k ≠ 5 + 4 * i ∧ k ≠ 5 + 4 * i + 2) : scC σ i r n k = σ k := by
  unfold scC
  rw [m_up_row h.1, m_up_row h.2]
theorem scC_0 {σ : Mu} {i r n s : Nat} (h : s ≠ 2) : scC σ i r n (5 + 4 * i) s = σ (5 + 4 * i) s := by
  unfold scC
  rw [m_up_ne (by omega), m_up_ne (by omega)]
theorem scC_rn {σ : Mu} {i r n : Nat} (hn : n < 4) : rnN (scC σ i r n) i = n + 1 := by
  unfold rnN scC
  rw [m_up_self, nI_clamp (by omega)]
theorem scC_rw {σ : Mu} {i r n : Nat} (hr : r < 20) (j : Nat) : rwN (scC σ i r n) i j = if j = n then r else rwN σ i j := by
  unfold rwN scC
  rw [m_up_ne (by omega)]
  by_cases h : j = n
  · subst h; rw [m_up_self, if_pos rfl, nI_clamp (by omega)]; omega
  · rw [m_up_ne (by omega), if_neg h]
theorem CV.w_sc {σ : Mu} {nr i r : Nat} (h : CV σ nr) (hi : i < 60) (hr : r < nr) (h4 : rnN σ i < 4) : CV (scC σ i r (rnN σ i)) nr := by
  have hnr := h.1.nr
  have hv := h.2.1.u hi
  obtain ⟨q1, q2, q3⟩ := h.1.p5 hi
  refine h.unit hi (fun k hk => scC_out (by omega)) ⟨?_, ?_, fun j hj => ?_⟩ ⟨fun q hq => ?_, ?_, ?_, ?_⟩ (scC_0 (by decide))
  · rw [scC_rn h4]; exact m_up_self _ _ _ _
  · rw [scC_rn h4]; omega
  · rw [scC_rn h4] at hj
    rw [scC_rw (by omega)]
    by_cases e : j = rnN σ i
    · rw [if_pos e, e]
      refine ⟨?_, hr⟩
      unfold scC
      rw [m_up_ne (by omega), m_up_self]
    · rw [if_neg e]
      refine ⟨?_, (q3 j (by omega)).2⟩
      unfold scC
      rw [m_up_ne (by omega), m_up_ne (by omega)]
      exact (q3 j (by omega)).1
  · rw [scC_out (by omega)]; exact hv.1 q hq
  · rw [scC_0 (by decide)]; exact hv.2.1
  · rw [scC_0 (by decide)]; exact hv.2.2.1
  · rw [scC_0 (by decide)]; exact hv.2.2.2
theorem MR.w_sc {σ μ : Mu} {nr i r : Nat} (h : MR σ μ nr) (hI : CI σ nr) (hi : i < 60) (hr : r < nr) (h4 : rnN σ i < 4) : MR (scC σ i r (rnN σ i)) (scM μ i r (rnN σ i)) nr := by
  have hnr := hI.nr
  have o2 : ∀ {k j : Nat}, ¬ (k = 259 ∧ j = 4 * i + rnN σ i) → ¬ (k = 260 ∧ j = i) → scM μ i r (rnN σ i) k j = μ k j := fun h1 h2 => by
    unfold scM
    rw [m_up_ne h2, m_up_ne h1]
  refine h.unit hI hi (fun k hk => scC_out (by omega)) (fun k hk => by unfold scM; rw [m_up_row (by omega), m_up_row (by omega)]) (fun j hj hne => ⟨fun q hq => ⟨o2 (by omega) (by omega), o2 (by omega) (by omega), o2 (by omega) (by omega)⟩, o2 (by omega) (by omega), o2 (by omega) (by omega), o2 (by omega) (by omega), o2 (by omega) (by omega), o2 (by omega) (by omega), o2 (by omega) (by omega)⟩) ?_
  obtain ⟨b1, b2, b3, b4, b5, b6, b7, b8⟩ := h.1.un hi
  refine ⟨fun q hq => ?_, ?_, fun j hj => ?_, ?_, ?_, fun hh => ?_, ?_, ?_⟩
  · rw [o2 (by omega) (by omega), o2 (by omega) (by omega), scC_out (by omega), scC_out (by omega)]; exact b1 q hq
  · rw [scC_rn h4]; exact m_up_self _ _ _ _
  · rw [scC_rn h4] at hj
    rw [scC_rw (by omega)]
    by_cases e : j = rnN σ i
    · rw [if_pos e, e]
      unfold scM
      rw [m_up_ne (by omega), m_up_self]
    · rw [if_neg e, o2 (by omega) (by omega)]; exact b3 j (by omega)
  · rw [o2 (by omega) (by omega), scC_0 (by decide)]; exact b4
  · rw [o2 (by omega) (by omega), scC_0 (by decide)]; exact b5
  · rw [scC_0 (by decide)] at hh
    rw [o2 (by omega) (by omega), scC_0 (by decide)]; exact b6 hh
  · rw [o2 (by omega) (by omega), scC_0 (by decide)]; exact b7
  · rw [o2 (by omega) (by omega), scC_0 (by decide)]; exact b8
theorem ke_schedule (μ : Mu) (nr : Nat) (u x : Int32) : KE μ (F_schedule μ nr u x).2 := by
  unfold F_schedule
  split
  · exact KE.refl μ
  · rename_i hq
    obtain ⟨i, hi, rfl⟩ := okU_of (show okU u = true by cases q : okU u with
      | false => exact absurd (Or.inl q) hq
      | true => rfl)
    rw [nI_clamp (show i < 2 ^ 31 by omega)]
    split
    · exact KE.refl μ
    · split
      · exact (((KE.refl μ).up (by omega)).up (by omega)).up (by omega)
      · exact KE.refl μ
theorem st_schedule {μ : Mu} {nr : Nat} (h : INV μ nr) (u x : Int32) : (F_schedule μ nr u x).1 = (G_schedule μ (F_schedule μ nr u x).2 nr u x).1 ∧ INV (G_schedule μ (F_schedule μ nr u x).2 nr u x).2 nr := by
  obtain ⟨hC, hM⟩ := id h
  have hnr := hC.1.nr
  by_cases hq : okU u = false ∨ okR nr x = false
  · rw [show F_schedule μ nr u x = (-1, μ) by rw [F_schedule, if_pos hq]]
    show -1 = (G_schedule μ μ nr u x).1 ∧ INV (G_schedule μ μ nr u x).2 nr
    rw [G_schedule, if_pos hq]
    exact ⟨rfl, h.thr 0⟩
  · obtain ⟨i, hi, rfl⟩ := okU_of (show okU u = true by cases q : okU u with
      | false => exact absurd (Or.inl q) hq
      | true => rfl)
    obtain ⟨r, hr, rfl⟩ := okR_of hnr (show okR nr x = true by cases q : okR nr x with
      | false => exact absurd (Or.inr q) hq
      | true => rfl)
    have hci : (nI i).toNatClampNeg = i := nI_clamp (by omega)
    have hcr : (nI r).toNatClampNeg = r := nI_clamp (by omega)
    have h7 := e0_lt (hC.2.1.dp hi)
    have hrn := (hC.1.rn hi).2
    by_cases hs : ¬ μ (5 + 4 * i) 7 = -1 ∨ anyB (fun j => decide (rwN μ i j = r)) (rnN μ i) = true
    · rw [show F_schedule μ nr (nI i) (nI r) = (-3, μ) by rw [F_schedule, if_neg hq, hci, hcr, if_pos hs]]
      show -3 = (G_schedule μ μ nr (nI i) (nI r)).1 ∧ INV (G_schedule μ μ nr (nI i) (nI r)).2 nr
      rw [G_schedule, if_neg hq, hci, hcr, if_pos (hs.imp (fun q z => q (h7.mp z)) id)]
      exact ⟨rfl, h.thr 0⟩
    · have hs2 : ¬ (¬ μ (5 + 4 * i) 7 < 0 ∨ anyB (fun j => decide (rwN μ i j = r)) (rnN μ i) = true) := fun q => hs (q.imp (fun q z => q (h7.mpr z)) id)
      by_cases h4 : rnN μ i < 4
      · have eF : F_schedule μ nr (nI i) (nI r) = (nI (rnN μ i + 1), m_up (scC μ i r (rnN μ i)) (5 + 4 * i) 5 0) := by rw [F_schedule, if_neg hq, hci, hcr, if_neg hs, if_pos h4, nI_1]; rfl
        rw [eF]
        have hke : KE μ (m_up (scC μ i r (rnN μ i)) (5 + 4 * i) 5 0) := fun k h1 h2 => by rw [m_up_row (by omega), scC_out (by omega)]
        show nI (rnN μ i + 1) = (G_schedule μ (m_up (scC μ i r (rnN μ i)) (5 + 4 * i) 5 0) nr (nI i) (nI r)).1 ∧ INV (G_schedule μ (m_up (scC μ i r (rnN μ i)) (5 + 4 * i) 5 0) nr (nI i) (nI r)).2 nr
        rw [G_schedule, if_neg hq, hci, hcr, if_neg hs2, if_neg (by omega)]
        have c1 := hC.w_sc hi hr h4
        exact ⟨rfl, INV.of (c1.w_ap hi ⟨0, by decide, nI_0.symm⟩) ((((hM.ke hke).thr 0).w_sc hC.1 hi hr h4).w_ap c1.1 hi (fun q => by cases q)) (((((CE.refl _).up (by decide) (by decide)).up (by decide) (by decide)).up (by decide) (by decide)).up (by decide) (by decide))⟩
      · rw [show F_schedule μ nr (nI i) (nI r) = (-4, μ) by rw [F_schedule, if_neg hq, hci, hcr, if_neg hs, if_neg h4]]
        show -4 = (G_schedule μ μ nr (nI i) (nI r)).1 ∧ INV (G_schedule μ μ nr (nI i) (nI r)).2 nr
        rw [G_schedule, if_neg hq, hci, hcr, if_neg hs2, if_pos (by omega)]
        exact ⟨rfl, h.thr 0⟩
/-! days -/
theorem years_val {σ : Mu} {nr r : Nat} (hV : VR σ nr) (hr : r < nr) (on : Int32) : ∀ n, n ≤ ccN σ r → ∃ y, y ≤ 999 ∧ f_years σ r on n = nI y
  | 0, _ => (hV.l hr).1
  | n + 1, h => by
    unfold f_years
    split
    · exact years_val hV hr on n (by omega)
    · exact ((hV.l hr).2.2 n (by omega)).1
theorem day_val {σ : Mu} {nr i j : Nat} (hI : CI σ nr) (hV : VR σ nr) (hi : i < 60) (hj : j < rnN σ i) (on : Int32) : f_day σ i on j = -1 ∨ ∃ n, n < 2000000 ∧ f_day σ i on j = nI n := by
  have hw := (hI.rw hi hj).2
  unfold f_day f_rday
  split
  · exact Or.inl rfl
  · rename_i hne
    right
    obtain ⟨y, hy, ey⟩ := years_val hV hw on (ccN σ (rwN σ i j)) (Nat.le_refl _)
    rcases hV.ev hi (hI.ek hw).2 with q | ⟨d, hd, q⟩
    · exact absurd q hne
    · refine ⟨d + y * 365, by omega, ?_⟩
      rw [q, ey]
      show nI d + nI y * nI 365 = _
      rw [pk_mul, nI_add]
theorem day_e0 {σ : Mu} {nr i j : Nat} (hI : CI σ nr) (hV : VR σ nr) (hi : i < 60) (hj : j < rnN σ i) (on : Int32) : e0 (f_day σ i on j) := by
  rcases day_val hI hV hi hj on with h | ⟨n, hn, h⟩
  · exact Or.inl h
  · rw [h]; exact Or.inr (nI_pos' (by omega))
theorem scan_max (δ : Nat → Int32) : ∀ n, (f_scan δ n).2 = g_max δ n
  | 0 => rfl
  | n + 1 => by
    unfold f_scan g_max
    rw [scan_max δ n]
    split
    · exact scan_max δ n
    · rfl
theorem scan_none (δ : Nat → Int32) : ∀ n, (f_scan δ n).1 = none → (f_scan δ n).2 = -1
  | 0, _ => rfl
  | n + 1, h => by
    unfold f_scan at h ⊢
    split at h
    · rename_i q
      rw [if_pos q]; exact scan_none δ n h
    · cases h
theorem scan_le (δ : Nat → Int32) : ∀ n k, k < n → δ k ≤ (f_scan δ n).2
  | 0, k, h => absurd h (Nat.not_lt_zero _)
  | n + 1, k, h => by
    unfold f_scan
    split
    · rename_i q
      rcases Nat.lt_succ_iff_lt_or_eq.mp h with h | rfl
      · exact scan_le δ n k h
      · exact q
    · rename_i q
      rcases Nat.lt_succ_iff_lt_or_eq.mp h with h | rfl
      · exact Int32.le_of_lt (Int32.lt_of_le_of_lt (scan_le δ n k h) (Int32.not_le.mp q))
      · exact Int32.le_refl _
theorem scan_some (δ : Nat → Int32) : ∀ n p, (f_scan δ n).1 = some p → p < n ∧ δ p = (f_scan δ n).2 ∧ ∀ k, k < p → ¬ δ k = (f_scan δ n).2
  | 0, p, h => by cases h
  | n + 1, p, h => by
    unfold f_scan at h ⊢
    split at h
    · rename_i q
      rw [if_pos q]
      obtain ⟨h1, h2, h3⟩ := scan_some δ n p h
      exact ⟨by omega, h2, h3⟩
    · rename_i q
      rw [if_neg q]
      cases h
      refine ⟨Nat.lt_succ_self _, rfl, fun k hk e => ?_⟩
      have h4 := scan_le δ n k hk
      rw [e] at h4
      exact q h4
theorem any_br {σ : Mu} {nr i : Nat} (hI : CI σ nr) (hV : VR σ nr) (hi : i < 60) (on : Int32) (hf : f_fails σ i = false) : anyB (fun j => brB σ (rwN σ i j) || decide (f_day σ i on j = -1)) (rnN σ i) = anyB (fun j => decide (f_day σ i on j < 0)) (rnN σ i) := by
  refine anyB_congr (fun j hj => ?_)
  have h1 : brB σ (rwN σ i j) = false := by
    cases q : brB σ (rwN σ i j) with
    | false => rfl
    | true =>
      unfold f_fails at hf
      rw [anyB_t hj q] at hf
      cases hf
  rw [h1, Bool.false_or]
  have h2 := e0_lt (day_e0 hI hV hi hj on)
  exact decide_eq_decide.mpr h2.symm
theorem dd_fails {σ : Mu} {i : Nat} (on : Int32) (hf : f_fails σ i = true) : f_dueDay σ i on = -1 := by
  have h : f_dec σ i on = none := by
    unfold f_dec
    rw [if_pos]
    unfold f_fails at hf
    obtain ⟨j, hj, hq⟩ := List.any_eq_true.mp hf
    exact anyB_t (List.mem_range.mp hj) (by rw [hq]; rfl)
  unfold f_dueDay
  rw [h]
theorem dd_eq {σ : Mu} {nr i : Nat} (hI : CI σ nr) (hV : VR σ nr) (hi : i < 60) (on : Int32) (hf : f_fails σ i = false) : f_dueDay σ i on = g_dueDay σ i on := by
  unfold f_dueDay f_dec g_dueDay
  rw [any_br hI hV hi on hf, hf, if_neg (show ¬ false = true by decide)]
  by_cases h : anyB (fun j => decide (f_day σ i on j < 0)) (rnN σ i) = true
  · rw [if_pos h, if_pos h]
  · rw [if_neg h, if_neg h, ← scan_max]
    cases q : (f_scan (f_day σ i on) (rnN σ i)).1 with
    | none => exact (scan_none _ _ q).symm
    | some p => exact (scan_some _ _ p q).2.1
theorem dd_e0 {σ : Mu} {nr i : Nat} (hI : CI σ nr) (hV : VR σ nr) (hi : i < 60) (on : Int32) : e0 (f_dueDay σ i on) := by
  unfold f_dueDay
  cases q : f_dec σ i on with
  | none => exact Or.inl rfl
  | some j => exact day_e0 hI hV hi (f_dec_lt q) on
theorem isDue_eq {σ : Mu} {nr i : Nat} (hI : CI σ nr) (hV : VR σ nr) (hi : i < 60) (on : Int32) : f_isDue σ i on = g_isDue σ i on := by
  unfold f_isDue g_isDue
  have h7 := e0_lt (hV.dp hi)
  have h4 : (σ (5 + 4 * i) 4 < on) = (¬ on ≤ σ (5 + 4 * i) 4) := propext Int32.not_le.symm
  rw [decide_eq_decide.mpr h7.symm, decide_eq_decide.mpr (show σ (5 + 4 * i) 4 < on ↔ ¬ on ≤ σ (5 + 4 * i) 4 by rw [h4])]
  cases hf : f_fails σ i with
  | true =>
    rw [dd_fails on hf, show g_dueDay σ i on = -3 by unfold g_dueDay; rw [if_pos hf]]
    simp
  | false =>
    rw [← dd_eq hI hV hi on hf]
    have hd := e0_lt (dd_e0 hI hV hi on)
    rw [decide_eq_decide.mpr (show ¬ f_dueDay σ i on = -1 ↔ ¬ f_dueDay σ i on < 0 by rw [hd])]
    cases decide (σ (5 + 4 * i) 7 < 0) <;> cases decide (¬ on ≤ σ (5 + 4 * i) 4) <;> cases decide (¬ f_dueDay σ i on < 0) <;> cases decide (¬ on < f_dueDay σ i on) <;> rfl
theorem act_none {σ : Mu} {i : Nat} {on due : Int32} : ∀ n x, (∀ k, k < n → ¬ f_day σ i on k = due) → g_act σ i on due n x = x
  | 0, x, _ => rfl
  | n + 1, x, h => by
    unfold g_act
    rw [if_neg (h n (Nat.lt_succ_self _))]
    exact act_none n x (fun k hk => h k (Nat.lt_succ_of_lt hk))
theorem act_first {σ : Mu} {i p : Nat} {on due : Int32} (h1 : f_day σ i on p = due) (h2 : ∀ k, k < p → ¬ f_day σ i on k = due) : ∀ n x, p < n → g_act σ i on due n x = σ (272 + 3 * rwN σ i p) 2
  | 0, x, h => absurd h (Nat.not_lt_zero _)
  | n + 1, x, h => by
    unfold g_act
    rcases Nat.lt_succ_iff_lt_or_eq.mp h with h | rfl
    · exact act_first h1 h2 n _ h
    · rw [if_pos h1]; exact act_none p _ h2
/-- where a unit is due, the action is the same -/
theorem act_eq {σ : Mu} {nr i : Nat} (hI : CI σ nr) (hV : VR σ nr) (hi : i < 60) (on : Int32) (hd : f_isDue σ i on = true) : f_dueAction σ i on = g_act σ i on (g_dueDay σ i on) (rnN σ i) (-1) := by
  have hne : ¬ f_dueDay σ i on = -1 := by
    simp only [f_isDue, Bool.and_eq_true, decide_eq_true_eq] at hd
    exact hd.1.2
  have hf : f_fails σ i = false := by
    cases q : f_fails σ i with
    | false => rfl
    | true => exact absurd (dd_fails on q) hne
  have e := dd_eq hI hV hi on hf
  rw [← e]
  cases q : f_dec σ i on with
  | none => exact absurd (show f_dueDay σ i on = -1 by unfold f_dueDay; rw [q]) hne
  | some p =>
    have e1 : f_dueDay σ i on = f_day σ i on p := by unfold f_dueDay; rw [q]
    have e2 : f_dueAction σ i on = σ (272 + 3 * rwN σ i p) 2 := by unfold f_dueAction; rw [q]
    have q2 : (f_scan (f_day σ i on) (rnN σ i)).1 = some p := by
      unfold f_dec at q
      split at q
      · cases q
      · exact q
    obtain ⟨s1, s2, s3⟩ := scan_some _ _ p q2
    rw [e2, act_first (p := p) e1.symm (fun k hk => by rw [e1, s2]; exact s3 k hk) (rnN σ i) (-1) s1]
theorem st_day {μ : Mu} {nr : Nat} (h : INV μ nr) (u on : Int32) : F_day μ u on = G_day μ u on := by
  obtain ⟨hC, hM⟩ := id h
  unfold F_day G_day
  by_cases hq : okU u = false ∨ okD on = false
  · rw [if_pos hq, if_pos hq]
  · rw [if_neg hq, if_neg hq]
    obtain ⟨i, hi, rfl⟩ := okU_of (show okU u = true by cases q : okU u with
      | false => exact absurd (Or.inl q) hq
      | true => rfl)
    rw [nI_clamp (show i < 2 ^ 31 by omega)]
    cases hf : f_fails μ i with
    | true => rw [if_pos rfl, g_dueDay, if_pos hf]
    | false => rw [if_neg (by decide), dd_eq hC.1 hC.2.1 hi on hf]
