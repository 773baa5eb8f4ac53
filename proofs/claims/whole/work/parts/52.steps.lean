/-! call by call: the answers are the same, and the invariant holds on -/
theorem INV.thr {μ : Mu} {nr : Nat} (h : INV μ nr) (x : Int32) : INV (m_up μ 250 0 x) nr := INV.of h.1 (h.2.thr x) ((CE.refl μ).up (by decide) (by decide))
theorem KE.refl (σ : Mu) : KE σ σ := fun _ _ _ => rfl
theorem KE.up {σ σ' : Mu} (h : KE σ σ') {k j : Nat} {x : Int32} (hk : k < 250 ∨ 271 < k) : KE σ (m_up σ' k j x) := fun a h1 h2 => (m_up_row (by omega)).trans (h a h1 h2)
theorem okD_t {d : Int32} (h : okD d = true) : ∃ n, n ≤ 1000000 ∧ d = nI n := by
  simp only [okD, Bool.and_eq_true, decide_eq_true_eq] at h
  obtain ⟨n, hn, rfl⟩ := nI_of h.1
  rw [i_lt (show (1000000 : Int32).toInt = 1000000 by decide) (nI_toInt hn)] at h
  exact ⟨n, by omega, rfl⟩
theorem inB_f {lo hi v : Int32} (h : inB lo hi v = false) : v < lo ∨ hi < v := by
  by_cases h1 : v < lo
  · exact Or.inl h1
  · by_cases h2 : hi < v
    · exact Or.inr h2
    · simp [inB, h1, h2] at h
theorem inB_t {lo hi v : Int32} (h : inB lo hi v = true) : ¬ v < lo ∧ ¬ hi < v := by
  simp only [inB, Bool.and_eq_true, decide_eq_true_eq] at h
  exact h
theorem inB_of {lo hi v : Int32} (h1 : ¬ v < lo) (h2 : ¬ hi < v) : inB lo hi v = true := by
  rw [inB, decide_eq_true h1, decide_eq_true h2]; rfl
theorem k4 {k : Int32} : 4 ≤ k ↔ 3 < k := by
  rw [i_le (show (4 : Int32).toInt = 4 by decide) rfl, i_lt (show (3 : Int32).toInt = 3 by decide) rfl]
  omega
theorem ev_cond (k d : Int32) : (k < 0 ∨ 4 ≤ k ∨ okD d = false) ↔ (inB 0 3 k = false ∨ okD d = false) := by
  constructor
  · rintro (h | h | h)
    · left; rw [inB, decide_eq_false (not_not_intro h)]; rfl
    · left; rw [inB, decide_eq_false (not_not_intro (k4.mp h)), Bool.and_false]
    · exact Or.inr h
  · rintro (h | h)
    · rcases inB_f h with h | h
      · exact Or.inl h
      · exact Or.inr (Or.inl (k4.mpr h))
    · exact Or.inr (Or.inr h)
theorem ke_event (μ : Mu) (u k d : Int32) : KE μ (F_event μ u k d).2 := by
  cases hU : okU u with
  | false => rw [F_event, if_pos hU]; exact KE.refl μ
  | true =>
    obtain ⟨i, hi, rfl⟩ := okU_of hU
    rw [F_event, if_neg (by rw [hU]; decide), nI_clamp (show i < 2 ^ 31 by omega)]
    split
    · exact KE.refl μ
    · split
      · exact KE.refl μ
      · exact ((KE.refl μ).up (by omega)).up (by omega)
theorem st_event {μ : Mu} {nr : Nat} (h : INV μ nr) (u k d : Int32) : (F_event μ u k d).1 = (G_event μ (F_event μ u k d).2 u k d).1 ∧ INV (G_event μ (F_event μ u k d).2 u k d).2 nr := by
  obtain ⟨hC, hM⟩ := id h
  cases hU : okU u with
  | false =>
    rw [show F_event μ u k d = (-1, μ) by rw [F_event, if_pos hU]]
    show -1 = (G_event μ μ u k d).1 ∧ INV (G_event μ μ u k d).2 nr
    rw [G_event, if_pos hU]
    exact ⟨rfl, h.thr 0⟩
  | true =>
    obtain ⟨i, hi, rfl⟩ := okU_of hU
    have hci : (nI i).toNatClampNeg = i := nI_clamp (by omega)
    have hn : ¬ okU (nI i) = false := by rw [hU]; decide
    have h7 := e0_lt (hC.2.1.dp hi)
    by_cases hk : k < 0 ∨ 4 ≤ k ∨ okD d = false
    · rw [show F_event μ (nI i) k d = (-2, μ) by rw [F_event, if_neg hn, if_pos hk]]
      show -2 = (G_event μ μ (nI i) k d).1 ∧ INV (G_event μ μ (nI i) k d).2 nr
      rw [G_event, if_neg hn, if_pos ((ev_cond k d).mp hk)]
      exact ⟨rfl, h.thr 0⟩
    · have hk2 : ¬ (inB 0 3 k = false ∨ okD d = false) := fun q => hk ((ev_cond k d).mpr q)
      by_cases hs : μ (5 + 4 * i) 7 = -1
      · have hk3 : inB 0 3 k = true := by cases q : inB 0 3 k with
          | false => exact absurd (Or.inl q) hk2
          | true => rfl
        have hd3 : okD d = true := by cases q : okD d with
          | false => exact absurd (Or.inr q) hk2
          | true => rfl
        obtain ⟨q, hq, rfl⟩ := okK_t hk3
        obtain ⟨e, he, rfl⟩ := okD_t hd3
        have hcq : (nI q).toNatClampNeg = q := nI_clamp (by omega)
        rw [show F_event μ (nI i) (nI q) (nI e) = (1, m_up (m_up μ (5 + 4 * i + 1) q (nI e)) (5 + 4 * i) 5 0) by rw [F_event, if_neg hn, if_neg hk, hci, hcq, if_neg (not_not_intro hs)]]
        show 1 = (G_event μ (m_up (m_up μ (5 + 4 * i + 1) q (nI e)) (5 + 4 * i) 5 0) (nI i) (nI q) (nI e)).1 ∧ INV (G_event μ (m_up (m_up μ (5 + 4 * i + 1) q (nI e)) (5 + 4 * i) 5 0) (nI i) (nI q) (nI e)).2 nr
        rw [G_event, if_neg hn, if_neg hk2, hci, hcq, if_neg (not_not_intro (h7.mpr hs))]
        have c1 : CV (m_up μ (5 + 4 * i + 1) q (nI e)) nr := hC.w_ev hi he
        refine ⟨rfl, INV.of (c1.w_ap hi ⟨0, by decide, nI_0.symm⟩) ((((hM.ke (((KE.refl μ).up (by omega)).up (by omega))).thr 0).w_ev hC.1 hi hq).w_ap c1.1 hi (fun q => by cases q)) ((((CE.refl _).up (by decide) (by decide)).up (by decide) (by decide)).up (by decide) (by decide))⟩
      · rw [show F_event μ (nI i) k d = (-3, μ) by rw [F_event, if_neg hn, if_neg hk, hci, if_pos hs]]
        show -3 = (G_event μ μ (nI i) k d).1 ∧ INV (G_event μ μ (nI i) k d).2 nr
        rw [G_event, if_neg hn, if_neg hk2, hci, if_pos (fun q => hs (h7.mp q))]
        exact ⟨rfl, h.thr 0⟩
theorem ho_cond (d : Int32) : (¬ d = -1 ∧ okD d = false) ↔ inB (-1) 1000000 d = false := by
  constructor
  · rintro ⟨h1, h2⟩
    cases q : inB (-1) 1000000 d with
    | false => rfl
    | true =>
      exfalso
      obtain ⟨q1, q2⟩ := inB_t q
      by_cases h3 : d < 0
      · refine h1 ((i_eq rfl (show (-1 : Int32).toInt = -1 by decide)).mpr ?_)
        rw [i_lt rfl (show (-1 : Int32).toInt = -1 by decide)] at q1
        rw [i_lt rfl (show (0 : Int32).toInt = 0 by decide)] at h3
        omega
      · rw [okD, decide_eq_true h3, decide_eq_true q2] at h2; cases h2
  · intro h
    rcases inB_f h with h | h
    · refine ⟨fun q => ?_, ?_⟩
      · rw [q] at h; exact absurd h (by decide)
      · rw [okD, decide_eq_false (not_not_intro (Int32.lt_trans h (by decide)))]; rfl
    · refine ⟨fun q => ?_, ?_⟩
      · rw [q] at h; exact absurd h (by decide)
      · rw [okD, decide_eq_false (not_not_intro h), Bool.and_false]
theorem ho_cond2 (k d : Int32) : (k < 0 ∨ 4 ≤ k ∨ (¬ d = -1 ∧ okD d = false)) ↔ (inB 0 3 k = false ∨ inB (-1) 1000000 d = false) := by
  rw [← ho_cond]
  constructor
  · rintro (h | h | h)
    · left; rw [inB, decide_eq_false (not_not_intro h)]; rfl
    · left; rw [inB, decide_eq_false (not_not_intro (k4.mp h)), Bool.and_false]
    · exact Or.inr h
  · rintro (h | h)
    · rcases inB_f h with h | h
      · exact Or.inl h
      · exact Or.inr (Or.inl (k4.mpr h))
    · exact Or.inr (Or.inr h)
theorem ke_hold (μ : Mu) (u k d : Int32) : KE μ (F_hold μ u k d).2 := by
  cases hU : okU u with
  | false => rw [F_hold, if_pos hU]; exact KE.refl μ
  | true =>
    obtain ⟨i, hi, rfl⟩ := okU_of hU
    rw [F_hold, if_neg (by rw [hU]; decide), nI_clamp (show i < 2 ^ 31 by omega)]
    split
    · exact KE.refl μ
    · exact ((KE.refl μ).up (by omega)).up (by omega)
theorem st_hold {μ : Mu} {nr : Nat} (h : INV μ nr) (u k d : Int32) : (F_hold μ u k d).1 = (G_hold (F_hold μ u k d).2 u k d).1 ∧ INV (G_hold (F_hold μ u k d).2 u k d).2 nr := by
  obtain ⟨hC, hM⟩ := id h
  cases hU : okU u with
  | false =>
    rw [show F_hold μ u k d = (-1, μ) by rw [F_hold, if_pos hU]]
    show -1 = (G_hold μ u k d).1 ∧ INV (G_hold μ u k d).2 nr
    rw [G_hold, if_pos hU]
    exact ⟨rfl, h.thr 0⟩
  | true =>
    obtain ⟨i, hi, rfl⟩ := okU_of hU
    have hci : (nI i).toNatClampNeg = i := nI_clamp (by omega)
    have hn : ¬ okU (nI i) = false := by rw [hU]; decide
    by_cases hk : k < 0 ∨ 4 ≤ k ∨ (¬ d = -1 ∧ okD d = false)
    · rw [show F_hold μ (nI i) k d = (-2, μ) by rw [F_hold, if_neg hn, if_pos hk]]
      show -2 = (G_hold μ (nI i) k d).1 ∧ INV (G_hold μ (nI i) k d).2 nr
      rw [G_hold, if_neg hn, if_pos ((ho_cond2 k d).mp hk)]
      exact ⟨rfl, h.thr 0⟩
    · have hk2 : ¬ (inB 0 3 k = false ∨ inB (-1) 1000000 d = false) := fun q => hk ((ho_cond2 k d).mpr q)
      have hk3 : inB 0 3 k = true := by cases q : inB 0 3 k with
        | false => exact absurd (Or.inl q) hk2
        | true => rfl
      obtain ⟨q, hq, rfl⟩ := okK_t hk3
      have hcq : (nI q).toNatClampNeg = q := nI_clamp (by omega)
      rw [show F_hold μ (nI i) (nI q) d = (1, m_up (m_up μ (5 + 4 * i + 3) q d) (5 + 4 * i) 5 0) by rw [F_hold, if_neg hn, if_neg hk, hci, hcq]]
      show 1 = (G_hold (m_up (m_up μ (5 + 4 * i + 3) q d) (5 + 4 * i) 5 0) (nI i) (nI q) d).1 ∧ INV (G_hold (m_up (m_up μ (5 + 4 * i + 3) q d) (5 + 4 * i) 5 0) (nI i) (nI q) d).2 nr
      rw [G_hold, if_neg hn, if_neg hk2, hci, hcq]
      have c1 : CV (m_up μ (5 + 4 * i + 3) q d) nr := hC.w_ho hi
      refine ⟨rfl, INV.of (c1.w_ap hi ⟨0, by decide, nI_0.symm⟩) ((((hM.ke (((KE.refl μ).up (by omega)).up (by omega))).thr 0).w_ho hC.1 hi hq).w_ap c1.1 hi (fun q => by cases q)) ((((CE.refl _).up (by decide) (by decide)).up (by decide) (by decide)).up (by decide) (by decide))⟩
theorem ke_except (μ : Mu) (u d : Int32) : KE μ (F_except μ u d).2 := by
  cases hU : okU u with
  | false => rw [F_except, if_pos hU]; exact KE.refl μ
  | true =>
    obtain ⟨i, hi, rfl⟩ := okU_of hU
    rw [F_except, if_neg (by rw [hU]; decide), nI_clamp (show i < 2 ^ 31 by omega)]
    split
    · exact KE.refl μ
    · exact ((KE.refl μ).up (by omega)).up (by omega)
theorem st_except {μ : Mu} {nr : Nat} (h : INV μ nr) (u d : Int32) : (F_except μ u d).1 = (G_except (F_except μ u d).2 u d).1 ∧ INV (G_except (F_except μ u d).2 u d).2 nr := by
  obtain ⟨hC, hM⟩ := id h
  cases hU : okU u with
  | false =>
    rw [show F_except μ u d = (-1, μ) by rw [F_except, if_pos hU]]
    show -1 = (G_except μ u d).1 ∧ INV (G_except μ u d).2 nr
    rw [G_except, if_pos hU]
    exact ⟨rfl, h.thr 0⟩
  | true =>
    obtain ⟨i, hi, rfl⟩ := okU_of hU
    have hci : (nI i).toNatClampNeg = i := nI_clamp (by omega)
    have hn : ¬ okU (nI i) = false := by rw [hU]; decide
    by_cases hk : okD d = false
    · rw [show F_except μ (nI i) d = (-2, μ) by rw [F_except, if_neg hn, if_pos hk]]
      show -2 = (G_except μ (nI i) d).1 ∧ INV (G_except μ (nI i) d).2 nr
      rw [G_except, if_neg hn, if_pos hk]
      exact ⟨rfl, h.thr 0⟩
    · rw [show F_except μ (nI i) d = (1, m_up (m_up μ (5 + 4 * i) 4 d) (5 + 4 * i) 5 0) by rw [F_except, if_neg hn, if_neg hk, hci]]
      show 1 = (G_except (m_up (m_up μ (5 + 4 * i) 4 d) (5 + 4 * i) 5 0) (nI i) d).1 ∧ INV (G_except (m_up (m_up μ (5 + 4 * i) 4 d) (5 + 4 * i) 5 0) (nI i) d).2 nr
      rw [G_except, if_neg hn, if_neg hk, hci]
      have c1 : CV (m_up μ (5 + 4 * i) 4 d) nr := hC.w_ex hi
      refine ⟨rfl, INV.of (c1.w_ap hi ⟨0, by decide, nI_0.symm⟩) ((((hM.ke (((KE.refl μ).up (by omega)).up (by omega))).thr 0).w_ex hC.1 hi).w_ap c1.1 hi (fun q => by cases q)) ((((CE.refl _).up (by decide) (by decide)).up (by decide) (by decide)).up (by decide) (by decide))⟩
theorem ke_certificate (μ : Mu) (u d : Int32) : KE μ (F_certificate μ u d).2 := by
  cases hU : okU u with
  | false => rw [F_certificate, if_pos hU]; exact KE.refl μ
  | true =>
    obtain ⟨i, hi, rfl⟩ := okU_of hU
    rw [F_certificate, if_neg (by rw [hU]; decide), nI_clamp (show i < 2 ^ 31 by omega)]
    split
    · exact KE.refl μ
    · split
      · exact KE.refl μ
      · exact (KE.refl μ).up (by omega)
theorem st_certificate {μ : Mu} {nr : Nat} (h : INV μ nr) (u d : Int32) : (F_certificate μ u d).1 = (G_certificate μ (F_certificate μ u d).2 u d).1 ∧ INV (G_certificate μ (F_certificate μ u d).2 u d).2 nr := by
  obtain ⟨hC, hM⟩ := id h
  cases hU : okU u with
  | false =>
    rw [show F_certificate μ u d = (-1, μ) by rw [F_certificate, if_pos hU]]
    show -1 = (G_certificate μ μ u d).1 ∧ INV (G_certificate μ μ u d).2 nr
    rw [G_certificate, if_pos hU]
    exact ⟨rfl, h.thr 0⟩
  | true =>
    obtain ⟨i, hi, rfl⟩ := okU_of hU
    have hci : (nI i).toNatClampNeg = i := nI_clamp (by omega)
    have hn : ¬ okU (nI i) = false := by rw [hU]; decide
    have h7 := e0_lt (hC.2.1.dp hi)
    have h8 := e0_lt (hC.2.1.ce hi)
    by_cases hk : d < 1 ∨ ¬ d ≤ 1000000
    · have hk2 : inB 1 1000000 d = false := by
        rcases hk with q | q
        · rw [inB, decide_eq_false (not_not_intro q)]; rfl
        · rw [inB, decide_eq_false (not_not_intro (Int32.not_le.mp q)), Bool.and_false]
      rw [show F_certificate μ (nI i) d = (-2, μ) by rw [F_certificate, if_neg hn, if_pos hk]]
      show -2 = (G_certificate μ μ (nI i) d).1 ∧ INV (G_certificate μ μ (nI i) d).2 nr
      rw [G_certificate, if_neg hn, if_pos hk2]
      exact ⟨rfl, h.thr 0⟩
    · have hk2 : ¬ inB 1 1000000 d = false := fun q => by
        rcases inB_f q with q | q
        · exact hk (Or.inl q)
        · exact hk (Or.inr (Int32.not_le.mpr q))
      by_cases hs : μ (5 + 4 * i) 7 = -1 ∨ ¬ μ (5 + 4 * i) 8 = -1
      · rw [show F_certificate μ (nI i) d = (-3, μ) by rw [F_certificate, if_neg hn, if_neg hk, hci, if_pos hs]]
        show -3 = (G_certificate μ μ (nI i) d).1 ∧ INV (G_certificate μ μ (nI i) d).2 nr
        rw [G_certificate, if_neg hn, if_neg hk2, hci, if_pos (hs.imp h7.mpr (fun q z => q (h8.mp z)))]
        exact ⟨rfl, h.thr 0⟩
      · rw [show F_certificate μ (nI i) d = (1, m_up μ (5 + 4 * i) 8 d) by rw [F_certificate, if_neg hn, if_neg hk, hci, if_neg hs]]
        show 1 = (G_certificate μ (m_up μ (5 + 4 * i) 8 d) (nI i) d).1 ∧ INV (G_certificate μ (m_up μ (5 + 4 * i) 8 d) (nI i) d).2 nr
        rw [G_certificate, if_neg hn, if_neg hk2, hci, if_neg (fun q => hs (q.imp h7.mp (fun z y => z (h8.mpr y))))]
        have hd0 : e0 d := Or.inr (by
          have q : ¬ d < 1 := fun q => hk (Or.inl q)
          rw [i_lt rfl (show (1 : Int32).toInt = 1 by decide)] at q
          rw [i_le (show (0 : Int32).toInt = 0 by decide) rfl]
          omega)
        exact ⟨rfl, INV.of (hC.w_ce hi hd0) (((hM.ke ((KE.refl μ).up (by omega))).thr 0).w_ce hC.1 hi) (((CE.refl _).up (by decide) (by decide)).up (by decide) (by decide))⟩
theorem st_about {μ : Mu} {nr : Nat} (h : INV μ nr) (u w : Int32) : F_about μ u w = G_about μ u w := by
  obtain ⟨hC, hM⟩ := id h
  cases hU : okU u with
  | false => rw [F_about, if_pos hU, G_about, if_pos hU]
  | true =>
    obtain ⟨i, hi, rfl⟩ := okU_of hU
    have hci : (nI i).toNatClampNeg = i := nI_clamp (by omega)
    have hn : ¬ okU (nI i) = false := by rw [hU]; decide
    have h7 := e0_lt (hC.2.1.dp hi)
    rw [F_about, if_neg hn, G_about, if_neg hn, hci]
    by_cases hw : inB 0 3 w = true
    · obtain ⟨q, hq, rfl⟩ := okK_t hw
      have hne : ∀ m : Nat, 4 ≤ m → m < 10 → ¬ nI q = nI m := fun m h1 h2 e => by rw [nI_eq (by omega) (by omega)] at e; omega
      rw [if_pos hw, if_neg (show ¬ nI q = 4 from hne 4 (by decide) (by decide)), if_neg (show ¬ nI q = 5 from hne 5 (by decide) (by decide)), if_neg (show ¬ nI q = 6 from hne 6 (by decide) (by decide)), if_neg (show ¬ nI q = 7 from hne 7 (by decide) (by decide)), if_neg (show ¬ nI q = 8 from hne 8 (by decide) (by decide)), if_neg (fun z => z.elim (okK_nI hq).1 (okK_nI hq).2)]
    · rw [if_neg hw]
      by_cases h4 : w = 4
      · rw [if_pos h4, if_pos h4]; exact (hC.1.rn hi).1
      · rw [if_neg h4, if_neg h4]
        by_cases h5 : w = 5
        · rw [if_pos h5, if_pos h5]
        · rw [if_neg h5, if_neg h5]
          by_cases h6 : w = 6
          · rw [if_pos h6, if_pos h6]
            by_cases hs : μ (5 + 4 * i) 7 = -1
            · rw [if_pos hs, if_pos (h7.mpr hs)]
            · rw [if_neg hs, if_neg (fun q => hs (h7.mp q))]
          · rw [if_neg h6, if_neg h6]
            by_cases h77 : w = 7
            · rw [if_pos h77, if_pos h77]
            · rw [if_neg h77, if_neg h77]
              by_cases h8 : w = 8
              · rw [if_pos h8, if_pos h8]
              · rw [if_neg h8, if_neg h8]
                have hw2 : inB 0 3 w = false := by cases q : inB 0 3 w with
                  | false => rfl
                  | true => exact absurd q hw
                rw [if_pos ((inB_f hw2).imp id k4.mpr)]
