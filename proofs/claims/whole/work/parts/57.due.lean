/-! the list of the due: class and reference side by side -/
theorem years_ls {μ μ1 : Mu} (hk : ∀ k, (k < 245 ∨ 248 < k) → μ1 k = μ k) (r : Nat) (on : Int32) : ∀ n, f_years μ1 r on n = f_years μ r on n
  | 0 => by unfold f_years; rw [hk _ (by omega)]
  | n + 1 => by unfold f_years; rw [years_ls hk r on n, hk (272 + 3 * r + 1) (by omega), hk (272 + 3 * r + 2) (by omega)]
theorem rw_ls {μ μ1 : Mu} (hk : ∀ k, (k < 245 ∨ 248 < k) → μ1 k = μ k) {i : Nat} (hi : i < 60) (j : Nat) : rwN μ1 i j = rwN μ i j := by unfold rwN; rw [hk (5 + 4 * i + 2) (by omega)]
theorem day_ls {μ μ1 : Mu} (hk : ∀ k, (k < 245 ∨ 248 < k) → μ1 k = μ k) {i : Nat} (hi : i < 60) (on : Int32) : f_day μ1 i on = f_day μ i on := by
  funext j
  unfold f_day
  rw [rw_ls hk hi]
  unfold f_rday ekN ccN
  rw [years_ls hk, hk (272 + 3 * rwN μ i j) (by omega), hk (5 + 4 * i + 1) (by omega)]
theorem dec_ls {μ μ1 : Mu} (hk : ∀ k, (k < 245 ∨ 248 < k) → μ1 k = μ k) {i : Nat} (hi : i < 60) (on : Int32) : f_dec μ1 i on = f_dec μ i on := by
  have e1 : rnN μ1 i = rnN μ i := by unfold rnN; rw [hk (5 + 4 * i) (by omega)]
  have e2 : (fun j => brB μ1 (rwN μ1 i j) || decide (f_day μ1 i on j = -1)) = fun j => brB μ (rwN μ i j) || decide (f_day μ i on j = -1) := by
    funext j
    rw [rw_ls hk hi, day_ls hk hi]
    unfold brB
    rw [hk (272 + 3 * rwN μ i j) (by omega)]
  unfold f_dec
  rw [e1, e2, day_ls hk hi]
theorem dd_ls {μ μ1 : Mu} (hk : ∀ k, (k < 245 ∨ 248 < k) → μ1 k = μ k) {i : Nat} (hi : i < 60) (on : Int32) : f_dueDay μ1 i on = f_dueDay μ i on := by
  unfold f_dueDay
  rw [dec_ls hk hi, day_ls hk hi]
theorem da_ls {μ μ1 : Mu} (hk : ∀ k, (k < 245 ∨ 248 < k) → μ1 k = μ k) {i : Nat} (hi : i < 60) (on : Int32) : f_dueAction μ1 i on = f_dueAction μ i on := by
  unfold f_dueAction
  rw [dec_ls hk hi]
  cases f_dec μ i on with
  | none => rfl
  | some j =>
    show μ1 (272 + 3 * rwN μ1 i j) 2 = μ (272 + 3 * rwN μ i j) 2
    rw [rw_ls hk hi, hk _ (by omega)]
theorem isDue_ls {μ μ1 : Mu} (hk : ∀ k, (k < 245 ∨ 248 < k) → μ1 k = μ k) {i : Nat} (hi : i < 60) (on : Int32) : f_isDue μ1 i on = f_isDue μ i on := by
  unfold f_isDue
  rw [dd_ls hk hi, hk (5 + 4 * i) (by omega)]
def LA (σ μ : Mu) (t : Nat) : Prop := μ 268 t = σ 246 t ∧ μ 269 t = σ 247 t ∧ μ 270 t = σ 248 t
theorem put3_a {a b c j t : Nat} {μ : Mu} {u d x : Int32} (h1 : a ≠ b) (h2 : a ≠ c) : put3 a b c μ j u d x a t = if t = j then u else μ a t := by
  unfold put3
  rw [m_up_row h2, m_up_row h1]
  by_cases h : t = j
  · rw [if_pos h, h, m_up_self]
  · rw [if_neg h, m_up_ne (by omega)]
theorem put3_b {a b c j t : Nat} {μ : Mu} {u d x : Int32} (h1 : b ≠ a) (h2 : b ≠ c) : put3 a b c μ j u d x b t = if t = j then d else μ b t := by
  unfold put3
  rw [m_up_row h2]
  by_cases h : t = j
  · rw [if_pos h, h, m_up_self]
  · rw [if_neg h, m_up_ne (by omega), m_up_row h1]
theorem put3_c {a b c j t : Nat} {μ : Mu} {u d x : Int32} (h1 : c ≠ a) (h2 : c ≠ b) : put3 a b c μ j u d x c t = if t = j then x else μ c t := by
  unfold put3
  by_cases h : t = j
  · rw [if_pos h, h, m_up_self]
  · rw [if_neg h, m_up_ne (by omega), m_up_row h2, m_up_row h1]
theorem LA.put {σ μ : Mu} {j t : Nat} {u d x : Int32} (h : t ≠ j → LA σ μ t) : LA (put3 246 247 248 σ j u d x) (put3 268 269 270 μ j u d x) t := by
  unfold LA
  rw [put3_a (by decide) (by decide), put3_b (by decide) (by decide), put3_c (by decide) (by decide), put3_a (by decide) (by decide), put3_b (by decide) (by decide), put3_c (by decide) (by decide)]
  by_cases e : t = j
  · simp only [if_pos e, and_self]
  · simp only [if_neg e]; exact h e
theorem ins_rel {d : Int32} {n : Nat} : ∀ (f : Nat) (σ μ : Mu), f ≤ n → (∀ t, t ≤ n → t ≠ f → LA σ μ t) → (ins 268 269 270 d f μ).2 = (ins 246 247 248 d f σ).2 ∧ ∀ t, t ≤ n → t ≠ (ins 246 247 248 d f σ).2 → LA (ins 246 247 248 d f σ).1 (ins 268 269 270 d f μ).1 t
  | 0, σ, μ, _, h => ⟨rfl, h⟩
  | f + 1, σ, μ, hf, h => by
    obtain ⟨e1, e2, e3⟩ := h f (by omega) (by omega)
    unfold ins
    rw [e1, e2, e3]
    by_cases hd : σ 247 f ≤ d
    · rw [if_pos hd, if_pos hd]
      exact ⟨rfl, h⟩
    · rw [if_neg hd, if_neg hd]
      exact ins_rel f _ _ (by omega) (fun t ht htf => LA.put (fun htj => h t ht htj))
theorem LA.row {σ μ σ' μ' : Mu} {t : Nat} (h : LA σ μ t) (h1 : ∀ k, 246 ≤ k → k ≤ 248 → σ' k = σ k) (h2 : ∀ k, 268 ≤ k → k ≤ 270 → μ' k = μ k) : LA σ' μ' t := by
  unfold LA
  rw [h1 246 (by decide) (by decide), h1 247 (by decide) (by decide), h1 248 (by decide) (by decide), h2 268 (by decide) (by decide), h2 269 (by decide) (by decide), h2 270 (by decide) (by decide)]
  exact h
theorem insM_rel {σ μ : Mu} {n : Nat} {u d x : Int32} (hn : lnN σ = n) (h : ∀ t, t < n → LA σ μ t) : ∀ t, t < n + 1 → LA (insM σ u d x) (insG μ n u d x) t := fun t ht => by
  obtain ⟨e, hr⟩ := ins_rel (d := d) (n := n) n σ μ (Nat.le_refl _) (fun t h1 h2 => h t (by omega))
  have q : LA (put3 246 247 248 (ins 246 247 248 d n σ).1 (ins 246 247 248 d n σ).2 u d x) (put3 268 269 270 (ins 268 269 270 d n μ).1 (ins 246 247 248 d n σ).2 u d x) t := LA.put (fun hj => hr t (by omega) hj)
  unfold insM insG
  rw [hn, e]
  exact q.row (fun k h1 h2 => m_up_row (by omega)) (fun k h1 h2 => m_up_row (by omega))
theorem due_rel {μ ν : Mu} {nr : Nat} (hI : CI μ nr) (hV : VR μ nr) (on : Int32) : ∀ j, j ≤ 60 → lnN (dueM μ on j) = (dueG μ ν on j).2 ∧ ∀ t, t < lnN (dueM μ on j) → LA (dueM μ on j) (dueG μ ν on j).1 t
  | 0, _ => by
    have e : lnN (dueM μ on 0) = 0 := by
      show (m_up μ 245 3 0 245 3).toNatClampNeg = 0
      rw [m_up_self]; rfl
    exact ⟨e, fun t ht => absurd ht (by rw [e]; omega)⟩
  | j + 1, h => by
    obtain ⟨h1, h2⟩ := due_rel (ν := ν) hI hV on j (by omega)
    have hj : j < 60 := by omega
    have hls : ∀ k, (k < 245 ∨ 248 < k) → dueM μ on j k = μ k := fun k hk => dueM_out μ on hk j
    have eM : dueM μ on (j + 1) = if g_isDue μ j on = true then insM (dueM μ on j) (nI j) (f_dueDay μ j on) (f_dueAction μ j on) else dueM μ on j := by
      show (if f_isDue (dueM μ on j) j on = true then insM (dueM μ on j) (nI j) (f_dueDay (dueM μ on j) j on) (f_dueAction (dueM μ on j) j on) else dueM μ on j) = _
      rw [isDue_ls hls hj, dd_ls hls hj, da_ls hls hj, isDue_eq hI hV hj]
    have eG : dueG μ ν on (j + 1) = if g_isDue μ j on = true then (insG (dueG μ ν on j).1 (dueG μ ν on j).2 (nI j) (g_dueDay μ j on) (g_act μ j on (g_dueDay μ j on) (rnN μ j) (-1)), (dueG μ ν on j).2 + 1) else dueG μ ν on j := rfl
    by_cases hd : g_isDue μ j on = true
    · rw [if_pos hd] at eM eG
      have hd2 : f_isDue μ j on = true := by rw [isDue_eq hI hV hj]; exact hd
      have hf : f_fails μ j = false := by
        cases hf : f_fails μ j with
        | false => rfl
        | true =>
          have q := dd_fails on hf
          unfold f_isDue at hd2
          rw [q] at hd2
          simp at hd2
      rw [dd_eq hI hV hj on hf, act_eq hI hV hj on hd2] at eM
      have hl := (dueM_ln μ on j (by omega)).2
      have el : lnN (insM (dueM μ on j) (nI j) (g_dueDay μ j on) (g_act μ j on (g_dueDay μ j on) (rnN μ j) (-1))) = lnN (dueM μ on j) + 1 := by
        rw [lnN, insM_ln, nI_1, nI_clamp (by omega)]
      rw [eM, eG, el]
      refine ⟨by rw [h1], ?_⟩
      show ∀ t, t < lnN (dueM μ on j) + 1 → LA _ (insG (dueG μ ν on j).1 (dueG μ ν on j).2 (nI j) (g_dueDay μ j on) (g_act μ j on (g_dueDay μ j on) (rnN μ j) (-1))) t
      rw [← h1]
      exact insM_rel rfl h2
    · rw [if_neg hd] at eM eG
      rw [eM, eG]
      exact ⟨h1, h2⟩
theorem CV.list {σ σ' : Mu} {nr : Nat} (h : CV σ nr) (hk : ∀ k, (k < 245 ∨ 248 < k) → σ' k = σ k) (hl : σ' 245 3 = nI (lnN σ') ∧ lnN σ' ≤ 60) : CV σ' nr := by
  obtain ⟨hI, hV, hB, hC, hZ⟩ := h
  refine ⟨hI.list hk hl, VR.mk (fun j hj => (hV.u hj).congr (hk _ (by omega)) (hk _ (by omega))) (fun j hj => (hV.l hj).congr (hk _ (by omega)) (hk _ (by omega)) (hk _ (by omega))), hB.congr (by rw [hk 1 (by decide)]) (hk 2 (by decide)), ?_, fun k j hk2 => by rw [hk _ (by omega)]; exact hZ k j hk2⟩
  rw [cnt_congr (σ := σ) 60 (fun j hj => by rw [hk _ (by omega)]), ← hC]
  unfold dnN
  rw [hk 0 (by decide)]
theorem MR.list {σ σ' μ μ' : Mu} {nr : Nat} (h : MR σ μ nr) (hI : CI σ nr) (hk : ∀ k, (k < 245 ∨ 248 < k) → σ' k = σ k) (hm : ∀ k, k ≠ 250 → (k < 268 ∨ 270 < k) → μ' k = μ k) (h4 : μ' 250 4 = μ 250 4 ∧ μ' 250 20 = μ 250 20 ∧ μ' 250 2 = μ 250 2) (hl : μ' 250 22 = nI (lnN σ') ∧ ∀ j, j < lnN σ' → μ' 268 j = σ' 246 j ∧ μ' 269 j = σ' 247 j ∧ μ' 270 j = σ' 248 j) : MR σ' μ' nr := by
  refine ⟨MU.mk ?_ (fun j hj => ?_) (fun j h1 h2 => ?_) (fun j hj => ?_), hl, ?_, ?_⟩
  · rw [h4.1]; exact h.1.ru
  · exact (h.1.r hj).congr (hk _ (by omega)) (hk _ (by omega)) (hk _ (by omega)) (by rw [hm 252 (by decide) (by decide)]) (by rw [hm 253 (by decide) (by decide)]) (by rw [hm 254 (by decide) (by decide)]) (by rw [hm 255 (by decide) (by decide)]) (fun _ _ => by rw [hm 256 (by decide) (by decide)]) (fun _ _ => by rw [hm 257 (by decide) (by decide)]) (hI.cc hj).2
  · rw [hm 254 (by decide) (by decide), hm 255 (by decide) (by decide)]; exact h.1.z h1 h2
  · exact (h.1.un hj).congr (hk _ (by omega)) (hk _ (by omega)) (hk _ (by omega)) (hk _ (by omega)) (fun _ _ => ⟨by rw [hm 258 (by decide) (by decide)], by rw [hm 259 (by decide) (by decide)], by rw [hm 261 (by decide) (by decide)]⟩) ⟨by rw [hm 260 (by decide) (by decide)], by rw [hm 262 (by decide) (by decide)], by rw [hm 263 (by decide) (by decide)], by rw [hm 264 (by decide) (by decide)], by rw [hm 265 (by decide) (by decide)], by rw [hm 266 (by decide) (by decide)]⟩ (hI.rn hj).2
  · have q := h.2.2.1
    unfold dnN diN at q ⊢
    rw [hk 0 (by decide), hk 249 (by decide), h4.2.1, hm 267 (by decide) (by decide)]
    exact q
  · have q := h.2.2.2
    unfold tlN at q ⊢
    rw [hk 1 (by decide), hk 2 (by decide), h4.2.2, hm 251 (by decide) (by decide)]
    exact q
theorem ke_due (μ : Mu) (on : Int32) (n : Nat) : KE μ (dueM μ on n) := fun k h1 h2 => dueM_out μ on (by omega) n
theorem st_due {μ : Mu} {nr n6 : Nat} (h : INV μ nr) (on : Int32) (h6 : n6 = 60) : dueM μ on n6 245 3 = nI (dueG μ (dueM μ on n6) on n6).2 ∧ INV (dueG μ (dueM μ on n6) on n6).1 nr := by
  obtain ⟨hC, hM⟩ := id h
  have hn : n6 ≤ 60 := by omega
  obtain ⟨h1, h2⟩ := due_rel (ν := dueM μ on n6) hC.1 hC.2.1 on n6 hn
  have h3 := dueM_ln μ on n6 hn
  have hke := ke_due μ on n6
  have hcv : CV (dueM μ on n6) nr := hC.list (fun k hk => dueM_out μ on hk n6) ⟨h3.1, by omega⟩
  refine ⟨by rw [h3.1, h1], INV.of (σ' := dueM μ on n6) hcv ((hM.ke hke).list hC.1 (fun k hk => dueM_out μ on hk n6) (fun k k1 k2 => dueG_out μ _ on k2 k1 n6) ⟨?_, ?_, ?_⟩ ⟨?_, fun j hj => ?_⟩) (fun k hk => dueG_out μ _ on (by omega) (by omega) n6)⟩
  · rw [dueG_out2 μ _ on (by decide)]; exact m_up_ne (by omega)
  · rw [dueG_out2 μ _ on (by decide)]; exact m_up_ne (by omega)
  · rw [dueG_out2 μ _ on (by decide)]; exact m_up_ne (by omega)
  · rw [dueG_22, h1]
  · exact h2 j hj
theorem st_history {μ : Mu} (x v : Int32) (hq : inB 0 (nI (dnN μ) - 1) x = true) : G_history μ (m_up μ 271 0 v) x = (nI (diN μ x.toNatClampNeg), m_up (m_up μ 271 0 v) 250 0 0) := by
  unfold G_history
  rw [if_neg (by rw [hq]; decide)]
theorem st_history0 {μ : Mu} (x : Int32) (hq : inB 0 (nI (dnN μ) - 1) x = false) : G_history μ μ x = (0, m_up μ 250 0 1) := by
  unfold G_history
  rw [if_pos hq]
theorem INV.hg {μ : Mu} {nr : Nat} (h : INV μ nr) : ∀ i, i < 60 → μ (5 + 4 * i) 7 < 0 → dnN μ < 60 := fun i hi hl => by
  rw [h.1.2.2.2.1]
  exact cnt_lt ((e0_lt (h.1.2.1.dp hi)).mp hl) 60 hi
/-! where it begins -/
theorem cM_lo {μ : Mu} : ∀ (n : Nat) {k : Nat}, k < 4 → cM μ n k = μ k
  | 0, k, _ => rfl
  | n + 1, k, h => by
    show m_up (uM (cM μ n) n) 4 n (nI (5 + 4 * n + 1)) k = μ k
    rw [m_up_row (by omega), uM_out (by omega), cM_lo n h]
theorem cM_4 {μ : Mu} : ∀ (n : Nat) {i : Nat}, i < n → cM μ n 4 i = nI (5 + 4 * i + 1)
  | n + 1, i, h => by
    show m_up (uM (cM μ n) n) 4 n (nI (5 + 4 * n + 1)) 4 i = _
    by_cases e : i = n
    · rw [e, m_up_self]
    · rw [m_up_ne (by omega), uM_out (by omega), cM_4 n (by omega)]
theorem cM_at {μ : Mu} : ∀ (n : Nat) {i k : Nat}, i < n → 5 + 4 * i ≤ k → k ≤ 5 + 4 * i + 3 → cM μ n k = uM (cM μ i) i k
  | n + 1, i, k, h, h1, h2 => by
    show m_up (uM (cM μ n) n) 4 n (nI (5 + 4 * n + 1)) k = _
    rw [m_up_row (by omega)]
    by_cases e : i = n
    · rw [e]
    · rw [uM_out (by omega), cM_at n (by omega) h1 h2]
theorem cnt_0 {σ : Mu} : ∀ n, (∀ i, i < n → σ (5 + 4 * i) 7 = -1) → cnt σ n = 0
  | 0, _ => rfl
  | n + 1, h => by
    unfold cnt
    rw [cnt_0 n (fun i hi => h i (by omega)), if_pos (h n (by omega))]
theorem inv_start {μ0 : Mu} {n : Nat} (hz : ∀ k j, μ0 k j = 0) (hn : n = 60) : INV (mM (cM μ0 n)) 0 := by
  have s0 : ∀ k, k < 250 → mM (cM μ0 n) k = cM μ0 n k := fun k hk => by
    unfold mM
    rw [fill_out (by omega), fill_out (by omega), fill_out (by omega), fill_out (by omega), fill_out (by omega)]
  have lo : ∀ k j, k < 4 → mM (cM μ0 n) k j = 0 := fun k j hk => by rw [s0 k (by omega), cM_lo n hk]; exact hz k j
  have hi2 : ∀ k j, 245 ≤ k → k ≠ 258 → k ≠ 261 → k ≠ 262 → k ≠ 265 → k ≠ 266 → mM (cM μ0 n) k j = 0 := fun k j hk h1 h2 h3 h4 h5 => by
    unfold mM
    rw [fill_out h5, fill_out h4, fill_out h3, fill_out h2, fill_out h1, cM_hi n (by omega)]
    exact hz k j
  have a4 : ∀ i, i < 60 → mM (cM μ0 n) 4 i = nI (5 + 4 * i + 1) := fun i hi => by rw [s0 4 (by omega), cM_4 n (by omega)]
  have au : ∀ i, i < 60 → ∀ k, 5 + 4 * i ≤ k → k ≤ 5 + 4 * i + 3 → mM (cM μ0 n) k = uM (cM μ0 i) i k := fun i hi k h1 h2 => by rw [s0 k (by omega), cM_at n (by omega) h1 h2]
  have u0 : ∀ i, i < 60 → ∀ s, mM (cM μ0 n) (5 + 4 * i) s = if s = 4 ∨ s = 6 ∨ s = 7 ∨ s = 8 then -1 else 0 := fun i hi s => by
    rw [au i hi _ (by omega) (by omega)]
    unfold uM
    rw [fill_out (by omega), fill_out (by omega)]
    by_cases e8 : s = 8
    · rw [e8, m_up_self]; rfl
    · rw [m_up_ne (by omega)]
      by_cases e7 : s = 7
      · rw [e7, m_up_self]; rfl
      · rw [m_up_ne (by omega)]
        by_cases e6 : s = 6
        · rw [e6, m_up_self]; rfl
        · rw [m_up_ne (by omega)]
          by_cases e4 : s = 4
          · rw [e4, m_up_self]; rfl
          · rw [m_up_ne (by omega), cM_hi i (by omega), hz, if_neg (by omega)]
  have u1 : ∀ i, i < 60 → ∀ q, q < 4 → mM (cM μ0 n) (5 + 4 * i + 1) q = -1 := fun i hi q hq => by
    rw [au i hi _ (by omega) (by omega)]
    unfold uM
    rw [fill_out (by omega), fill_in hq]
  have u3 : ∀ i, i < 60 → ∀ q, q < 4 → mM (cM μ0 n) (5 + 4 * i + 3) q = -2 := fun i hi q hq => by
    rw [au i hi _ (by omega) (by omega)]
    unfold uM
    rw [fill_in hq]
  have m8 : ∀ q, q < 240 → mM (cM μ0 n) 258 q = -1 := fun q hq => by
    unfold mM
    rw [fill_out (by omega), fill_out (by omega), fill_out (by omega), fill_out (by omega), fill_in hq]
  have m1 : ∀ q, q < 240 → mM (cM μ0 n) 261 q = -2 := fun q hq => by
    unfold mM
    rw [fill_out (by omega), fill_out (by omega), fill_out (by omega), fill_in hq]
  have m2 : ∀ q, q < 60 → mM (cM μ0 n) 262 q = -1 := fun q hq => by
    unfold mM
    rw [fill_out (by omega), fill_out (by omega), fill_in hq]
  have m5 : ∀ q, q < 60 → mM (cM μ0 n) 265 q = -1 := fun q hq => by
    unfold mM
    rw [fill_out (by omega), fill_in hq]
  have m6 : ∀ q, q < 60 → mM (cM μ0 n) 266 q = -1 := fun q hq => by
    unfold mM
    rw [fill_in hq]
  generalize mM (cM μ0 n) = S at *
  have zr : ∀ i, i < 60 → rnN S i = 0 := fun i hi => by unfold rnN; rw [u0 i hi]; rfl
  have zd : dnN S = 0 := by unfold dnN; rw [lo 0 6 (by decide)]; rfl
  have zl : lnN S = 0 := by unfold lnN; rw [hi2 245 3 (by decide) (by decide) (by decide) (by decide) (by decide) (by decide)]; rfl
  have zt : tlN S = 0 := by unfold tlN; rw [lo 1 1 (by decide)]; rfl
  refine ⟨⟨CI.mk ⟨by omega, ?_⟩ (fun r hr => absurd hr (Nat.not_lt_zero _)) a4 (fun r hr => absurd hr (Nat.not_lt_zero _)) (fun i hi => ⟨?_, ?_, fun j hj => ?_⟩) ⟨?_, ?_, fun j hj => ?_⟩ ⟨?_, ?_⟩ ⟨?_, ?_⟩, VR.mk (fun i hi => ⟨fun q hq => Or.inl (u1 i hi q hq), ?_, ?_, 0, by omega, ?_⟩) (fun r hr => absurd hr (Nat.not_lt_zero _)), fun j hj => ?_, ?_, fun k j hk => hi2 k j (by omega) (by omega) (by omega) (by omega) (by omega) (by omega)⟩, MU.mk ?_ (fun r hr => absurd hr (Nat.not_lt_zero _)) (fun r h1 h2 => ⟨hi2 _ _ (by decide) (by decide) (by decide) (by decide) (by decide) (by decide), hi2 _ _ (by decide) (by decide) (by decide) (by decide) (by decide) (by decide)⟩) (fun i hi => ⟨fun q hq => ⟨?_, ?_⟩, ?_, fun j hj => ?_, ?_, ?_, fun h1 => ?_, ?_, ?_⟩), ⟨?_, fun j hj => ?_⟩, ⟨?_, fun j hj => ?_⟩, ?_, fun j hj => ?_⟩
  · rw [lo 0 2 (by decide), nI_0]
  · rw [zr i hi, u0 i hi, nI_0]; rfl
  · rw [zr i hi]; omega
  · rw [zr i hi] at hj; omega
  · rw [zd, lo 0 6 (by decide), nI_0]
  · rw [zd]; omega
  · rw [zd] at hj; omega
  · rw [zl, hi2 245 3 (by decide) (by decide) (by decide) (by decide) (by decide) (by decide), nI_0]
  · rw [zl]; omega
  · rw [zt, lo 1 1 (by decide), nI_0]
  · rw [zt]; omega
  · rw [u0 i hi]; exact Or.inl rfl
  · rw [u0 i hi]; exact Or.inl rfl
  · rw [u0 i hi, nI_0]; rfl
  · rw [zt] at hj; omega
  · rw [zd, cnt_0 60 (fun i hi => by rw [u0 i hi]; rfl)]
  · rw [hi2 250 4 (by decide) (by decide) (by decide) (by decide) (by decide) (by decide), nI_0]
  · rw [m8 _ (by omega), u1 i hi q hq]
  · rw [m1 _ (by omega), u3 i hi q hq]
  · rw [zr i hi, hi2 260 i (by decide) (by decide) (by decide) (by decide) (by decide) (by decide), nI_0]
  · rw [zr i hi] at hj; omega
  · rw [m2 i hi, u0 i hi]; rfl
  · rw [hi2 263 i (by decide) (by decide) (by decide) (by decide) (by decide) (by decide), u0 i hi]; rfl
  · rw [u0 i hi] at h1; exact absurd h1 (by decide)
  · rw [m5 i hi, u0 i hi]; rfl
  · rw [m6 i hi, u0 i hi]; rfl
  · rw [zl, hi2 250 22 (by decide) (by decide) (by decide) (by decide) (by decide) (by decide), nI_0]
  · rw [zl] at hj; omega
  · rw [zd, hi2 250 20 (by decide) (by decide) (by decide) (by decide) (by decide) (by decide), nI_0]
  · rw [zd] at hj; omega
  · rw [zt, hi2 250 2 (by decide) (by decide) (by decide) (by decide) (by decide) (by decide), nI_0]
  · rw [zt] at hj; omega
