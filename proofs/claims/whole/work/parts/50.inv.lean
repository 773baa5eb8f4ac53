/-! what holds between the calls: the parts of the invariant, rule by rule and unit by unit -/
def CI4 (σ : Mu) (r : Nat) : Prop := σ (272 + 3 * r) 0 = nI (ekN σ r) ∧ ekN σ r < 4 ∧ σ (272 + 3 * r) 5 = nI (ccN σ r) ∧ ccN σ r ≤ 5 ∧ σ (272 + 3 * r) 6 = bi (brB σ r)
def CI5 (σ : Mu) (nr i : Nat) : Prop := σ (5 + 4 * i) 2 = nI (rnN σ i) ∧ rnN σ i ≤ 4 ∧ ∀ j, j < rnN σ i → σ (5 + 4 * i + 2) j = nI (272 + 3 * rwN σ i j + 1) ∧ rwN σ i j < nr
def CI6 (σ : Mu) : Prop := σ 0 6 = nI (dnN σ) ∧ dnN σ ≤ 60 ∧ ∀ j, j < dnN σ → σ 249 j = nI (diN σ j) ∧ diN σ j < 60
def CI7 (σ : Mu) : Prop := σ 245 3 = nI (lnN σ) ∧ lnN σ ≤ 60
def CI8 (σ : Mu) : Prop := σ 1 1 = nI (tlN σ) ∧ tlN σ ≤ 40
theorem CI.mk {σ : Mu} {nr : Nat} (h1 : nr ≤ 20 ∧ σ 0 2 = nI nr) (h2 : ∀ r, r < nr → σ 3 r = nI (272 + 3 * r + 1)) (h3 : ∀ i, i < 60 → σ 4 i = nI (5 + 4 * i + 1)) (h4 : ∀ r, r < nr → CI4 σ r) (h5 : ∀ i, i < 60 → CI5 σ nr i) (h6 : CI6 σ) (h7 : CI7 σ) (h8 : CI8 σ) : CI σ nr := ⟨h1, h2, h3, h4, h5, h6, h7, h8⟩
theorem CI.p4 {σ : Mu} {nr r : Nat} (h : CI σ nr) (hr : r < nr) : CI4 σ r := h.2.2.2.1 r hr
theorem CI.p5 {σ : Mu} {nr i : Nat} (h : CI σ nr) (hi : i < 60) : CI5 σ nr i := h.2.2.2.2.1 i hi
theorem CI.p6 {σ : Mu} {nr : Nat} (h : CI σ nr) : CI6 σ := h.2.2.2.2.2.1
theorem CI.p7 {σ : Mu} {nr : Nat} (h : CI σ nr) : CI7 σ := h.2.2.2.2.2.2.1
theorem CI.p8 {σ : Mu} {nr : Nat} (h : CI σ nr) : CI8 σ := h.2.2.2.2.2.2.2
theorem CI4.congr {σ σ' : Mu} {r : Nat} (h : CI4 σ r) (h0 : σ' (272 + 3 * r) 0 = σ (272 + 3 * r) 0) (h5 : σ' (272 + 3 * r) 5 = σ (272 + 3 * r) 5) (h6 : σ' (272 + 3 * r) 6 = σ (272 + 3 * r) 6) : CI4 σ' r := by
  unfold CI4 ekN ccN brB at *
  rw [h0, h5, h6]
  exact h
theorem CI5.congr {σ σ' : Mu} {nr i : Nat} (h : CI5 σ nr i) (h2 : σ' (5 + 4 * i) 2 = σ (5 + 4 * i) 2) (hr : σ' (5 + 4 * i + 2) = σ (5 + 4 * i + 2)) : CI5 σ' nr i := by
  unfold CI5 rnN rwN at *
  rw [h2, hr]
  exact h
theorem CI6.congr {σ σ' : Mu} (h : CI6 σ) (h2 : σ' 0 6 = σ 0 6) (hr : σ' 249 = σ 249) : CI6 σ' := by
  unfold CI6 dnN diN at *
  rw [h2, hr]
  exact h
theorem CI7.congr {σ σ' : Mu} (h : CI7 σ) (h2 : σ' 245 3 = σ 245 3) : CI7 σ' := by
  unfold CI7 lnN at *
  rw [h2]
  exact h
theorem CI8.congr {σ σ' : Mu} (h : CI8 σ) (h2 : σ' 1 1 = σ 1 1) : CI8 σ' := by
  unfold CI8 tlN at *
  rw [h2]
  exact h
def VU (σ : Mu) (i : Nat) : Prop := (∀ q, q < 4 → σ (5 + 4 * i + 1) q = -1 ∨ ∃ d, d ≤ 1000000 ∧ σ (5 + 4 * i + 1) q = nI d) ∧ e0 (σ (5 + 4 * i) 7) ∧ e0 (σ (5 + 4 * i) 8) ∧ ∃ a, a ≤ 2 ∧ σ (5 + 4 * i) 5 = nI a
def VL (σ : Mu) (r : Nat) : Prop := (∃ y, y ≤ 999 ∧ σ (272 + 3 * r) 1 = nI y) ∧ (σ (272 + 3 * r) 2 = 0 ∨ σ (272 + 3 * r) 2 = 1) ∧ ∀ j, j < ccN σ r → (∃ y, y ≤ 999 ∧ σ (272 + 3 * r + 2) j = nI y) ∧ ∃ d, d ≤ 1000000 ∧ σ (272 + 3 * r + 1) j = nI d
theorem VR.mk {σ : Mu} {nr : Nat} (h1 : ∀ i, i < 60 → VU σ i) (h2 : ∀ r, r < nr → VL σ r) : VR σ nr := ⟨h1, h2⟩
theorem VR.u {σ : Mu} {nr i : Nat} (h : VR σ nr) (hi : i < 60) : VU σ i := h.1 i hi
theorem VR.l {σ : Mu} {nr r : Nat} (h : VR σ nr) (hr : r < nr) : VL σ r := h.2 r hr
theorem VU.congr {σ σ' : Mu} {i : Nat} (h : VU σ i) (h0 : σ' (5 + 4 * i) = σ (5 + 4 * i)) (h1 : σ' (5 + 4 * i + 1) = σ (5 + 4 * i + 1)) : VU σ' i := by
  unfold VU at *
  rw [h0, h1]
  exact h
theorem VL.congr {σ σ' : Mu} {r : Nat} (h : VL σ r) (h0 : σ' (272 + 3 * r) = σ (272 + 3 * r)) (h1 : σ' (272 + 3 * r + 1) = σ (272 + 3 * r + 1)) (h2 : σ' (272 + 3 * r + 2) = σ (272 + 3 * r + 2)) : VL σ' r := by
  unfold VL ccN at *
  rw [h0, h1, h2]
  exact h
theorem BR.congr {σ σ' : Mu} (h : BR σ) (h1 : σ' 1 1 = σ 1 1) (h2 : σ' 2 = σ 2) : BR σ' := by
  unfold BR tlN at *
  rw [h1, h2]
  exact h
/-- how many units are disposed -/
def cnt (σ : Mu) : Nat → Nat
  | 0 => 0
  | n + 1 => cnt σ n + (if σ (5 + 4 * n) 7 = -1 then 0 else 1)
theorem cnt_le (σ : Mu) : ∀ n, cnt σ n ≤ n
  | 0 => Nat.le_refl _
  | n + 1 => by
    have := cnt_le σ n
    unfold cnt
    split <;> omega
theorem cnt_lt {σ : Mu} {i : Nat} (h : σ (5 + 4 * i) 7 = -1) : ∀ n, i < n → cnt σ n < n
  | 0, hi => absurd hi (Nat.not_lt_zero _)
  | n + 1, hi => by
    unfold cnt
    by_cases e : i = n
    · subst e
      rw [if_pos h]
      have := cnt_le σ i
      omega
    · have := cnt_lt h n (by omega)
      split <;> omega
theorem cnt_congr {σ σ' : Mu} : ∀ n, (∀ i, i < n → σ' (5 + 4 * i) 7 = σ (5 + 4 * i) 7) → cnt σ' n = cnt σ n
  | 0, _ => rfl
  | n + 1, h => by
    unfold cnt
    rw [cnt_congr n (fun i hi => h i (Nat.lt_succ_of_lt hi)), h n (Nat.lt_succ_self _)]
theorem cnt_set {σ σ' : Mu} {i : Nat} (h : σ (5 + 4 * i) 7 = -1) (h2 : ¬ σ' (5 + 4 * i) 7 = -1) : ∀ n, i < n → (∀ j, j < n → j ≠ i → σ' (5 + 4 * j) 7 = σ (5 + 4 * j) 7) → cnt σ' n = cnt σ n + 1
  | 0, hi, _ => absurd hi (Nat.not_lt_zero _)
  | n + 1, hi, hj => by
    unfold cnt
    by_cases e : i = n
    · subst e
      rw [if_pos h, if_neg h2, cnt_congr i (fun j hj2 => hj j (by omega) (by omega))]
    · rw [cnt_set h h2 n (by omega) (fun j h1 h3 => hj j (by omega) h3), hj n (by omega) (fun q => e q.symm)]
      omega
def ZA (σ : Mu) (nr : Nat) : Prop := ∀ k j, 272 + 3 * nr ≤ k → σ k j = 0
/-- the class's cells are in order -/
def CV (σ : Mu) (nr : Nat) : Prop := CI σ nr ∧ VR σ nr ∧ BR σ ∧ dnN σ = cnt σ 60 ∧ ZA σ nr
/-- the class's cells are the same -/
def CE (σ σ' : Mu) : Prop := ∀ k, (k < 250 ∨ 271 < k) → σ' k = σ k
theorem CE.refl (σ : Mu) : CE σ σ := fun _ _ => rfl
theorem CE.trans {a b c : Mu} (h1 : CE a b) (h2 : CE b c) : CE a c := fun k hk => (h2 k hk).trans (h1 k hk)
theorem CE.up {σ σ' : Mu} (h : CE σ σ') {k j : Nat} {x : Int32} (h1 : 250 ≤ k) (h2 : k ≤ 271) : CE σ (m_up σ' k j x) := fun a ha => (m_up_row (by omega)).trans (h a ha)
theorem CI.cE {σ σ' : Mu} {nr : Nat} (h : CI σ nr) (e : CE σ σ') : CI σ' nr := by
  refine CI.mk ?_ (fun r hr => ?_) (fun i hi => ?_) (fun r hr => ?_) (fun i hi => ?_) ?_ ?_ ?_
  · rw [e 0 (by decide)]; exact ⟨h.nr, h.rc⟩
  · rw [e 3 (by decide)]; exact h.ru hr
  · rw [e 4 (by decide)]; exact h.un hi
  · have q := e (272 + 3 * r) (by omega)
    exact (h.p4 hr).congr (by rw [q]) (by rw [q]) (by rw [q])
  · exact (h.p5 hi).congr (by rw [e _ (by omega)]) (e _ (by omega))
  · exact h.p6.congr (by rw [e 0 (by decide)]) (e 249 (by decide))
  · exact h.p7.congr (by rw [e 245 (by decide)])
  · exact h.p8.congr (by rw [e 1 (by decide)])
theorem VR.cE {σ σ' : Mu} {nr : Nat} (h : VR σ nr) (e : CE σ σ') : VR σ' nr :=
  VR.mk (fun i hi => (h.u hi).congr (e _ (by omega)) (e _ (by omega))) (fun r hr => (h.l hr).congr (e _ (by omega)) (e _ (by omega)) (e _ (by omega)))
theorem CV.cE {σ σ' : Mu} {nr : Nat} (h : CV σ nr) (e : CE σ σ') : CV σ' nr := by
  obtain ⟨h1, h2, h3, h4, h5⟩ := h
  refine ⟨h1.cE e, h2.cE e, h3.congr (by rw [e 1 (by decide)]) (e 2 (by decide)), ?_, fun k j hk => ?_⟩
  · rw [cnt_congr 60 (fun i hi => by rw [e _ (by omega)])]
    unfold dnN at *
    rw [e 0 (by decide)]
    exact h4
  · rw [e k (by omega)]; exact h5 k j hk
/-- a rule and a unit of the reference -/
def RI (σ μ : Mu) (r : Nat) : Prop := μ 252 r = nI (ekN σ r) ∧ μ 253 r = σ (272 + 3 * r) 2 ∧ μ 254 r = bi (brB σ r) ∧ μ 255 r = nI (ccN σ r) ∧ μ 256 (6 * r) = σ (272 + 3 * r) 1 ∧ μ 257 (6 * r) = -1 ∧ ∀ j, j < ccN σ r → μ 256 (6 * r + (j + 1)) = σ (272 + 3 * r + 2) j ∧ μ 257 (6 * r + (j + 1)) = σ (272 + 3 * r + 1) j
def UI (σ μ : Mu) (i : Nat) : Prop := (∀ q, q < 4 → μ 258 (4 * i + q) = σ (5 + 4 * i + 1) q ∧ μ 261 (4 * i + q) = σ (5 + 4 * i + 3) q) ∧ μ 260 i = nI (rnN σ i) ∧ (∀ j, j < rnN σ i → μ 259 (4 * i + j) = nI (rwN σ i j)) ∧ μ 262 i = σ (5 + 4 * i) 4 ∧ μ 263 i = σ (5 + 4 * i) 5 ∧ (σ (5 + 4 * i) 5 = 1 → μ 264 i = σ (5 + 4 * i) 6) ∧ μ 265 i = σ (5 + 4 * i) 7 ∧ μ 266 i = σ (5 + 4 * i) 8
theorem MU.mk {σ μ : Mu} {nr : Nat} (h1 : μ 250 4 = nI nr) (h2 : ∀ r, r < nr → RI σ μ r) (h3 : ∀ r, nr ≤ r → r < 20 → μ 254 r = 0 ∧ μ 255 r = 0) (h4 : ∀ i, i < 60 → UI σ μ i) : MU σ μ nr := ⟨h1, h2, h3, h4⟩
theorem MU.r {σ μ : Mu} {nr r : Nat} (h : MU σ μ nr) (hr : r < nr) : RI σ μ r := h.2.1 r hr
theorem MU.z {σ μ : Mu} {nr r : Nat} (h : MU σ μ nr) (h1 : nr ≤ r) (h2 : r < 20) : μ 254 r = 0 ∧ μ 255 r = 0 := h.2.2.1 r h1 h2
theorem MU.un {σ μ : Mu} {nr i : Nat} (h : MU σ μ nr) (hi : i < 60) : UI σ μ i := h.2.2.2 i hi
theorem RI.congr {σ σ' μ μ' : Mu} {r : Nat} (h : RI σ μ r) (h0 : σ' (272 + 3 * r) = σ (272 + 3 * r)) (h1 : σ' (272 + 3 * r + 1) = σ (272 + 3 * r + 1)) (h2 : σ' (272 + 3 * r + 2) = σ (272 + 3 * r + 2)) (a1 : μ' 252 r = μ 252 r) (a2 : μ' 253 r = μ 253 r) (a3 : μ' 254 r = μ 254 r) (a4 : μ' 255 r = μ 255 r) (a5 : ∀ j, j < 6 → μ' 256 (6 * r + j) = μ 256 (6 * r + j)) (a6 : ∀ j, j < 6 → μ' 257 (6 * r + j) = μ 257 (6 * r + j)) (hc : ccN σ r ≤ 5) : RI σ' μ' r := by
  have ec : ccN σ' r = ccN σ r := by unfold ccN; rw [h0]
  obtain ⟨b1, b2, b3, b4, b5, b6, b7⟩ := h
  refine ⟨?_, ?_, ?_, ?_, ?_, ?_, fun j hj => ?_⟩
  · rw [a1, b1]; unfold ekN; rw [h0]
  · rw [a2, b2, h0]
  · rw [a3, b3]; unfold brB; rw [h0]
  · rw [a4, b4, ec]
  · rw [show μ' 256 (6 * r) = μ 256 (6 * r) from a5 0 (by decide), h0]; exact b5
  · rw [show μ' 257 (6 * r) = μ 257 (6 * r) from a6 0 (by decide)]; exact b6
  · rw [ec] at hj
    rw [a5 (j + 1) (by omega), a6 (j + 1) (by omega), h1, h2]
    exact b7 j hj
theorem UI.congr {σ σ' μ μ' : Mu} {i : Nat} (h : UI σ μ i) (h0 : σ' (5 + 4 * i) = σ (5 + 4 * i)) (h1 : σ' (5 + 4 * i + 1) = σ (5 + 4 * i + 1)) (h2 : σ' (5 + 4 * i + 2) = σ (5 + 4 * i + 2)) (h3 : σ' (5 + 4 * i + 3) = σ (5 + 4 * i + 3)) (a1 : ∀ q, q < 4 → μ' 258 (4 * i + q) = μ 258 (4 * i + q) ∧ μ' 259 (4 * i + q) = μ 259 (4 * i + q) ∧ μ' 261 (4 * i + q) = μ 261 (4 * i + q)) (a2 : μ' 260 i = μ 260 i ∧ μ' 262 i = μ 262 i ∧ μ' 263 i = μ 263 i ∧ μ' 264 i = μ 264 i ∧ μ' 265 i = μ 265 i ∧ μ' 266 i = μ 266 i) (hn : rnN σ i ≤ 4) : UI σ' μ' i := by
  have en : rnN σ' i = rnN σ i := by unfold rnN; rw [h0]
  obtain ⟨b1, b2, b3, b4, b5, b6, b7, b8⟩ := h
  obtain ⟨c1, c2, c3, c4, c5, c6⟩ := a2
  refine ⟨fun q hq => ?_, ?_, fun j hj => ?_, ?_, ?_, fun h => ?_, ?_, ?_⟩
  · rw [(a1 q hq).1, (a1 q hq).2.2, h1, h3]; exact b1 q hq
  · rw [c1, en]; exact b2
  · rw [en] at hj
    rw [(a1 j (by omega)).2.1, b3 j hj]
    unfold rwN
    rw [h2]
  · rw [c2, h0]; exact b4
  · rw [c3, h0]; exact b5
  · rw [h0] at h ⊢; rw [c4]; exact b6 h
  · rw [c5, h0]; exact b7
  · rw [c6, h0]; exact b8
theorem MU.cE {σ σ' μ : Mu} {nr : Nat} (h : MU σ μ nr) (e : CE σ σ') (hI : CI σ nr) : MU σ' μ nr :=
  MU.mk h.ru (fun r hr => (h.r hr).congr (e _ (by omega)) (e _ (by omega)) (e _ (by omega)) rfl rfl rfl rfl (fun _ _ => rfl) (fun _ _ => rfl) (hI.cc hr).2) (fun _ => h.z) (fun i hi => (h.un hi).congr (e _ (by omega)) (e _ (by omega)) (e _ (by omega)) (e _ (by omega)) (fun _ _ => ⟨rfl, rfl, rfl⟩) ⟨rfl, rfl, rfl, rfl, rfl, rfl⟩ (hI.rn hi).2)
theorem ML.congr {σ σ' μ μ' : Mu} (h : ML σ μ) (h1 : σ' 245 3 = σ 245 3) (h2 : σ' 246 = σ 246 ∧ σ' 247 = σ 247 ∧ σ' 248 = σ 248) (h3 : σ' 0 6 = σ 0 6) (h4 : σ' 249 = σ 249) (h5 : σ' 1 1 = σ 1 1) (h6 : σ' 2 = σ 2) (a : ∀ k, k = 251 ∨ 267 ≤ k → k ≤ 270 → μ' k = μ k) (a2 : μ' 250 22 = μ 250 22 ∧ μ' 250 20 = μ 250 20 ∧ μ' 250 2 = μ 250 2) : ML σ' μ' := by
  have h9 := h.of a a2
  unfold ML lnN dnN diN tlN at *
  rw [h1, h2.1, h2.2.1, h2.2.2, h3, h4, h5, h6]
  exact h9
theorem MR.cE {σ σ' μ : Mu} {nr : Nat} (h : MR σ μ nr) (e : CE σ σ') (hI : CI σ nr) : MR σ' μ nr :=
  ⟨h.1.cE e hI, h.2.congr (by rw [e 245 (by decide)]) ⟨e 246 (by decide), e 247 (by decide), e 248 (by decide)⟩ (by rw [e 0 (by decide)]) (e 249 (by decide)) (by rw [e 1 (by decide)]) (e 2 (by decide)) (fun _ _ _ => rfl) ⟨rfl, rfl, rfl⟩⟩
/-- class and reference stand side by side -/
def INV (μ : Mu) (nr : Nat) : Prop := CV μ nr ∧ MR μ μ nr
/-- the reference's cells are the same -/
def KE (σ σ' : Mu) : Prop := ∀ k, 250 ≤ k → k ≤ 271 → σ' k = σ k
theorem MR.ke {σ μ μ' : Mu} {nr : Nat} (h : MR σ μ nr) (e : KE μ μ') : MR σ μ' nr :=
  ⟨h.1.of (fun k h1 h2 => e k (by omega) (by omega)) (by rw [e 250 (by decide) (by decide)]), h.2.of (fun k h1 h2 => e k (by omega) (by omega)) ⟨by rw [e 250 (by decide) (by decide)], by rw [e 250 (by decide) (by decide)], by rw [e 250 (by decide) (by decide)]⟩⟩
theorem INV.of {σ' μ' : Mu} {nr : Nat} (h1 : CV σ' nr) (h2 : MR σ' μ' nr) (e : CE σ' μ') : INV μ' nr := ⟨h1.cE e, h2.cE e h1.1⟩
