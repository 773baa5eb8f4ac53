/-! the reference's cells, read off the class's cells σ (as they were before the class's own call) -/
def e0 (x : Int32) : Prop := x = -1 ∨ 0 ≤ x
theorem e0_lt {x : Int32} (h : e0 x) : x < 0 ↔ x = -1 := by
  rcases h with rfl | h
  · exact ⟨fun _ => rfl, fun _ => by decide⟩
  · refine ⟨fun q => absurd h (by rw [i_le (show (0 : Int32).toInt = 0 by decide) rfl]; rw [i_lt rfl (show (0 : Int32).toInt = 0 by decide)] at q; omega), fun q => by rw [q]; decide⟩
theorem e0_ge {x : Int32} (h : e0 x) : 0 ≤ x ↔ ¬ x = -1 := by
  rw [← e0_lt h]
  exact ⟨fun q => Int32.not_lt.mpr q, fun q => Int32.not_lt.mp q⟩
/-- what the numbers may be -/
def VR (σ : Mu) (nr : Nat) : Prop :=
  (∀ i, i < 60 → (∀ q, q < 4 → σ (5 + 4 * i + 1) q = -1 ∨ ∃ d, d ≤ 1000000 ∧ σ (5 + 4 * i + 1) q = nI d) ∧ e0 (σ (5 + 4 * i) 7) ∧ e0 (σ (5 + 4 * i) 8) ∧ ∃ a, a ≤ 2 ∧ σ (5 + 4 * i) 5 = nI a) ∧
  ∀ r, r < nr → (∃ y, y ≤ 999 ∧ σ (272 + 3 * r) 1 = nI y) ∧ (σ (272 + 3 * r) 2 = 0 ∨ σ (272 + 3 * r) 2 = 1) ∧ ∀ j, j < ccN σ r → (∃ y, y ≤ 999 ∧ σ (272 + 3 * r + 2) j = nI y) ∧ ∃ d, d ≤ 1000000 ∧ σ (272 + 3 * r + 1) j = nI d
theorem VR.dp {σ : Mu} {nr i : Nat} (h : VR σ nr) (hi : i < 60) : e0 (σ (5 + 4 * i) 7) := (h.1 i hi).2.1
theorem VR.ce {σ : Mu} {nr i : Nat} (h : VR σ nr) (hi : i < 60) : e0 (σ (5 + 4 * i) 8) := (h.1 i hi).2.2.1
theorem VR.ap {σ : Mu} {nr i : Nat} (h : VR σ nr) (hi : i < 60) : ∃ a, a ≤ 2 ∧ σ (5 + 4 * i) 5 = nI a := (h.1 i hi).2.2.2
theorem VR.ev {σ : Mu} {nr i q : Nat} (h : VR σ nr) (hi : i < 60) (hq : q < 4) : σ (5 + 4 * i + 1) q = -1 ∨ ∃ d, d ≤ 1000000 ∧ σ (5 + 4 * i + 1) q = nI d := (h.1 i hi).1 q hq
/-- the reference's rules and units -/
def MU (σ μ : Mu) (nr : Nat) : Prop :=
  μ 250 4 = nI nr ∧
  (∀ r, r < nr → μ 252 r = nI (ekN σ r) ∧ μ 253 r = σ (272 + 3 * r) 2 ∧ μ 254 r = bi (brB σ r) ∧ μ 255 r = nI (ccN σ r) ∧ μ 256 (6 * r) = σ (272 + 3 * r) 1 ∧ μ 257 (6 * r) = -1 ∧ ∀ j, j < ccN σ r → μ 256 (6 * r + (j + 1)) = σ (272 + 3 * r + 2) j ∧ μ 257 (6 * r + (j + 1)) = σ (272 + 3 * r + 1) j) ∧
  (∀ r, nr ≤ r → r < 20 → μ 254 r = 0 ∧ μ 255 r = 0) ∧
  (∀ i, i < 60 → (∀ q, q < 4 → μ 258 (4 * i + q) = σ (5 + 4 * i + 1) q ∧ μ 261 (4 * i + q) = σ (5 + 4 * i + 3) q) ∧ μ 260 i = nI (rnN σ i) ∧ (∀ j, j < rnN σ i → μ 259 (4 * i + j) = nI (rwN σ i j)) ∧ μ 262 i = σ (5 + 4 * i) 4 ∧ μ 263 i = σ (5 + 4 * i) 5 ∧ (σ (5 + 4 * i) 5 = 1 → μ 264 i = σ (5 + 4 * i) 6) ∧ μ 265 i = σ (5 + 4 * i) 7 ∧ μ 266 i = σ (5 + 4 * i) 8)
/-- its list, its history, its text -/
def ML (σ μ : Mu) : Prop :=
  (μ 250 22 = nI (lnN σ) ∧ ∀ j, j < lnN σ → μ 268 j = σ 246 j ∧ μ 269 j = σ 247 j ∧ μ 270 j = σ 248 j) ∧
  (μ 250 20 = nI (dnN σ) ∧ ∀ j, j < dnN σ → μ 267 j = nI (diN σ j)) ∧
  (μ 250 2 = nI (tlN σ) ∧ ∀ j, j < tlN σ → μ 251 j = (σ 2 j).toInt8.toInt32)
def MR (σ μ : Mu) (nr : Nat) : Prop := MU σ μ nr ∧ ML σ μ
theorem MU.ru {σ μ : Mu} {nr : Nat} (h : MU σ μ nr) : μ 250 4 = nI nr := h.1
theorem MU.oe {σ μ : Mu} {nr r : Nat} (h : MU σ μ nr) (hr : r < nr) : μ 252 r = nI (ekN σ r) := (h.2.1 r hr).1
theorem MU.ac {σ μ : Mu} {nr r : Nat} (h : MU σ μ nr) (hr : r < nr) : μ 253 r = σ (272 + 3 * r) 2 := (h.2.1 r hr).2.1
theorem MU.bk {σ μ : Mu} {nr r : Nat} (h : MU σ μ nr) (hr : r < nr) : μ 254 r = bi (brB σ r) := (h.2.1 r hr).2.2.1
theorem MU.ch {σ μ : Mu} {nr r : Nat} (h : MU σ μ nr) (hr : r < nr) : μ 255 r = nI (ccN σ r) := (h.2.1 r hr).2.2.2.1
theorem MU.y0 {σ μ : Mu} {nr r : Nat} (h : MU σ μ nr) (hr : r < nr) : μ 256 (6 * r) = σ (272 + 3 * r) 1 := (h.2.1 r hr).2.2.2.2.1
theorem MU.s0 {σ μ : Mu} {nr r : Nat} (h : MU σ μ nr) (hr : r < nr) : μ 257 (6 * r) = -1 := (h.2.1 r hr).2.2.2.2.2.1
theorem MU.yr {σ μ : Mu} {nr r j : Nat} (h : MU σ μ nr) (hr : r < nr) (hj : j < ccN σ r) : μ 256 (6 * r + (j + 1)) = σ (272 + 3 * r + 2) j := ((h.2.1 r hr).2.2.2.2.2.2 j hj).1
theorem MU.sn {σ μ : Mu} {nr r j : Nat} (h : MU σ μ nr) (hr : r < nr) (hj : j < ccN σ r) : μ 257 (6 * r + (j + 1)) = σ (272 + 3 * r + 1) j := ((h.2.1 r hr).2.2.2.2.2.2 j hj).2
theorem MU.ev {σ μ : Mu} {nr i q : Nat} (h : MU σ μ nr) (hi : i < 60) (hq : q < 4) : μ 258 (4 * i + q) = σ (5 + 4 * i + 1) q := ((h.2.2.2 i hi).1 q hq).1
theorem MU.ho {σ μ : Mu} {nr i q : Nat} (h : MU σ μ nr) (hi : i < 60) (hq : q < 4) : μ 261 (4 * i + q) = σ (5 + 4 * i + 3) q := ((h.2.2.2 i hi).1 q hq).2
theorem MU.sc {σ μ : Mu} {nr i : Nat} (h : MU σ μ nr) (hi : i < 60) : μ 260 i = nI (rnN σ i) := (h.2.2.2 i hi).2.1
theorem MU.sd {σ μ : Mu} {nr i j : Nat} (h : MU σ μ nr) (hi : i < 60) (hj : j < rnN σ i) : μ 259 (4 * i + j) = nI (rwN σ i j) := (h.2.2.2 i hi).2.2.1 j hj
theorem MU.ex {σ μ : Mu} {nr i : Nat} (h : MU σ μ nr) (hi : i < 60) : μ 262 i = σ (5 + 4 * i) 4 := (h.2.2.2 i hi).2.2.2.1
theorem MU.ap {σ μ : Mu} {nr i : Nat} (h : MU σ μ nr) (hi : i < 60) : μ 263 i = σ (5 + 4 * i) 5 := (h.2.2.2 i hi).2.2.2.2.1
theorem MU.fb {σ μ : Mu} {nr i : Nat} (h : MU σ μ nr) (hi : i < 60) (h1 : σ (5 + 4 * i) 5 = 1) : μ 264 i = σ (5 + 4 * i) 6 := (h.2.2.2 i hi).2.2.2.2.2.1 h1
theorem MU.dp {σ μ : Mu} {nr i : Nat} (h : MU σ μ nr) (hi : i < 60) : μ 265 i = σ (5 + 4 * i) 7 := (h.2.2.2 i hi).2.2.2.2.2.2.1
theorem MU.ce {σ μ : Mu} {nr i : Nat} (h : MU σ μ nr) (hi : i < 60) : μ 266 i = σ (5 + 4 * i) 8 := (h.2.2.2 i hi).2.2.2.2.2.2.2
theorem MR.ls {σ μ : Mu} {nr : Nat} (h : MR σ μ nr) : μ 250 22 = nI (lnN σ) := h.2.1.1
theorem MR.li {σ μ : Mu} {nr j : Nat} (h : MR σ μ nr) (hj : j < lnN σ) : μ 268 j = σ 246 j ∧ μ 269 j = σ 247 j ∧ μ 270 j = σ 248 j := h.2.1.2 j hj
theorem MR.go {σ μ : Mu} {nr : Nat} (h : MR σ μ nr) : μ 250 20 = nI (dnN σ) := h.2.2.1.1
theorem MR.hi {σ μ : Mu} {nr j : Nat} (h : MR σ μ nr) (hj : j < dnN σ) : μ 267 j = nI (diN σ j) := h.2.2.1.2 j hj
theorem MR.sz {σ μ : Mu} {nr : Nat} (h : MR σ μ nr) : μ 250 2 = nI (tlN σ) := h.2.2.2.1
theorem MR.tx {σ μ : Mu} {nr j : Nat} (h : MR σ μ nr) (hj : j < tlN σ) : μ 251 j = (σ 2 j).toInt8.toInt32 := h.2.2.2.2 j hj
theorem MU.of {σ μ μ1 : Mu} {nr : Nat} (h : MU σ μ nr) (hk : ∀ k, 252 ≤ k → k ≤ 266 → μ1 k = μ k) (h4 : μ1 250 4 = μ 250 4) : MU σ μ1 nr := by
  unfold MU
  rw [hk 252 (by decide) (by decide), hk 253 (by decide) (by decide), hk 254 (by decide) (by decide), hk 255 (by decide) (by decide), hk 256 (by decide) (by decide), hk 257 (by decide) (by decide), hk 258 (by decide) (by decide), hk 259 (by decide) (by decide), hk 260 (by decide) (by decide), hk 261 (by decide) (by decide), hk 262 (by decide) (by decide), hk 263 (by decide) (by decide), hk 264 (by decide) (by decide), hk 265 (by decide) (by decide), hk 266 (by decide) (by decide), h4]
  exact h
theorem ML.of {σ μ μ1 : Mu} (h : ML σ μ) (hk : ∀ k, k = 251 ∨ 267 ≤ k → k ≤ 270 → μ1 k = μ k) (h4 : μ1 250 22 = μ 250 22 ∧ μ1 250 20 = μ 250 20 ∧ μ1 250 2 = μ 250 2) : ML σ μ1 := by
  unfold ML
  rw [hk 251 (by decide) (by decide), hk 267 (by decide) (by decide), hk 268 (by decide) (by decide), hk 269 (by decide) (by decide), hk 270 (by decide) (by decide), h4.1, h4.2.1, h4.2.2]
  exact h
/-- the note of a throw is nobody's but its own -/
theorem MR.thr {σ μ : Mu} {nr : Nat} (h : MR σ μ nr) (x : Int32) : MR σ (m_up μ 250 0 x) nr :=
  ⟨h.1.of (fun k h1 _ => m_up_row (by omega)) (m_up_ne (by omega)), h.2.of (fun k h1 _ => m_up_row (by omega)) ⟨m_up_ne (by omega), m_up_ne (by omega), m_up_ne (by omega)⟩⟩
def okK (k : Int32) : Bool := decide (¬ k < 0) && decide (¬ 3 < k)
theorem okK_t {k : Int32} (h : okK k = true) : ∃ q, q < 4 ∧ k = nI q := by
  simp only [okK, Bool.and_eq_true, decide_eq_true_eq] at h
  refine ofIx (M := 4) (by decide) (by decide) h.1 (fun q => h.2 ?_)
  rw [i_lt (show (3 : Int32).toInt = 3 by decide) rfl]
  rw [i_le (show (4 : Int32).toInt = 4 by decide) rfl] at q
  omega
theorem okK_f {k : Int32} (h : okK k = false) : k < 0 ∨ 4 ≤ k := by
  by_cases h0 : k < 0
  · exact Or.inl h0
  · refine Or.inr ?_
    simp only [okK, h0, not_false_eq_true, decide_true, Bool.true_and, decide_eq_false_iff_not, Decidable.not_not] at h
    rw [i_le (show (4 : Int32).toInt = 4 by decide) rfl]
    rw [i_lt (show (3 : Int32).toInt = 3 by decide) rfl] at h
    omega
theorem okK_nI {q : Nat} (hq : q < 4) : ¬ nI q < 0 ∧ ¬ 4 ≤ nI q := ⟨nI_pos (by omega), fun h => by rw [i_le (show (4 : Int32).toInt = 4 by decide) (nI_toInt (show q < 2 ^ 31 by omega))] at h; omega⟩
theorem okU_59 (u : Int32) : (decide (¬ u < 0) && decide (¬ 59 < u)) = okU u := by
  unfold okU
  have h : (59 < u) = (60 ≤ u) := propext (by rw [i_lt (show (59 : Int32).toInt = 59 by decide) rfl, i_le (show (60 : Int32).toInt = 60 by decide) rfl]; omega)
  simp only [h]
theorem okR_1 {nr : Nat} (hn : nr ≤ 20) (r : Int32) : (decide (¬ r < 0) && decide (¬ nI nr - 1 < r)) = okR nr r := by
  unfold okR
  have e : (nI nr - 1).toInt = (nr : Int) - 1 := pk_sub_toInt (a := nr) (b := 1) (by omega) (by decide)
  have h : (nI nr - 1 < r) = (nI nr ≤ r) := propext (by rw [i_lt e rfl, i_le (nI_toInt (show nr < 2 ^ 31 by omega)) rfl]; omega)
  simp only [h]
