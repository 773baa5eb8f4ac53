/-! the answers and the new cells of the class's public calls, case by case as the code has them -/
def okU (u : Int32) : Bool := decide (¬ u < 0) && decide (¬ 60 ≤ u)
def okD (d : Int32) : Bool := decide (¬ d < 0) && decide (¬ 1000000 < d)
def okR (nr : Nat) (r : Int32) : Bool := decide (¬ r < 0) && decide (¬ nI nr ≤ r)
theorem okU_of {u : Int32} (h : okU u = true) : ∃ i, i < 60 ∧ u = nI i := by
  simp only [okU, Bool.and_eq_true, decide_eq_true_eq] at h
  rcases pk_ix u (n := 60) (by decide) with h1 | h1 | h1
  · exact absurd h1 h.1
  · exact absurd h1 h.2
  · exact h1
theorem okU_nI {i : Nat} (hi : i < 60) : okU (nI i) = true := by
  simp only [okU, Bool.and_eq_true, decide_eq_true_eq]
  exact ⟨nI_pos (by omega), fun h => by rw [i_le (show (60 : Int32).toInt = 60 by decide) (nI_toInt (show i < 2 ^ 31 by omega))] at h; omega⟩
theorem okR_of {nr : Nat} {r : Int32} (hn : nr ≤ 20) (h : okR nr r = true) : ∃ i, i < nr ∧ r = nI i := by
  simp only [okR, Bool.and_eq_true, decide_eq_true_eq] at h
  rcases pk_ix r (n := nr) (by omega) with h1 | h1 | h1
  · exact absurd h1 h.1
  · exact absurd h1 h.2
  · exact h1
theorem okR_nI {nr i : Nat} (hn : nr ≤ 20) (hi : i < nr) : okR nr (nI i) = true := by
  simp only [okR, Bool.and_eq_true, decide_eq_true_eq]
  exact ⟨nI_pos (by omega), fun h => by rw [i_le (nI_toInt (show nr < 2 ^ 31 by omega)) (nI_toInt (show i < 2 ^ 31 by omega))] at h; omega⟩
theorem ofIx {x : Int32} {n : Nat} {M : Int32} (hn : n < 2 ^ 31) (hM : M.toInt = n) (h0 : ¬ x < 0) (h1 : ¬ M ≤ x) : ∃ i, i < n ∧ x = nI i := by
  rcases pk_ix x (n := n) hn with h | h | h
  · exact absurd h h0
  · exact absurd (by rw [i_le hM rfl]; rw [i_le (nI_toInt hn) rfl] at h; exact h) h1
  · exact h
def F_event (μ : Mu) (u k d : Int32) : Int32 × Mu :=
  if okU u = false then (-1, μ) else if k < 0 ∨ 4 ≤ k ∨ okD d = false then (-2, μ)
  else if ¬ μ (5 + 4 * u.toNatClampNeg) 7 = -1 then (-3, μ)
  else (1, m_up (m_up μ (5 + 4 * u.toNatClampNeg + 1) k.toNatClampNeg d) (5 + 4 * u.toNatClampNeg) 5 0)
def F_hold (μ : Mu) (u k d : Int32) : Int32 × Mu :=
  if okU u = false then (-1, μ) else if k < 0 ∨ 4 ≤ k ∨ (¬ d = -1 ∧ okD d = false) then (-2, μ)
  else (1, m_up (m_up μ (5 + 4 * u.toNatClampNeg + 3) k.toNatClampNeg d) (5 + 4 * u.toNatClampNeg) 5 0)
def F_except (μ : Mu) (u d : Int32) : Int32 × Mu :=
  if okU u = false then (-1, μ) else if okD d = false then (-2, μ)
  else (1, m_up (m_up μ (5 + 4 * u.toNatClampNeg) 4 d) (5 + 4 * u.toNatClampNeg) 5 0)
def F_day (μ : Mu) (u on : Int32) : Int32 :=
  if okU u = false ∨ okD on = false then -2 else if f_fails μ u.toNatClampNeg = true then -3 else f_dueDay μ u.toNatClampNeg on
def addAp (μ : Mu) (i : Nat) (p : Int32) : Mu := if μ (5 + 4 * i) 5 = 0 then m_up (m_up μ (5 + 4 * i) 6 p) (5 + 4 * i) 5 (m_up μ (5 + 4 * i) 6 p (5 + 4 * i) 5 + 1) else m_up μ (5 + 4 * i) 5 (μ (5 + 4 * i) 5 + 1)
def F_approve (μ : Mu) (u p : Int32) : Int32 × Mu :=
  if okU u = false then (-1, μ) else if p < 0 ∨ ¬ p < 100 then (-2, μ)
  else if ¬ μ (5 + 4 * u.toNatClampNeg) 7 = -1 ∨ 2 ≤ μ (5 + 4 * u.toNatClampNeg) 5 ∨ (¬ μ (5 + 4 * u.toNatClampNeg) 5 ≤ 0 ∧ μ (5 + 4 * u.toNatClampNeg) 6 = p) then (-3, μ)
  else (addAp μ u.toNatClampNeg p (5 + 4 * u.toNatClampNeg) 5, addAp μ u.toNatClampNeg p)
def F_certificate (μ : Mu) (u n : Int32) : Int32 × Mu :=
  if okU u = false then (-1, μ) else if n < 1 ∨ ¬ n ≤ 1000000 then (-2, μ)
  else if μ (5 + 4 * u.toNatClampNeg) 7 = -1 ∨ ¬ μ (5 + 4 * u.toNatClampNeg) 8 = -1 then (-3, μ)
  else (1, m_up μ (5 + 4 * u.toNatClampNeg) 8 n)
def F_about (μ : Mu) (u w : Int32) : Int32 :=
  if okU u = false then -1 else if w = 4 then μ (5 + 4 * u.toNatClampNeg) 2 else if w = 5 then μ (5 + 4 * u.toNatClampNeg) 5
  else if w = 6 then (if μ (5 + 4 * u.toNatClampNeg) 7 = -1 then 0 else 1) else if w = 7 then μ (5 + 4 * u.toNatClampNeg) 7
  else if w = 8 then μ (5 + 4 * u.toNatClampNeg) 8 else if w < 0 ∨ 4 ≤ w then -1 else μ (5 + 4 * u.toNatClampNeg + 1) w.toNatClampNeg
def F_schedule (μ : Mu) (nr : Nat) (u r : Int32) : Int32 × Mu :=
  if okU u = false ∨ okR nr r = false then (-1, μ)
  else if ¬ μ (5 + 4 * u.toNatClampNeg) 7 = -1 ∨ anyB (fun j => decide (rwN μ u.toNatClampNeg j = r.toNatClampNeg)) (rnN μ u.toNatClampNeg) = true then (-3, μ)
  else if rnN μ u.toNatClampNeg < 4 then (nI (rnN μ u.toNatClampNeg) + 1, m_up (m_up (m_up μ (5 + 4 * u.toNatClampNeg + 2) (rnN μ u.toNatClampNeg) (nI (272 + 3 * r.toNatClampNeg + 1))) (5 + 4 * u.toNatClampNeg) 2 (nI (rnN μ u.toNatClampNeg) + 1)) (5 + 4 * u.toNatClampNeg) 5 0)
  else (-4, μ)
def F_change (μ : Mu) (nr : Nat) (r y d : Int32) : Int32 × Mu :=
  if okR nr r = false then (-1, μ) else if y < 0 ∨ 999 < y ∨ okD d = false then (-2, μ)
  else if 0 < ccN μ r.toNatClampNeg ∧ ¬ μ (272 + 3 * r.toNatClampNeg + 1) (ccN μ r.toNatClampNeg - 1) < d then (-3, μ)
  else if ccN μ r.toNatClampNeg < 5 then (1, m_up (m_up (m_up μ (272 + 3 * r.toNatClampNeg + 1) (ccN μ r.toNatClampNeg) d) (272 + 3 * r.toNatClampNeg + 2) (ccN μ r.toNatClampNeg) y) (272 + 3 * r.toNatClampNeg) 5 (nI (ccN μ r.toNatClampNeg) + 1))
  else (-4, μ)
def F_breaks (μ : Mu) (nr : Nat) (r : Int32) (b : Bool) : Bool × Mu :=
  if okR nr r = false then (false, μ) else (brB μ r.toNatClampNeg, m_up μ (272 + 3 * r.toNatClampNeg) 6 (bi b))
def f_cm (μ : Mu) : Bool := decide (0 < dnN μ) && decide (μ (5 + 4 * diN μ (dnN μ - 1)) 8 = -1)
def f_obst (μ : Mu) (i : Nat) (how d : Int32) : Int32 :=
  if ¬ μ (5 + 4 * i) 7 = -1 then 1 else if f_cm μ = true then 2 else if f_fails μ i = true then 3 else if f_isDue μ i d = false then 4
  else if f_held μ i d = true then 5 else if ¬ 2 ≤ μ (5 + 4 * i) 5 then 6 else if ¬ f_dueAction μ i d = how then 7 else 0
def keepD (μ : Mu) (n : Nat) (u : Int32) : Mu := if n < 60 then m_up (m_up μ 249 n u) 0 6 (nI n + 1) else μ
def F_dispose (μ : Mu) (u how d : Int32) : Int32 × Mu :=
  if okU u = false then (-1, μ) else if (¬ how = 0 ∧ ¬ how = 1) ∨ okD d = false then (-2, μ)
  else if ¬ f_obst μ u.toNatClampNeg how d = 0 then (-10 - f_obst μ u.toNatClampNeg how d, μ)
  else (1, keepD (m_up μ (5 + 4 * u.toNatClampNeg) 7 d) (dnN μ) u)
/-- three rows, a place each -/
abbrev put3 (a b c : Nat) (μ : Mu) (j : Nat) (u d x : Int32) : Mu := m_up (m_up (m_up μ a j u) b j d) c j x
/-- room is made for day d: the later ones go up a place -/
def ins (a b c : Nat) (d : Int32) : Nat → Mu → Mu × Nat
  | 0, μ => (μ, 0)
  | f + 1, μ => if μ b f ≤ d then (μ, f + 1) else ins a b c d f (put3 a b c μ (f + 1) (μ a f) (μ b f) (μ c f))
def insM (μ : Mu) (u d x : Int32) : Mu := m_up (put3 246 247 248 (ins 246 247 248 d (lnN μ) μ).1 (ins 246 247 248 d (lnN μ) μ).2 u d x) 245 3 (nI (lnN μ) + 1)
def dueM (μ : Mu) (on : Int32) : Nat → Mu
  | 0 => m_up μ 245 3 0
  | j + 1 => if f_isDue (dueM μ on j) j on = true then insM (dueM μ on j) (nI j) (f_dueDay (dueM μ on j) j on) (f_dueAction (dueM μ on j) j on) else dueM μ on j
theorem ins_le (a b c : Nat) (d : Int32) : ∀ (f : Nat) (μ : Mu), (ins a b c d f μ).2 ≤ f
  | 0, _ => Nat.le_refl _
  | f + 1, μ => by
    unfold ins
    split
    · exact Nat.le_refl _
    · exact Nat.le_succ_of_le (ins_le a b c d f _)
theorem put3_out {a b c j k : Nat} {μ : Mu} {u d x : Int32} (ha : k ≠ a) (hb : k ≠ b) (hc : k ≠ c) : put3 a b c μ j u d x k = μ k := by
  unfold put3
  rw [m_up_row hc, m_up_row hb, m_up_row ha]
theorem ins_out (a b c : Nat) (d : Int32) {k : Nat} (ha : k ≠ a) (hb : k ≠ b) (hc : k ≠ c) : ∀ (f : Nat) (μ : Mu), (ins a b c d f μ).1 k = μ k
  | 0, _ => rfl
  | f + 1, μ => by
    unfold ins
    split
    · rfl
    · rw [ins_out a b c d ha hb hc f, put3_out ha hb hc]
theorem insM_out {μ : Mu} {u d x : Int32} {k : Nat} (h : k < 245 ∨ 248 < k) : insM μ u d x k = μ k := by
  unfold insM
  rw [m_up_row (by omega), put3_out (by omega) (by omega) (by omega), ins_out _ _ _ _ (by omega) (by omega) (by omega)]
theorem insM_ln {μ : Mu} {u d x : Int32} : insM μ u d x 245 3 = nI (lnN μ) + 1 := m_up_self _ _ _ _
theorem dueM_out (μ : Mu) (on : Int32) {k : Nat} (h : k < 245 ∨ 248 < k) : ∀ j, dueM μ on j k = μ k
  | 0 => m_up_row (by omega)
  | j + 1 => by
    unfold dueM
    split
    · rw [insM_out h, dueM_out μ on h j]
    · exact dueM_out μ on h j
theorem dueM_ln (μ : Mu) (on : Int32) : ∀ j, j ≤ 60 → dueM μ on j 245 3 = nI (lnN (dueM μ on j)) ∧ lnN (dueM μ on j) ≤ j
  | 0, _ => by
    have e : dueM μ on 0 245 3 = 0 := m_up_self _ _ _ _
    refine ⟨?_, ?_⟩
    · rw [lnN, e]; decide
    · rw [lnN, e]; decide
  | j + 1, h => by
    obtain ⟨h1, h2⟩ := dueM_ln μ on j (by omega)
    unfold dueM
    split
    · have e : lnN (insM (dueM μ on j) (nI j) (f_dueDay (dueM μ on j) j on) (f_dueAction (dueM μ on j) j on)) = lnN (dueM μ on j) + 1 := by
        rw [lnN, insM_ln, nI_1, nI_clamp (by omega)]
      rw [e, insM_ln, nI_1]
      exact ⟨rfl, by omega⟩
    · exact ⟨h1, by omega⟩
/-- the class's cells but the list's stay: so does what is said of them -/
theorem CI.list {μ μ1 : Mu} {nr : Nat} (h : CI μ nr) (hk : ∀ k, (k < 245 ∨ 248 < k) → μ1 k = μ k) (hl : μ1 245 3 = nI (lnN μ1) ∧ lnN μ1 ≤ 60) : CI μ1 nr := by
  have hr : ∀ r, μ1 (272 + 3 * r) = μ (272 + 3 * r) := fun r => hk _ (by omega)
  have hu : ∀ i, i < 60 → μ1 (5 + 4 * i) = μ (5 + 4 * i) := fun i hi => hk _ (by omega)
  have hw : ∀ i, i < 60 → μ1 (5 + 4 * i + 2) = μ (5 + 4 * i + 2) := fun i hi => hk _ (by omega)
  refine ⟨⟨h.1.1, by rw [hk 0 (by omega)]; exact h.1.2⟩, fun r hr => by rw [hk 3 (by omega)]; exact h.2.1 r hr, fun i hi => by rw [hk 4 (by omega)]; exact h.2.2.1 i hi, fun r hr2 => ?_, fun i hi => ?_, ?_, hl, ?_⟩
  · simp only [ekN, ccN, brB, hr]
    exact h.2.2.2.1 r hr2
  · simp only [rnN, rwN, hu i hi, hw i hi]
    exact h.2.2.2.2.1 i hi
  · simp only [dnN, diN, hk 0 (by omega), hk 249 (by omega)]
    exact h.2.2.2.2.2.1
  · simp only [tlN, hk 1 (by omega)]
    exact h.2.2.2.2.2.2.2
theorem CI.due {μ : Mu} {nr : Nat} (h : CI μ nr) (on : Int32) {j : Nat} (hj : j ≤ 60) : CI (dueM μ on j) nr := h.list (fun k hk => dueM_out μ on hk j) ⟨(dueM_ln μ on j hj).1, by have := (dueM_ln μ on j hj).2; omega⟩
