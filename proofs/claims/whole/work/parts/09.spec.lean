/-! what the class's cells hold, as numbers; the answers of its loops -/
def KN (K : KTy) : Nat := K.2.2.2.2.2.2
def anyB (p : Nat → Bool) (n : Nat) : Bool := (List.range n).any p
theorem anyB_t {p : Nat → Bool} {n j : Nat} (hj : j < n) (h : p j = true) : anyB p n = true := List.any_eq_true.mpr ⟨j, List.mem_range.mpr hj, h⟩
theorem anyB_f {p : Nat → Bool} {n : Nat} (h : ∀ j, j < n → p j = false) : anyB p n = false := by
  unfold anyB
  rw [List.any_eq_false]
  intro j hj
  rw [h j (List.mem_range.mp hj)]
  decide
theorem anyB_congr {p q : Nat → Bool} {n : Nat} (h : ∀ j, j < n → p j = q j) : anyB p n = anyB q n := by
  cases hq : anyB q n with
  | false =>
    refine anyB_f fun j hj => ?_
    rw [h j hj]
    cases hqj : q j with
    | false => rfl
    | true => rw [anyB_t hj hqj] at hq; cases hq
  | true =>
    obtain ⟨j, hj, hqj⟩ := List.any_eq_true.mp hq
    exact anyB_t (List.mem_range.mp hj) (by rw [h j (List.mem_range.mp hj)]; exact hqj)
/-- how many rules, what kind of event, how many changes a rule has, whether it is broken -/
def ekN (μ : Mu) (r : Nat) : Nat := (μ (272 + 3 * r) 0).toNatClampNeg
def ccN (μ : Mu) (r : Nat) : Nat := (μ (272 + 3 * r) 5).toNatClampNeg
def brB (μ : Mu) (r : Nat) : Bool := decide (μ (272 + 3 * r) 6 = 1)
/-- a unit's rules -/
def rnN (μ : Mu) (i : Nat) : Nat := (μ (5 + 4 * i) 2).toNatClampNeg
def rwN (μ : Mu) (i j : Nat) : Nat := ((μ (5 + 4 * i + 2) j).toNatClampNeg - 273) / 3
def dnN (μ : Mu) : Nat := (μ 0 6).toNatClampNeg
def diN (μ : Mu) (j : Nat) : Nat := (μ 249 j).toNatClampNeg
def lnN (μ : Mu) : Nat := (μ 245 3).toNatClampNeg
def tlN (μ : Mu) : Nat := (μ 1 1).toNatClampNeg
/-- the class's cells are as its own calls leave them; nr rules are there -/
def CI (μ : Mu) (nr : Nat) : Prop :=
  (nr ≤ 20 ∧ μ 0 2 = nI nr) ∧ (∀ r, r < nr → μ 3 r = nI (272 + 3 * r + 1)) ∧ (∀ i, i < 60 → μ 4 i = nI (5 + 4 * i + 1)) ∧
  (∀ r, r < nr → μ (272 + 3 * r) 0 = nI (ekN μ r) ∧ ekN μ r < 4 ∧ μ (272 + 3 * r) 5 = nI (ccN μ r) ∧ ccN μ r ≤ 5 ∧ μ (272 + 3 * r) 6 = bi (brB μ r)) ∧
  (∀ i, i < 60 → μ (5 + 4 * i) 2 = nI (rnN μ i) ∧ rnN μ i ≤ 4 ∧ ∀ j, j < rnN μ i → μ (5 + 4 * i + 2) j = nI (272 + 3 * rwN μ i j + 1) ∧ rwN μ i j < nr) ∧
  (μ 0 6 = nI (dnN μ) ∧ dnN μ ≤ 60 ∧ ∀ j, j < dnN μ → μ 249 j = nI (diN μ j) ∧ diN μ j < 60) ∧ (μ 245 3 = nI (lnN μ) ∧ lnN μ ≤ 60) ∧ (μ 1 1 = nI (tlN μ) ∧ tlN μ ≤ 40)
theorem CI.nr {μ : Mu} {nr : Nat} (h : CI μ nr) : nr ≤ 20 := h.1.1
theorem CI.rc {μ : Mu} {nr : Nat} (h : CI μ nr) : μ 0 2 = nI nr := h.1.2
theorem CI.ru {μ : Mu} {nr r : Nat} (h : CI μ nr) (hr : r < nr) : μ 3 r = nI (272 + 3 * r + 1) := h.2.1 r hr
theorem CI.un {μ : Mu} {nr i : Nat} (h : CI μ nr) (hi : i < 60) : μ 4 i = nI (5 + 4 * i + 1) := h.2.2.1 i hi
theorem CI.ek {μ : Mu} {nr r : Nat} (h : CI μ nr) (hr : r < nr) : μ (272 + 3 * r) 0 = nI (ekN μ r) ∧ ekN μ r < 4 := ⟨(h.2.2.2.1 r hr).1, (h.2.2.2.1 r hr).2.1⟩
theorem CI.cc {μ : Mu} {nr r : Nat} (h : CI μ nr) (hr : r < nr) : μ (272 + 3 * r) 5 = nI (ccN μ r) ∧ ccN μ r ≤ 5 := ⟨(h.2.2.2.1 r hr).2.2.1, (h.2.2.2.1 r hr).2.2.2.1⟩
theorem CI.br {μ : Mu} {nr r : Nat} (h : CI μ nr) (hr : r < nr) : μ (272 + 3 * r) 6 = bi (brB μ r) := (h.2.2.2.1 r hr).2.2.2.2
theorem CI.rn {μ : Mu} {nr i : Nat} (h : CI μ nr) (hi : i < 60) : μ (5 + 4 * i) 2 = nI (rnN μ i) ∧ rnN μ i ≤ 4 := ⟨(h.2.2.2.2.1 i hi).1, (h.2.2.2.2.1 i hi).2.1⟩
theorem CI.rw {μ : Mu} {nr i j : Nat} (h : CI μ nr) (hi : i < 60) (hj : j < rnN μ i) : μ (5 + 4 * i + 2) j = nI (272 + 3 * rwN μ i j + 1) ∧ rwN μ i j < nr := (h.2.2.2.2.1 i hi).2.2 j hj
theorem CI.dn {μ : Mu} {nr : Nat} (h : CI μ nr) : μ 0 6 = nI (dnN μ) ∧ dnN μ ≤ 60 := ⟨h.2.2.2.2.2.1.1, h.2.2.2.2.2.1.2.1⟩
theorem CI.di {μ : Mu} {nr j : Nat} (h : CI μ nr) (hj : j < dnN μ) : μ 249 j = nI (diN μ j) ∧ diN μ j < 60 := h.2.2.2.2.2.1.2.2 j hj
theorem CI.ln {μ : Mu} {nr : Nat} (h : CI μ nr) : μ 245 3 = nI (lnN μ) ∧ lnN μ ≤ 60 := h.2.2.2.2.2.2.1
theorem CI.tl {μ : Mu} {nr : Nat} (h : CI μ nr) : μ 1 1 = nI (tlN μ) ∧ tlN μ ≤ 40 := h.2.2.2.2.2.2.2
/-- the years that a rule has on a day: its first ones, and n changes looked at -/
def f_years (μ : Mu) (r : Nat) (on : Int32) : Nat → Int32
  | 0 => μ (272 + 3 * r) 1
  | n + 1 => if on < μ (272 + 3 * r + 1) n then f_years μ r on n else μ (272 + 3 * r + 2) n
def f_rday (μ : Mu) (r : Nat) (ev on : Int32) : Int32 := if ev = -1 then -1 else ev + f_years μ r on (ccN μ r) * 365
/-- the day of the j-th rule of a unit -/
def f_day (μ : Mu) (i : Nat) (on : Int32) (j : Nat) : Int32 := f_rday μ (rwN μ i j) (μ (5 + 4 * i + 1) (ekN μ (rwN μ i j))) on
def f_scan (δ : Nat → Int32) : Nat → Option Nat × Int32
  | 0 => (none, -1)
  | n + 1 => if δ n ≤ (f_scan δ n).2 then f_scan δ n else (some n, δ n)
def f_dec (μ : Mu) (i : Nat) (on : Int32) : Option Nat := if anyB (fun j => brB μ (rwN μ i j) || decide (f_day μ i on j = -1)) (rnN μ i) = true then none else (f_scan (f_day μ i on) (rnN μ i)).1
def f_dueDay (μ : Mu) (i : Nat) (on : Int32) : Int32 := match f_dec μ i on with
  | none => -1
  | some j => f_day μ i on j
def f_dueAction (μ : Mu) (i : Nat) (on : Int32) : Int32 := match f_dec μ i on with
  | none => -1
  | some j => μ (272 + 3 * rwN μ i j) 2
def f_fails (μ : Mu) (i : Nat) : Bool := anyB (fun j => brB μ (rwN μ i j)) (rnN μ i)
def f_held (μ : Mu) (i : Nat) (day : Int32) : Bool := anyB (fun j => decide (μ (5 + 4 * i + 3) j = -1) || decide (¬ μ (5 + 4 * i + 3) j < day)) 4
def f_isDue (μ : Mu) (i : Nat) (on : Int32) : Bool := decide (μ (5 + 4 * i) 7 = -1) && decide (μ (5 + 4 * i) 4 < on) && decide (¬ f_dueDay μ i on = -1) && decide (¬ on < f_dueDay μ i on)
theorem f_scan_lt (δ : Nat → Int32) : ∀ (n p : Nat), (f_scan δ n).1 = some p → p < n
  | 0, p, h => by cases h
  | n + 1, p, h => by
    unfold f_scan at h
    split at h
    · exact Nat.lt_succ_of_lt (f_scan_lt δ n p h)
    · cases h; exact Nat.lt_succ_self _
theorem f_dec_lt {μ : Mu} {i p : Nat} {on : Int32} (h : f_dec μ i on = some p) : p < rnN μ i := by
  unfold f_dec at h
  split at h
  · cases h
  · exact f_scan_lt _ _ _ h
def f_decv (μ : Mu) (i : Nat) (on : Int32) : Value := match f_dec μ i on with
  | none => .null
  | some j => .ref (272 + 3 * rwN μ i j)
