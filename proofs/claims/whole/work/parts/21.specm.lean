/-! the reference's answers, over the class's cells σ -/
/-- the latest day of n rules, or -1 -/
def g_max (δ : Nat → Int32) : Nat → Int32
  | 0 => -1
  | n + 1 => if δ n ≤ g_max δ n then g_max δ n else δ n
def g_dueDay (σ : Mu) (i : Nat) (on : Int32) : Int32 := if f_fails σ i = true then -3 else if anyB (fun j => decide (f_day σ i on j < 0)) (rnN σ i) = true then -1 else g_max (f_day σ i on) (rnN σ i)
/-- the action of the first rule with the day due, looked for from the last one on -/
def g_act (σ : Mu) (i : Nat) (on due : Int32) : Nat → Int32 → Int32
  | 0, x => x
  | n + 1, x => g_act σ i on due n (if f_day σ i on n = due then σ (272 + 3 * rwN σ i n) 2 else x)
def g_isDue (σ : Mu) (i : Nat) (on : Int32) : Bool := decide (σ (5 + 4 * i) 7 < 0) && decide (¬ g_dueDay σ i on < 0) && decide (¬ on < g_dueDay σ i on) && decide (¬ on ≤ σ (5 + 4 * i) 4)
def inB (lo hi v : Int32) : Bool := decide (¬ v < lo) && decide (¬ hi < v)
def dN : Nat → Int32
  | 0 => -1
  | n + 1 => nI n
theorem dN_dec (g : Nat) : nI g + -1 = dN g := by
  cases g with
  | zero => decide
  | succ h => exact pk_m1 h
theorem dN_iinc (g : Nat) : nI g + Int32.ofInt (-1) = dN g := by
  rw [show Int32.ofInt (-1) = (-1 : Int32) by decide]
  exact dN_dec g
theorem dN_of (n : Nat) : nI n - 1 = dN n := by
  cases n with
  | zero => decide
  | succ h => exact nI_pred h
/-! the reference's public calls: answer and new cells -/
def G_event (σ μ : Mu) (u k d : Int32) : Int32 × Mu :=
  if okU u = false then (-1, (m_up μ 250 0 0)) else if inB 0 3 k = false ∨ okD d = false then (-2, (m_up μ 250 0 0))
  else if ¬ σ (5 + 4 * u.toNatClampNeg) 7 < 0 then (-3, (m_up μ 250 0 0))
  else (1, m_up (m_up (m_up μ 250 0 0) 258 (4 * u.toNatClampNeg + k.toNatClampNeg) d) 263 u.toNatClampNeg 0)
def G_hold (μ : Mu) (u k d : Int32) : Int32 × Mu :=
  if okU u = false then (-1, (m_up μ 250 0 0)) else if inB 0 3 k = false ∨ inB (-1) 1000000 d = false then (-2, (m_up μ 250 0 0))
  else (1, m_up (m_up (m_up μ 250 0 0) 261 (4 * u.toNatClampNeg + k.toNatClampNeg) d) 263 u.toNatClampNeg 0)
def G_except (μ : Mu) (u d : Int32) : Int32 × Mu :=
  if okU u = false then (-1, (m_up μ 250 0 0)) else if okD d = false then (-2, (m_up μ 250 0 0))
  else (1, m_up (m_up (m_up μ 250 0 0) 262 u.toNatClampNeg d) 263 u.toNatClampNeg 0)
def G_day (σ : Mu) (u on : Int32) : Int32 := if okU u = false ∨ okD on = false then -2 else g_dueDay σ u.toNatClampNeg on
def G_approve (σ μ : Mu) (u p : Int32) : Int32 × Mu :=
  if okU u = false then (-1, (m_up μ 250 0 0)) else if inB 0 99 p = false then (-2, (m_up μ 250 0 0))
  else if ¬ σ (5 + 4 * u.toNatClampNeg) 7 < 0 ∨ σ (5 + 4 * u.toNatClampNeg) 5 = 2 ∨ (σ (5 + 4 * u.toNatClampNeg) 5 = 1 ∧ σ (5 + 4 * u.toNatClampNeg) 6 = p) then (-3, (m_up μ 250 0 0))
  else (σ (5 + 4 * u.toNatClampNeg) 5 + 1, m_up (m_up (m_up μ 250 0 0) 264 u.toNatClampNeg p) 263 u.toNatClampNeg (σ (5 + 4 * u.toNatClampNeg) 5 + 1))
def G_certificate (σ μ : Mu) (u n : Int32) : Int32 × Mu :=
  if okU u = false then (-1, (m_up μ 250 0 0)) else if inB 1 1000000 n = false then (-2, (m_up μ 250 0 0))
  else if σ (5 + 4 * u.toNatClampNeg) 7 < 0 ∨ ¬ σ (5 + 4 * u.toNatClampNeg) 8 < 0 then (-3, (m_up μ 250 0 0))
  else (1, m_up (m_up μ 250 0 0) 266 u.toNatClampNeg n)
def G_about (σ : Mu) (u w : Int32) : Int32 :=
  if okU u = false then -1 else if inB 0 3 w = true then σ (5 + 4 * u.toNatClampNeg + 1) w.toNatClampNeg
  else if w = 4 then nI (rnN σ u.toNatClampNeg) else if w = 5 then σ (5 + 4 * u.toNatClampNeg) 5
  else if w = 6 then (if σ (5 + 4 * u.toNatClampNeg) 7 < 0 then 0 else 1) else if w = 7 then σ (5 + 4 * u.toNatClampNeg) 7
  else if w = 8 then σ (5 + 4 * u.toNatClampNeg) 8 else -1
def G_change (σ μ : Mu) (nr : Nat) (x y d : Int32) : Int32 × Mu :=
  if okR nr x = false then (-1, (m_up μ 250 0 0)) else if inB 0 999 y = false ∨ okD d = false then (-2, (m_up μ 250 0 0))
  else if ¬ μ 257 (6 * x.toNatClampNeg + ccN σ x.toNatClampNeg) < d then (-3, (m_up μ 250 0 0))
  else if ccN σ x.toNatClampNeg = 5 then (-4, (m_up μ 250 0 0))
  else (1, m_up (m_up (m_up (m_up μ 250 0 0) 255 x.toNatClampNeg (nI (ccN σ x.toNatClampNeg + 1))) 256 (6 * x.toNatClampNeg + (ccN σ x.toNatClampNeg + 1)) y) 257 (6 * x.toNatClampNeg + (ccN σ x.toNatClampNeg + 1)) d)
def G_breaks (σ μ : Mu) (nr : Nat) (x : Int32) (b : Bool) : Bool × Mu :=
  if okR nr x = false then (false, (m_up μ 250 0 0)) else (brB σ x.toNatClampNeg, m_up (m_up μ 250 0 0) 254 x.toNatClampNeg (bi b))
def G_schedule (σ μ : Mu) (nr : Nat) (u x : Int32) : Int32 × Mu :=
  if okU u = false ∨ okR nr x = false then (-1, (m_up μ 250 0 0))
  else if ¬ σ (5 + 4 * u.toNatClampNeg) 7 < 0 ∨ anyB (fun j => decide (rwN σ u.toNatClampNeg j = x.toNatClampNeg)) (rnN σ u.toNatClampNeg) = true then (-3, (m_up μ 250 0 0))
  else if rnN σ u.toNatClampNeg = 4 then (-4, (m_up μ 250 0 0))
  else (nI (rnN σ u.toNatClampNeg + 1), m_up (m_up (m_up (m_up μ 250 0 0) 259 (4 * u.toNatClampNeg + rnN σ u.toNatClampNeg) x) 260 u.toNatClampNeg (nI (rnN σ u.toNatClampNeg + 1))) 263 u.toNatClampNeg 0)
def g_against (σ : Mu) (i : Nat) (how d : Int32) : Int32 :=
  if ¬ σ (5 + 4 * i) 7 < 0 then 1 else if 0 < dnN σ ∧ σ (5 + 4 * diN σ (dnN σ - 1)) 8 < 0 then 2 else if f_fails σ i = true then 3
  else if g_isDue σ i d = false then 4 else if f_held σ i d = true then 5 else if ¬ 2 ≤ σ (5 + 4 * i) 5 then 6
  else if g_act σ i d (g_dueDay σ i d) (rnN σ i) (-1) = how then 0 else 7
def G_dispose (σ μ : Mu) (u how d : Int32) : Int32 × Mu :=
  if okU u = false then (-1, (m_up μ 250 0 0)) else if inB 0 1 how = false ∨ okD d = false then (-2, (m_up μ 250 0 0))
  else if ¬ g_against σ u.toNatClampNeg how d ≤ 0 then (-10 - g_against σ u.toNatClampNeg how d, (m_up μ 250 0 0))
  else (1, m_up (m_up (m_up (m_up μ 250 0 0) 265 u.toNatClampNeg d) 267 (dnN σ) u) 250 20 (nI (dnN σ + 1)))
def insG (μ : Mu) (n : Nat) (u d x : Int32) : Mu := m_up (put3 268 269 270 (ins 268 269 270 d n μ).1 (ins 268 269 270 d n μ).2 u d x) 250 22 (nI (n + 1))
/-- the reference's list behind j units, and how many are in it -/
def dueG (σ μ : Mu) (on : Int32) : Nat → Mu × Nat
  | 0 => (m_up (m_up μ 250 0 0) 250 22 0, 0)
  | j + 1 => if g_isDue σ j on = true then (insG (dueG σ μ on j).1 (dueG σ μ on j).2 (nI j) (g_dueDay σ j on) (g_act σ j on (g_dueDay σ j on) (rnN σ j) (-1)), (dueG σ μ on j).2 + 1) else dueG σ μ on j
def atB (σ : Mu) (x w : Int32) : Bool := inB 0 (nI (lnN σ) - 1) x && inB 0 2 w
def G_at (σ μ : Mu) (x w : Int32) : Int32 × Mu :=
  if atB σ x w = false then (0, m_up μ 250 0 1) else (if w = 0 then μ 268 x.toNatClampNeg else if w = 1 then μ 269 x.toNatClampNeg else μ 270 x.toNatClampNeg, (m_up μ 250 0 0))
def G_history (σ μ : Mu) (x : Int32) : Int32 × Mu :=
  if inB 0 (nI (dnN σ) - 1) x = false then (0, m_up μ 250 0 1) else (nI (diN σ x.toNatClampNeg), (m_up μ 250 0 0))
def G_sign (σ μ : Mu) (c : Int32) : Mu := if tlN σ = 40 then (m_up μ 250 0 0) else m_up (m_up (m_up μ 250 0 0) 251 (tlN σ) c.toInt8.toInt32) 250 2 (nI (tlN σ + 1))
theorem inB_1 {n : Nat} {x : Int32} (hn : n < 2 ^ 30) (h : inB 0 (nI n - 1) x = true) : ∃ q, q < n ∧ x = nI q := by
  simp only [inB, Bool.and_eq_true, decide_eq_true_eq] at h
  have e : (nI n - 1).toInt = (n : Int) - 1 := pk_sub_toInt (a := n) (b := 1) hn (by decide)
  have hn : n < 2 ^ 31 := by omega
  refine ofIx hn (nI_toInt hn) h.1 (fun q => h.2 ?_)
  rw [i_lt e rfl]
  rw [i_le (nI_toInt hn) rfl] at q
  omega
theorem dueG_le (σ μ : Mu) (on : Int32) : ∀ j, (dueG σ μ on j).2 ≤ j
  | 0 => Nat.le_refl _
  | j + 1 => by
    have h := dueG_le σ μ on j
    unfold dueG
    split
    · exact Nat.succ_le_succ h
    · omega
theorem dueG_22 (σ μ : Mu) (on : Int32) : ∀ j, (dueG σ μ on j).1 250 22 = nI (dueG σ μ on j).2
  | 0 => by
    show m_up (m_up μ 250 0 0) 250 22 0 250 22 = nI 0
    rw [m_up_self, nI_0]
  | j + 1 => by
    have h := dueG_22 σ μ on j
    unfold dueG
    split
    · show insG (dueG σ μ on j).1 (dueG σ μ on j).2 (nI j) (g_dueDay σ j on) (g_act σ j on (g_dueDay σ j on) (rnN σ j) (-1)) 250 22 = nI ((dueG σ μ on j).2 + 1)
      exact m_up_self _ _ _ _
    · exact h
theorem insG_out {μ : Mu} {n : Nat} {u d x : Int32} {k : Nat} (h : k < 268 ∨ 270 < k) (h2 : k ≠ 250) : insG μ n u d x k = μ k := by
  unfold insG
  rw [m_up_row h2, put3_out (by omega) (by omega) (by omega), ins_out _ _ _ _ (by omega) (by omega) (by omega)]
theorem insG_out2 {μ : Mu} {n : Nat} {u d x : Int32} {s : Nat} (h2 : s ≠ 22) : insG μ n u d x 250 s = μ 250 s := by
  unfold insG
  rw [m_up_ne (by omega), put3_out (by omega) (by omega) (by omega), ins_out _ _ _ _ (by omega) (by omega) (by omega)]
theorem dueG_out (σ μ : Mu) (on : Int32) {k : Nat} (h : k < 268 ∨ 270 < k) (h2 : k ≠ 250) : ∀ j, (dueG σ μ on j).1 k = μ k
  | 0 => by
    show m_up (m_up μ 250 0 0) 250 22 0 k = μ k
    rw [m_up_row h2, m_up_row h2]
  | j + 1 => by
    have q := dueG_out σ μ on h h2 j
    unfold dueG
    split
    · show insG _ _ _ _ _ k = μ k
      rw [insG_out h h2]; exact q
    · exact q
theorem dueG_out2 (σ μ : Mu) (on : Int32) {s : Nat} (h2 : s ≠ 22) : ∀ j, (dueG σ μ on j).1 250 s = m_up μ 250 0 0 250 s
  | 0 => by
    show m_up (m_up μ 250 0 0) 250 22 0 250 s = _
    exact m_up_ne (by omega)
  | j + 1 => by
    have q := dueG_out2 σ μ on h2 j
    unfold dueG
    split
    · show insG _ _ _ _ _ 250 s = _
      rw [insG_out2 h2]; exact q
    · exact q
theorem dueG_MU {σ μ : Mu} {nr : Nat} (h : MU σ μ nr) (on : Int32) (j : Nat) : MU σ (dueG σ μ on j).1 nr :=
  h.of (fun k h1 h2 => dueG_out σ μ on (by omega) (by omega) j) ((dueG_out2 σ μ on (by decide) j).trans (m_up_ne (by omega)))
