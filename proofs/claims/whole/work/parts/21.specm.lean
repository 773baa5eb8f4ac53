/-! the reference's answers, over the class's cells σ -/
/-- the latest day of n rules, or -1 -/
def g_max (δ : Nat → Int32) : Nat → Int32
  | 0 => -1
  | n + 1 => if δ n ≤ g_max δ n then g_max δ n else δ n
def g_dueDay (σ : Mu) (i : Nat) (on : Int32) : Int32 := if f_fails σ i = true then -3 else if anyB (fun j => decide (f_day σ i on j < 0)) (rnN σ i) = true then -1 else g_max (f_day σ i on) (rnN σ i)
/-- the action of the first rule with the day due, looked for from the last one on -/
def g_act (σ : Mu) (i : Nat) (on due : Int32) (a : Int32) : Nat → Int32 → Int32
  | 0, x => x
  | n + 1, x => g_act σ i on due a n (if f_day σ i on n = due then σ (272 + 3 * rwN σ i n) 2 else x)
def g_isDue (σ : Mu) (i : Nat) (on : Int32) : Bool := decide (σ (5 + 4 * i) 7 < 0) && decide (¬ g_dueDay σ i on < 0) && decide (¬ on < g_dueDay σ i on) && decide (¬ on ≤ σ (5 + 4 * i) 4)
def mt (μ : Mu) : Mu := m_up μ 250 0 0
