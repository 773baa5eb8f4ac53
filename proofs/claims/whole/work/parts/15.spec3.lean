def collectM (μ : Mu) (c : Int32) : Mu := if tlN μ < 40 then m_up (m_up μ 2 (tlN μ) (c &&& 255)) 1 1 (nI (tlN μ) + 1) else μ
def f_told (μ : Mu) (j : Nat) (w : Int32) : Int32 := if w = 0 then μ 246 j else if w = 1 then μ 247 j else μ 248 j
theorem i_dec (n : Nat) : nI (n + 1) + Int32.ofInt (-1) = nI n := by
  rw [show Int32.ofInt (-1) = (-1 : Int32) by decide]
  exact pk_m1 n
