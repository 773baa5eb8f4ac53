/-! texts: signs, words, digits; what is read as a rule -/
def sgA (μ : Mu) (j : Nat) : Int32 := if j < tlN μ then μ 2 j else -1
def smB (c : Int32) : Bool := decide (¬ c < 97) && decide (¬ 122 < c)
def dgB (c : Int32) : Bool := decide (¬ c < 48) && decide (¬ 57 < c)
/-- where the small letters from p on end -/
def wE (tx : Nat → Int32) : Nat → Nat → Nat
  | 0, p => p
  | f + 1, p => if smB (tx p) = true then wE tx f (p + 1) else p
theorem wE_ge (tx : Nat → Int32) : ∀ f p, p ≤ wE tx f p
  | 0, p => Nat.le_refl _
  | f + 1, p => by
    unfold wE
    split
    · exact Nat.le_trans (Nat.le_succ p) (wE_ge tx f (p + 1))
    · exact Nat.le_refl _
theorem wE_le {tx : Nat → Int32} {T : Nat} (h : ∀ j, T ≤ j → smB (tx j) = false) : ∀ f p, p ≤ T → wE tx f p ≤ T
  | 0, p, hp => hp
  | f + 1, p, hp => by
    unfold wE
    split
    · rename_i hs
      refine wE_le h f (p + 1) ?_
      rcases Nat.lt_or_ge p T with q | q
      · exact q
      · rw [h p q] at hs; cases hs
    · exact hp
/-- whether the signs from p to e are the constant i -/
def wM (tx : Nat → Int32) (p e i : Nat) : Bool := decide (e = p + lnS i) && !anyB (fun k => !decide (tx (p + k) = chS i k)) (lnS i)
def evK (tx : Nat → Int32) (p e : Nat) : Nat := if wM tx p e 0 = true then 0 else if wM tx p e 1 = true then 1 else if wM tx p e 2 = true then 2 else if wM tx p e 3 = true then 3 else 4
def acK (tx : Nat → Int32) (p e : Nat) : Nat := if wM tx p e 4 = true then 0 else if wM tx p e 5 = true then 1 else 2
/-- at most f digits from p on: where they end, what they tell -/
def dgR (tx : Nat → Int32) : Nat → Nat → Int32 → Nat × Int32
  | 0, p, v => (p, v)
  | f + 1, p, v => if dgB (tx p) = true then dgR tx f (p + 1) (v * 10 + tx p - 48) else (p, v)
theorem dgR_ge (tx : Nat → Int32) : ∀ f p v, p ≤ (dgR tx f p v).1
  | 0, p, _ => Nat.le_refl _
  | f + 1, p, v => by
    unfold dgR
    split
    · exact Nat.le_trans (Nat.le_succ p) (dgR_ge tx f (p + 1) _)
    · exact Nat.le_refl _
theorem dgR_le {tx : Nat → Int32} {T : Nat} (h : ∀ j, T ≤ j → dgB (tx j) = false) : ∀ f p v, p ≤ T → (dgR tx f p v).1 ≤ T
  | 0, p, _, hp => hp
  | f + 1, p, v, hp => by
    unfold dgR
    split
    · rename_i hs
      refine dgR_le h f (p + 1) _ ?_
      rcases Nat.lt_or_ge p T with q | q
      · exact q
      · rw [h p q] at hs; cases hs
    · exact hp
/-- whether the text is a rule; where it is wrong; its event, years, action -/
def rd (tx : Nat → Int32) (T : Nat) : Bool × Nat × Nat × Int32 × Nat :=
  if evK tx 0 (wE tx 41 0) = 4 then (false, 0, 0, 0, 0)
  else if ¬ tx (wE tx 41 0) = 32 then (false, wE tx 41 0, 0, 0, 0)
  else if (dgR tx 3 (wE tx 41 0 + 1) 0).1 = wE tx 41 0 + 1 then (false, wE tx 41 0 + 1, 0, 0, 0)
  else if ¬ tx (dgR tx 3 (wE tx 41 0 + 1) 0).1 = 32 then (false, (dgR tx 3 (wE tx 41 0 + 1) 0).1, 0, 0, 0)
  else if acK tx ((dgR tx 3 (wE tx 41 0 + 1) 0).1 + 1) (wE tx 41 ((dgR tx 3 (wE tx 41 0 + 1) 0).1 + 1)) = 2 then (false, (dgR tx 3 (wE tx 41 0 + 1) 0).1 + 1, 0, 0, 0)
  else if ¬ wE tx 41 ((dgR tx 3 (wE tx 41 0 + 1) 0).1 + 1) = T then (false, wE tx 41 ((dgR tx 3 (wE tx 41 0 + 1) 0).1 + 1), 0, 0, 0)
  else (true, T, evK tx 0 (wE tx 41 0), (dgR tx 3 (wE tx 41 0 + 1) 0).2, acK tx ((dgR tx 3 (wE tx 41 0 + 1) 0).1 + 1) (wE tx 41 ((dgR tx 3 (wE tx 41 0 + 1) 0).1 + 1)))
/-- nothing but the reader's own notes has changed -/
def TS (μ μ2 : Mu) : Prop := ∀ k j, (k ≠ 1 ∨ j < 2 ∨ 5 < j) → μ2 k j = μ k j
theorem TS.refl (μ : Mu) : TS μ μ := fun _ _ _ => rfl
theorem TS.trans {a b c : Mu} (h1 : TS a b) (h2 : TS b c) : TS a c := fun k j h => (h2 k j h).trans (h1 k j h)
theorem TS.up {μ μ2 : Mu} (h : TS μ μ2) {j : Nat} {x : Int32} (h1 : 2 ≤ j) (h2 : j ≤ 5) : TS μ (m_up μ2 1 j x) := fun k i hk => (m_up_ne (by omega)).trans (h k i hk)
theorem TS.tl {μ μ2 : Mu} (h : TS μ μ2) : tlN μ2 = tlN μ := by
  unfold tlN
  rw [h 1 1 (by decide)]
theorem TS.sg {μ μ2 : Mu} (h : TS μ μ2) : sgA μ2 = sgA μ := by
  funext j
  unfold sgA
  rw [h.tl, h 2 j (Or.inl (by decide))]
theorem TS.t1 {μ μ2 : Mu} (h : TS μ μ2) : μ2 1 1 = μ 1 1 := h 1 1 (by decide)
theorem sgA_out {μ : Mu} {j : Nat} (h : tlN μ ≤ j) : sgA μ j = -1 := if_neg (by omega)
theorem sgA_sm {μ : Mu} {j : Nat} (h : tlN μ ≤ j) : smB (sgA μ j) = false := by rw [sgA_out h]; decide
theorem sgA_dg {μ : Mu} {j : Nat} (h : tlN μ ≤ j) : dgB (sgA μ j) = false := by rw [sgA_out h]; decide
theorem wE_tl (μ : Mu) (f p : Nat) (h : p ≤ tlN μ) : wE (sgA μ) f p ≤ tlN μ := wE_le (fun _ => sgA_sm) f p h
theorem dg_tl (μ : Mu) (f p : Nat) (v : Int32) (h : p ≤ tlN μ) : (dgR (sgA μ) f p v).1 ≤ tlN μ := dgR_le (fun _ => sgA_dg) f p v h
