/-! the reference's bytes beside the class's signs; words as numbers of base 27 -/
def tbA (σ : Mu) (j : Nat) : Int32 := if j < tlN σ then (σ 2 j).toInt8.toInt32 else -1
/-- every sign is one of 256 -/
def BR (σ : Mu) : Prop := ∀ j, j < tlN σ → ∃ c, c < 256 ∧ σ 2 j = nI c
theorem sg_all : ∀ c, c < 256 → (smB (nI c).toInt8.toInt32 = smB (nI c) ∧ dgB (nI c).toInt8.toInt32 = dgB (nI c) ∧ ((nI c).toInt8.toInt32 = 32 ↔ nI c = 32) ∧ (smB (nI c) = true → (nI c).toInt8.toInt32 = nI c) ∧ (dgB (nI c) = true → (nI c).toInt8.toInt32 = nI c)) := by decide +kernel
theorem tb_all {σ : Mu} (hB : BR σ) (j : Nat) : smB (tbA σ j) = smB (sgA σ j) ∧ dgB (tbA σ j) = dgB (sgA σ j) ∧ (tbA σ j = 32 ↔ sgA σ j = 32) ∧ (smB (sgA σ j) = true → tbA σ j = sgA σ j) ∧ (dgB (sgA σ j) = true → tbA σ j = sgA σ j) := by
  unfold tbA sgA
  by_cases h : j < tlN σ
  · rw [if_pos h, if_pos h]
    obtain ⟨c, hc, e⟩ := hB j h
    rw [e]
    exact sg_all c hc
  · rw [if_neg h, if_neg h]
    exact ⟨rfl, rfl, Iff.rfl, fun _ => rfl, fun _ => rfl⟩
theorem wE_tb {σ : Mu} (hB : BR σ) : ∀ f p, wE (tbA σ) f p = wE (sgA σ) f p
  | 0, p => rfl
  | f + 1, p => by
    unfold wE
    rw [(tb_all hB p).1, wE_tb hB f (p + 1)]
theorem dgR_tb {σ : Mu} (hB : BR σ) : ∀ f p v, dgR (tbA σ) f p v = dgR (sgA σ) f p v
  | 0, p, v => rfl
  | f + 1, p, v => by
    unfold dgR
    rw [(tb_all hB p).2.1]
    by_cases h : dgB (sgA σ p) = true
    · rw [if_pos h, if_pos h, (tb_all hB p).2.2.2.2 h, dgR_tb hB f (p + 1)]
    · rw [if_neg h, if_neg h]
theorem wE_small {tx : Nat → Int32} : ∀ f p k, p + k < wE tx f p → smB (tx (p + k)) = true
  | 0, p, k, h => by unfold wE at h; omega
  | f + 1, p, k, h => by
    unfold wE at h
    by_cases hs : smB (tx p) = true
    · rw [if_pos hs] at h
      cases k with
      | zero => exact hs
      | succ k =>
        have := wE_small (tx := tx) f (p + 1) k (by omega)
        rw [show p + (k + 1) = p + 1 + k by omega]
        exact this
    · rw [if_neg hs] at h; omega
/-- a small letter's number -/
def ltr (c : Int32) : Nat := c.toNatClampNeg - 96
theorem sm_of {c : Int32} (h : smB c = true) : ∃ n, 97 ≤ n ∧ n ≤ 122 ∧ c = nI n := by
  simp only [smB, Bool.and_eq_true, decide_eq_true_eq] at h
  have h1 : ¬ c < 0 := fun q => h.1 (Int32.lt_trans q (by decide))
  obtain ⟨n, hn, rfl⟩ := nI_of h1
  rw [i_lt (nI_toInt hn) (show (97 : Int32).toInt = 97 by decide), i_lt (show (122 : Int32).toInt = 122 by decide) (nI_toInt hn)] at h
  exact ⟨n, by omega, by omega, rfl⟩
def Hd (d : Nat → Nat) : Nat → Nat
  | 0 => 0
  | k + 1 => Hd d k * 27 + d k
theorem Hd_inj {a b : Nat → Nat} : ∀ (L M : Nat), (∀ k, k < L → 1 ≤ a k ∧ a k ≤ 26) → (∀ k, k < M → 1 ≤ b k ∧ b k ≤ 26) → Hd a L = Hd b M → L = M ∧ ∀ k, k < L → a k = b k
  | 0, 0, _, _, _ => ⟨rfl, fun k hk => absurd hk (Nat.not_lt_zero _)⟩
  | 0, M + 1, _, hb, h => by
    have := hb M (Nat.lt_succ_self _)
    simp only [Hd] at h
    omega
  | L + 1, 0, ha, _, h => by
    have := ha L (Nat.lt_succ_self _)
    simp only [Hd] at h
    omega
  | L + 1, M + 1, ha, hb, h => by
    have h1 := ha L (Nat.lt_succ_self _)
    have h2 := hb M (Nat.lt_succ_self _)
    simp only [Hd] at h
    obtain ⟨e, q⟩ := Hd_inj L M (fun k hk => ha k (Nat.lt_succ_of_lt hk)) (fun k hk => hb k (Nat.lt_succ_of_lt hk)) (by omega)
    subst e
    refine ⟨rfl, fun k hk => ?_⟩
    rcases Nat.lt_succ_iff_lt_or_eq.mp hk with h3 | rfl
    · exact q k h3
    · omega
theorem Hd_lt {d : Nat → Nat} : ∀ k, (∀ j, j < k → d j ≤ 26) → Hd d k < 27 ^ k
  | 0, _ => Nat.one_pos
  | k + 1, h => by
    have h1 := Hd_lt k (fun j hj => h j (Nat.lt_succ_of_lt hj))
    have h2 := h k (Nat.lt_succ_self _)
    simp only [Hd, Nat.pow_succ]
    omega
theorem Hd_congr {a b : Nat → Nat} : ∀ k, (∀ j, j < k → a j = b j) → Hd a k = Hd b k
  | 0, _ => rfl
  | k + 1, h => by
    simp only [Hd]
    rw [Hd_congr k (fun j hj => h j (Nat.lt_succ_of_lt hj)), h k (Nat.lt_succ_self _)]
/-- k letters from p on, as the reference's word() keeps them -/
def hN (tx : Nat → Int32) (p : Nat) (k : Nat) : Nat := Hd (fun j => ltr (tx (p + j))) k
def hv (tx : Nat → Int32) (p k : Nat) : Int64 := if k ≤ 9 then lN (hN tx p k) else -1
def nv (k : Nat) : Int32 := nI (if k ≤ 9 then k else 9)
theorem lN_ge0 {h : Nat} (q : h < 2 ^ 62) : ¬ lN h < 0 := by
  rw [Int64.lt_iff_toInt_lt]
  have e : (lN h).toInt = (h : Int) := Int64.toInt_ofNat_of_lt (by omega)
  rw [e, show (0 : Int64).toInt = 0 by decide]
  omega
theorem lN_inj {a b : Nat} (ha : a < 2 ^ 62) (hb : b < 2 ^ 62) (h : lN a = lN b) : a = b := by
  have e1 : (lN a).toInt = (a : Int) := Int64.toInt_ofNat_of_lt (by omega)
  have e2 : (lN b).toInt = (b : Int) := Int64.toInt_ofNat_of_lt (by omega)
  rw [h, e2] at e1
  omega
theorem lg_eq (x y : Int64) : lg_cmp x y = 0 ↔ x = y := by
  unfold lg_cmp
  split
  · rename_i h
    constructor
    · intro q; cases q
    · intro q; subst q; exact absurd h (Int64.lt_irrefl)
  · split
    · rename_i h; simp_all
    · rename_i h1 h2; simp_all
theorem lg_ge {x y : Int64} (h : ¬ x < y) : 0 ≤ lg_cmp x y := by
  unfold lg_cmp
  split
  · decide
  · split
    · decide
    · rename_i h1 h2
      exfalso
      rw [Int64.lt_iff_toInt_lt] at h
      have h3 : ¬ y.toInt < x.toInt := fun q => h1 (Int64.lt_iff_toInt_lt.mpr q)
      exact h2 (Int64.toInt_inj.mp (by omega))
def cI (i : Nat) : Nat := Hd (fun k => ltr (chS i k)) (lnS i)
theorem c_all : ∀ i, i < 6 → (lnS i ≤ 9 ∧ ∀ k, k < lnS i → smB (chS i k) = true) := by decide +kernel
theorem ltr_of {c : Int32} (h : smB c = true) : 1 ≤ ltr c ∧ ltr c ≤ 26 := by
  obtain ⟨n, h1, h2, rfl⟩ := sm_of h
  unfold ltr
  rw [nI_clamp (by omega)]
  omega
theorem ltr_inj {a b : Int32} (ha : smB a = true) (hb : smB b = true) (h : ltr a = ltr b) : a = b := by
  obtain ⟨n, h1, h2, rfl⟩ := sm_of ha
  obtain ⟨m, h3, h4, rfl⟩ := sm_of hb
  unfold ltr at h
  rw [nI_clamp (by omega), nI_clamp (by omega)] at h
  rw [show n = m by omega]
theorem hN_lt {tx : Nat → Int32} {p L : Nat} (hs : ∀ k, k < L → smB (tx (p + k)) = true) (h9 : L ≤ 9) : hN tx p L < 2 ^ 62 := by
  have h1 := Hd_lt (d := fun j => ltr (tx (p + j))) L (fun j hj => (ltr_of (hs j hj)).2)
  have h2 : 27 ^ L ≤ 27 ^ 9 := Nat.pow_le_pow_right (by decide) h9
  have h3 : 27 ^ 9 < 2 ^ 62 := by decide
  unfold hN
  omega
theorem cI_lt {i : Nat} (h : i < 6) : cI i < 2 ^ 62 := by
  have q : ∀ j, j < 6 → cI j < 2 ^ 62 := by decide +kernel
  exact q i h
/-- the letters are the constant i just when their number is its number -/
theorem hv_eq {tx : Nat → Int32} {p e i : Nat} (hi : i < 6) (hpe : p ≤ e) (hs : ∀ k, p + k < e → smB (tx (p + k)) = true) : hv tx p (e - p) = lN (cI i) ↔ wM tx p e i = true := by
  obtain ⟨c9, cs⟩ := c_all i hi
  have hs2 : ∀ k, k < e - p → smB (tx (p + k)) = true := fun k hk => hs k (by omega)
  unfold hv wM
  by_cases h9 : e - p ≤ 9
  · rw [if_pos h9]
    constructor
    · intro h
      have h1 := lN_inj (hN_lt hs2 h9) (cI_lt hi) h
      obtain ⟨h2, h3⟩ := Hd_inj (e - p) (lnS i) (fun k hk => ltr_of (hs2 k hk)) (fun k hk => ltr_of (cs k hk)) h1
      rw [decide_eq_true (show e = p + lnS i by omega), anyB_f (fun k hk => by rw [decide_eq_true (ltr_inj (hs2 k (by omega)) (cs k hk) (h3 k (by omega)))]; rfl)]
      rfl
    · intro h
      simp only [Bool.and_eq_true, decide_eq_true_eq, Bool.not_eq_true'] at h
      obtain ⟨h1, h2⟩ := h
      have h3 : e - p = lnS i := by omega
      have h4 : ∀ k, k < lnS i → tx (p + k) = chS i k := by
        intro k hk
        refine Decidable.by_contra (fun q => ?_)
        rw [anyB_t hk (by rw [decide_eq_false q]; rfl)] at h2
        cases h2
      rw [h3]
      exact congrArg lN (Hd_congr _ (fun k hk => congrArg ltr (h4 k hk)))
  · rw [if_neg h9]
    constructor
    · intro h
      have q : ∀ j, j < 6 → ¬ (-1 : Int64) = lN (cI j) := by decide +kernel
      exact absurd h (q i hi)
    · intro h
      simp only [Bool.and_eq_true, decide_eq_true_eq] at h
      omega
def evJ (w : Int64) : Int32 := if w = lN (cI 0) then 0 else if w = lN (cI 1) then 1 else if w = lN (cI 2) then 2 else if w = lN (cI 3) then 3 else -1
def acJ (w : Int64) : Int32 := if w = lN (cI 4) then 0 else if w = lN (cI 5) then 1 else -1
theorem evJ_eq {tx : Nat → Int32} {p e : Nat} (hpe : p ≤ e) (hs : ∀ k, p + k < e → smB (tx (p + k)) = true) : evJ (hv tx p (e - p)) = if evK tx p e = 4 then -1 else nI (evK tx p e) := by
  unfold evJ evK
  simp only [hv_eq (show 0 < 6 by decide) hpe hs, hv_eq (show 1 < 6 by decide) hpe hs, hv_eq (show 2 < 6 by decide) hpe hs, hv_eq (show 3 < 6 by decide) hpe hs]
  cases wM tx p e 0 <;> cases wM tx p e 1 <;> cases wM tx p e 2 <;> cases wM tx p e 3 <;> rfl
theorem acJ_eq {tx : Nat → Int32} {p e : Nat} (hpe : p ≤ e) (hs : ∀ k, p + k < e → smB (tx (p + k)) = true) : acJ (hv tx p (e - p)) = if acK tx p e = 2 then -1 else nI (acK tx p e) := by
  unfold acJ acK
  simp only [hv_eq (show 4 < 6 by decide) hpe hs, hv_eq (show 5 < 6 by decide) hpe hs]
  cases wM tx p e 4 <;> cases wM tx p e 5 <;> rfl
theorem hN_tb {σ : Mu} (hB : BR σ) {p L : Nat} (hs : ∀ k, k < L → smB (sgA σ (p + k)) = true) : hN (tbA σ) p L = hN (sgA σ) p L := Hd_congr _ (fun k hk => congrArg ltr ((tb_all hB (p + k)).2.2.2.1 (hs k hk)))
/-- one letter more -/
theorem hv_step {tx : Nat → Int32} {p k : Nat} (hk : k < 9) (hc : smB (tx (p + k)) = true) : hv tx p k * 27 + (tx (p + k)).toInt64 - 97 + 1 = hv tx p (k + 1) := by
  obtain ⟨n, h1, h2, e⟩ := sm_of hc
  unfold hv
  rw [if_pos (by omega), if_pos (by omega)]
  show lN (hN tx p k) * lN 27 + (tx (p + k)).toInt64 - lN 97 + lN 1 = lN (hN tx p k * 27 + ltr (tx (p + k)))
  rw [e, nI_l (show n < 2 ^ 31 by omega), lN_mul, lN_add, lN_sub (by omega), lN_add]
  unfold ltr
  rw [nI_clamp (by omega)]
  congr 1
  omega
theorem MR.at {σ μ : Mu} {nr : Nat} (h : MR σ μ nr) (x : Int32) : MR σ (m_up μ 250 3 x) nr :=
  ⟨h.1.of (fun k h1 _ => m_up_row (by omega)) (m_up_ne (by omega)), h.2.of (fun k h1 _ => m_up_row (by omega)) ⟨m_up_ne (by omega), m_up_ne (by omega), m_up_ne (by omega)⟩⟩
theorem m_up_up (μ : Mu) (k j : Nat) (x y : Int32) : m_up (m_up μ k j x) k j y = m_up μ k j y := by
  funext a b
  unfold m_up
  split <;> rfl
/-- digits tell a small number -/
theorem dgR_val (tx : Nat → Int32) : ∀ (f p a : Nat), a < 1000 → (a + 1) * 10 ^ f ≤ 1000 → ∃ b, b < (a + 1) * 10 ^ f ∧ (dgR tx f p (nI a)).2 = nI b
  | 0, p, a, _, _ => ⟨a, by omega, rfl⟩
  | f + 1, p, a, ha, hf => by
    unfold dgR
    by_cases h : dgB (tx p) = true
    · rw [if_pos h]
      have hd : ∃ n, 48 ≤ n ∧ n ≤ 57 ∧ tx p = nI n := by
        simp only [dgB, Bool.and_eq_true, decide_eq_true_eq] at h
        have h1 : ¬ tx p < 0 := fun q => h.1 (Int32.lt_trans q (by decide))
        obtain ⟨n, hn, e⟩ := nI_of h1
        rw [e] at h ⊢
        rw [i_lt (nI_toInt hn) (show (48 : Int32).toInt = 48 by decide), i_lt (show (57 : Int32).toInt = 57 by decide) (nI_toInt hn)] at h
        exact ⟨n, by omega, by omega, rfl⟩
      obtain ⟨n, h1, h2, e⟩ := hd
      have e2 : nI a * 10 + tx p - 48 = nI (a * 10 + n - 48) := by
        rw [e]
        show nI a * nI 10 + nI n - nI 48 = _
        rw [pk_mul, nI_add, pk_sub (by omega)]
      rw [e2]
      have e10 : 10 ^ (f + 1) = 10 ^ f * 10 := Nat.pow_succ ..
      have hpos : 1 ≤ 10 ^ f := Nat.one_le_pow _ _ (by decide)
      have hb : (a * 10 + n - 48 + 1) * 10 ^ f ≤ (a + 1) * 10 ^ (f + 1) := by
        rw [e10, show (a + 1) * (10 ^ f * 10) = ((a + 1) * 10) * 10 ^ f by rw [Nat.mul_comm (10 ^ f) 10, Nat.mul_assoc]]
        exact Nat.mul_le_mul_right _ (by omega)
      have ha2 : a * 10 + n - 48 < 1000 := by
        have : (a * 10 + n - 48 + 1) * 1 ≤ (a * 10 + n - 48 + 1) * 10 ^ f := Nat.mul_le_mul_left _ hpos
        omega
      obtain ⟨b, hb1, hb2⟩ := dgR_val tx f (p + 1) (a * 10 + n - 48) ha2 (by omega)
      exact ⟨b, by omega, hb2⟩
    · rw [if_neg h]
      have hpos : 1 ≤ 10 ^ (f + 1) := Nat.one_le_pow _ _ (by decide)
      have : (a + 1) * 1 ≤ (a + 1) * 10 ^ (f + 1) := Nat.mul_le_mul_left _ hpos
      exact ⟨a, by omega, rfl⟩
theorem dg_val (tx : Nat → Int32) (p : Nat) : ∃ b, b ≤ 999 ∧ (dgR tx 3 p 0).2 = nI b := by
  obtain ⟨b, h1, h2⟩ := dgR_val tx 3 p 0 (by decide) (by decide)
  rw [nI_0] at h2
  exact ⟨b, by omega, h2⟩
theorem evK_le (tx : Nat → Int32) (p e : Nat) : evK tx p e ≤ 4 := by
  unfold evK
  repeat' split
  all_goals decide
theorem acK_le (tx : Nat → Int32) (p e : Nat) : acK tx p e ≤ 2 := by
  unfold acK
  repeat' split
  all_goals decide
/-- the reference's cells behind a rule that is read at all, and behind one that is taken -/
def rlN (μ : Mu) (q : Nat) : Mu := m_up μ 250 3 (nI q)
def rlW (μ : Mu) (q nr : Nat) (ek : Nat) (yr : Int32) (ac : Nat) : Mu := m_up (m_up (m_up (m_up (m_up μ 250 3 (nI q)) 252 nr (nI ek)) 256 (6 * nr) yr) 257 (6 * nr) (-1)) 253 nr (nI ac)
