theorem tb_i {w : Cond} (i : Nat) (h : lw_tbl[i]? = some w) : w ∈ lw_tbl := List.mem_of_getElem? h
theorem arr_known {s : State} {args : Array Value} {ty : FieldType} (h : (Cond.arrayClass ty).before args s = true) (hno : ∀ C, ty ≠ .object C) : ∃ cA : ClassId, ArrOfT s cA ty ∧ va_RA s cA ty := by
  obtain ⟨c, k, comp, h1, h2, h3⟩ := Cond.arrayClass_spec h
  refine ⟨c, fun n z => ⟨fun k h => (by cases h), k, h2, comp, h3⟩, ?_⟩
  cases ty with
  | object C => exact absurd rfl (hno C)
  | _ => exact h1
theorem arr_knownO {s : State} {C : String} (h : va_AO C s) : ∃ cA : ClassId, ArrOfT s cA (.object C) ∧ va_RA s cA (.object C) := by
  obtain ⟨comp, c, k, h1, h2, h3, h4, h5⟩ := Cond.arrayOver_spec h
  exact ⟨c, fun N z => ⟨fun k h => (by cases h), k, h3, comp, h4⟩, k, comp, h3, h4, h1, h5⟩
theorem start_K {s : State} {args : Array Value} (hts : ∀ w ∈ GT, w.before args s = true) (hR : va_AO R_R s) (hU : va_AO R_U s) : ∃ (D : va_G) (cA : Nat → ClassId), va_K D vwCl (m_tys cA) s := by
  obtain ⟨c0, i0, k0⟩ := u_known (C := R_L) (T := F_L) (N := 4) (n := 4) hts in_L (hts _ wb_L)
  obtain ⟨c1, i1, k1⟩ := u_known (C := R_R) (T := F_R) (N := 7) (n := 7) hts in_R (hts _ wb_R)
  obtain ⟨c2, i2, k2⟩ := u_known (C := R_T) (T := F_T) (N := 6) (n := 6) hts in_T (hts _ wb_T)
  obtain ⟨c3, i3, k3⟩ := u_known (C := R_U) (T := F_U) (N := 9) (n := 9) hts in_U (hts _ wb_U)
  obtain ⟨c4, i4, k4⟩ := u_known (C := R_C) (T := F_C) (N := 7) (n := 7) hts in_C (hts _ wb_C)
  obtain ⟨c5, i5, k5⟩ := u_known (C := R_M) (T := F_M) (N := 26) (n := 26) hts in_M (hts _ wb_M)
  obtain ⟨a0, A0⟩ := arr_known (hts _ wa_int) (fun C h => by cases h)
  obtain ⟨a1, A1⟩ := arr_known (hts _ wa_long) (fun C h => by cases h)
  obtain ⟨a2, A2⟩ := arr_knownO hR
  obtain ⟨a3, A3⟩ := arr_knownO hU
  obtain ⟨a4, A4⟩ := arr_known (hts _ wa_byte) (fun C h => by cases h)
  obtain ⟨a5, A5⟩ := arr_known (hts _ wa_boolean) (fun C h => by cases h)
  refine ⟨(fun k => if k = 0 then c0 else if k = 1 then c1 else if k = 2 then c2 else if k = 3 then c3 else if k = 4 then c4 else c5, fun k => if k = 0 then i0 else if k = 1 then i1 else if k = 2 then i2 else if k = 3 then i3 else if k = 4 then i4 else i5), fun t => if t = 0 then a0 else if t = 1 then a1 else if t = 2 then a2 else if t = 3 then a3 else if t = 4 then a4 else a5, fun k q hq => ?_, fun k q hq => ?_⟩
  · match k, hq with
    | 0, hq => cases hq; exact k0
    | 1, hq => cases hq; exact k1
    | 2, hq => cases hq; exact k2
    | 3, hq => cases hq; exact k3
    | 4, hq => cases hq; exact k4
    | 5, hq => cases hq; exact k5
    | k + 6, hq => simp [vwCl] at hq
  · match k, hq with
    | 0, hq => rw [m_tys_at (ty := .int) rfl] at hq; cases hq; exact A0
    | 1, hq => rw [m_tys_at (ty := .long) rfl] at hq; cases hq; exact A1
    | 2, hq => rw [m_tys_at (ty := .object R_R) rfl] at hq; cases hq; exact A2
    | 3, hq => rw [m_tys_at (ty := .object R_U) rfl] at hq; cases hq; exact A3
    | 4, hq => rw [m_tys_at (ty := .byte) rfl] at hq; cases hq; exact A4
    | 5, hq => rw [m_tys_at (ty := .boolean) rfl] at hq; cases hq; exact A5
    | k + 6, hq => simp [m_tys, m_fts] at hq
def w_FL : List Cond := flatC (Jvm.Cond.and given_1 narrow_1)
def w_tm (i : Nat) : Term := .string R_T (([68, 70, 72, 74, 56, 58] : List Nat).getD i 0)
def w_va (i : Nat) : Term := .field (w_tm i) "java/lang/String" "value" "[B"
theorem w_1 : ∀ i, i < 6 → Cond.exactly (w_tm i) "java/lang/String" ∈ w_FL := by decide +kernel
theorem w_2 : ∀ i, i < 6 → Cond.eq (.field (w_tm i) "java/lang/String" "coder" "B") (.int 0) ∈ w_FL := by decide +kernel
theorem w_3 : ∀ i, i < 6 → Cond.arrayOf (w_va i) .byte ∈ w_FL := by decide +kernel
theorem w_4 : ∀ i, i < 6 → Cond.eq (.length (w_va i)) (.int (Int32.ofNat (m_len.getD i 0))) ∈ w_FL := by decide +kernel
theorem w_5 : ∀ i, i < 6 → ∀ j, j < m_len.getD i 0 → Cond.eq (.elem (w_va i) (.int (Int32.ofNat j))) (.int ((m_byt.getD i []).getD j 0)) ∈ w_FL := by decide +kernel
theorem w_6 : ∀ i, i < 6 → ∀ j, j < 6 → i ≠ j → Cond.not (Cond.eq (w_tm i) (w_tm j)) ∈ w_FL ∨ Cond.not (Cond.eq (w_tm j) (w_tm i)) ∈ w_FL := by decide +kernel
theorem w_c6 : Cond.exactly (.string R_C 144) "java/lang/String" ∈ w_FL := by decide +kernel
theorem w_c7 : Cond.exactly (.string R_C 194) "java/lang/String" ∈ w_FL := by decide +kernel
theorem w_cs : Cond.eq (.static "java/lang/String" "COMPACT_STRINGS" "Z") (.int 1) ∈ w_FL := by decide +kernel
theorem w_fo : Cond.isRef (.static "jdk/internal/util/Preconditions" "SIOOBE_FORMATTER" "Ljava/util/function/BiFunction;") ∈ w_FL := by decide +kernel
theorem w_t1 : Cond.isRef (.static "java/lang/Throwable" "UNASSIGNED_STACK" "[Ljava/lang/StackTraceElement;") ∈ w_FL := by decide +kernel
theorem w_t2 : Cond.isRef (.static "java/lang/Throwable" "SUPPRESSED_SENTINEL" "Ljava/util/List;") ∈ w_FL := by decide +kernel
theorem w_str {s : State} {args : Array Value} {t : Term} (h : (Cond.exactly t "java/lang/String").before args s = true) : ∃ a : Nat, t.eval args s none [] s = some (.ref a) := by
  obtain ⟨a, c, cA, kA, q1, -⟩ := Cond.exactly_spec (args := args) (first := s) (o := none) (s := s) (idx := []) (t := t) (cls := "java/lang/String") h
  exact ⟨a, q1⟩
theorem start_S {s : State} {b : Nat} (hts : ∀ w ∈ lw_tbl, w.before #[Value.ref b] s = true) (hgv : (Jvm.Cond.and given_1 narrow_1).before #[Value.ref b] s = true) : ∃ sa : Nat → Nat, m_S sa (fun q : Nat => s.heap.size ≤ q) s ∧ sa 50 = b := by
  have hs : ∀ w ∈ w_FL, w.before #[Value.ref b] s = true := flat_of_before _ hgv
  have hA : ∀ a : Nat, a < s.heap.size → ¬ (fun q : Nat => s.heap.size ≤ q) a := fun a h => Nat.not_le.mpr h
  obtain ⟨adK, adV, hK, hE⟩ := vk_Sof (args := #[Value.ref b]) (s := s) (A := fun q : Nat => s.heap.size ≤ q) (tm := w_tm) (len := m_len) (byt := m_byt) (N := 6) (fun i hi => by revert i hi; decide) (fun i hi => hs _ (w_1 i hi)) (fun i hi => hs _ (w_2 i hi)) (fun i hi => hs _ (w_3 i hi)) (fun i hi => hs _ (w_4 i hi)) (fun i hi j hj => hs _ (w_5 i hi j hj)) (fun i j hi hj hij => (w_6 i hi j hj hij).imp (hs _) (hs _)) hA
  obtain ⟨a6, h6⟩ := w_str (hs _ w_c6)
  obtain ⟨a7, h7⟩ := w_str (hs _ w_c7)
  have lF : (Cond.laysStatic "jdk/internal/util/Preconditions" "SIOOBE_FORMATTER" "Ljava/util/function/BiFunction;").before #[Value.ref b] s = true := hts _ (tb_i 227 (by decide +kernel))
  have l1 : (Cond.laysStatic "java/lang/Throwable" "UNASSIGNED_STACK" "[Ljava/lang/StackTraceElement;").before #[Value.ref b] s = true := hts _ (tb_i 574 (by decide +kernel))
  have l2 : (Cond.laysStatic "java/lang/Throwable" "SUPPRESSED_SENTINEL" "Ljava/util/List;").before #[Value.ref b] s = true := hts _ (tb_i 576 (by decide +kernel))
  have iT : (Cond.initialized "java/lang/Throwable").before #[Value.ref b] s = true := hts _ (tb_i 43 (by decide +kernel))
  have zF : va_Zq "jdk/internal/util/Preconditions" "SIOOBE_FORMATTER" "Ljava/util/function/BiFunction;" (fun q : Nat => s.heap.size ≤ q) s s.heap := va_Zqof lF (hts _ (tb_i 40 (by decide +kernel))) (hs _ w_fo) hA
  obtain ⟨t60, h60⟩ : ∃ t : Nat, va_Z "jdk/internal/util/Preconditions" "SIOOBE_FORMATTER" "Ljava/util/function/BiFunction;" .null (fun q : Nat => s.heap.size ≤ q) s s.heap ∨ va_Z "jdk/internal/util/Preconditions" "SIOOBE_FORMATTER" "Ljava/util/function/BiFunction;" (.ref t) (fun q : Nat => s.heap.size ≤ q) s s.heap := by
    rcases zF with h | ⟨t, h⟩
    · exact ⟨0, Or.inl h⟩
    · exact ⟨t, Or.inr h⟩
  obtain ⟨sa, e1, e2, e6, e7, e50, e60⟩ : ∃ sa : Nat → Nat, (∀ i, i < 6 → sa i = adK i) ∧ (∀ i, i < 6 → sa (100 + i) = adV i) ∧ sa 6 = a6 ∧ sa 7 = a7 ∧ sa 50 = b ∧ sa 60 = t60 := by
    refine ⟨fun i => if i < 6 then adK i else if i = 6 then a6 else if i = 7 then a7 else if i = 50 then b else if i = 60 then t60 else adV (i - 100), fun i hi => if_pos hi, fun i hi => ?_, rfl, rfl, rfl, rfl⟩
    show (if 100 + i < 6 then adK (100 + i) else if 100 + i = 6 then a6 else if 100 + i = 7 then a7 else if 100 + i = 50 then b else if 100 + i = 60 then t60 else adV (100 + i - 100)) = adV i
    rw [if_neg (by omega), if_neg (by omega), if_neg (by omega), if_neg (by omega), if_neg (by omega), Nat.add_sub_cancel_left]
  have hvk : vk_S 6 m_len m_byt sa (fun i => sa (100 + i)) (fun q : Nat => s.heap.size ≤ q) s s.heap := by
    refine ⟨fun i hi => ?_, fun i j hi hj e => hK.2 i j hi hj (by rw [← e1 i hi, ← e1 j hj]; exact e)⟩
    have q := hK.1 i hi
    rw [← e1 i hi, ← e2 i hi] at q
    exact q
  have r : ∀ i, i < 6 → (w_tm i).eval #[Value.ref b] s none [] s = some (.ref (sa i)) := fun i hi => by rw [e1 i hi]; exact hE i hi
  refine ⟨sa, ⟨hvk, ⟨vk_R.of (hts _ (tb_i 194 (by decide +kernel))) (r 0 (by decide)), vk_R.of (hts _ (tb_i 195 (by decide +kernel))) (r 1 (by decide)), vk_R.of (hts _ (tb_i 196 (by decide +kernel))) (r 2 (by decide)), vk_R.of (hts _ (tb_i 197 (by decide +kernel))) (r 3 (by decide)), vk_R.of (hts _ (tb_i 265 (by decide +kernel))) (r 4 (by decide)), vk_R.of (hts _ (tb_i 266 (by decide +kernel))) (r 5 (by decide))⟩, ?_, ?_, ?_, ?_, ?_, ?_, ⟨?_, ?_⟩, ⟨?_, ?_⟩, ?_, ?_⟩, e50⟩
  · exact va_Zof (hts _ (tb_i 211 (by decide +kernel))) (hts _ (tb_i 38 (by decide +kernel))) (va_eqt (hs _ w_cs)) hA
  · exact va_AO.of (hts _ (tb_i 82 (by decide +kernel)))
  · exact va_AO.of (hts _ (tb_i 84 (by decide +kernel)))
  · exact va_Nw.of rfl (hts _ (tb_i 57 (by decide +kernel)))
  · exact va_Nw.of rfl (hts _ (tb_i 121 (by decide +kernel)))
  · rw [e60]; exact h60
  · exact va_Zqof l1 iT (hs _ w_t1) hA
  · exact x_L.of l1 hA
  · exact va_Zqof l2 iT (hs _ w_t2) hA
  · exact x_L.of l2 hA
  · rw [e6]; exact vk_R.of (hts _ (tb_i 586 (by decide +kernel))) h6
  · rw [e7]; exact vk_R.of (hts _ (tb_i 623 (by decide +kernel))) h7
