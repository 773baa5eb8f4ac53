section AWstr
variable {G : GTy} {R : Room} {nL cells slots : Nat} {ad : Nat → Nat} {N : Nat} {β : Nat → Nat → Bool} {pc : Nat} {lv lv2 : List (Nat × Value)} {st : List Value} {μ : Mu} {cc : ByteArray} {own : String} {Ts : List Cond}
theorem m_cv_SB {ad sa : Nat → Nat} (h : ∀ i, ad (SB + i) = sa i) (i : Nat) : m_cv ad (.ref (SB + i)) = .ref (sa i) := congrArg Value.ref (h i)
/-- the constants of a body's state -/
def gS (G : GTy) : Prop := m_S G.2.2.2.2.2.2.2.2.2.2.2.2.1 G.2.2.2.2.2.2.2.2.2.2.2.2.2 G.2.2.2.1
theorem Cx.gS {cc : ByteArray} (X : Cx G nL cc own Ts) : gS G := by
  obtain ⟨p, l, e, s, m, args, below, meth, c, Q, D, cA, sa, A⟩ := G
  exact X.2.2.2.2.2.2.1
theorem AW.ldcS (X : Cx G nL cc own Ts) {tx : String} {index i : Nat} (hZ : vk_R own index tx (G.2.2.2.2.2.2.2.2.2.2.2.2.1 i) G.2.2.2.1) (hd : decode cc pc = .ok (.ldc index, 2)) (kk : AW G R nL (cells, slots, ad, N, β) (pc + 2) lv (.ref (SB + i) :: st) μ) : AW G R nL (cells, slots, ad, N, β) pc lv st μ := by
  obtain ⟨p, l, e, s, m, args, below, meth, c, Q, D, cA, sa, A⟩ := G
  obtain ⟨hx, hb, hml, hown, hts, hK, hSt, hlk⟩ := X
  refine fun H locs L hM hA hS hL => va_ldcS hx hb hown hZ hd ?_
  have h := kk H locs L hM hA hS hL
  rw [List.map_cons, m_cv_SB hA.2] at h
  exact h
theorem AW.sval (X : Cx G nL cc own Ts) {index i : Nat} (hi : i < 6) (hlink : Cond.fieldLink own index "java/lang/String" "value" "[B" ∈ Ts) (hd : decode cc pc = .ok (.getfield index, 3)) (kk : AW G R nL (cells, slots, ad, N, β) (pc + 3) lv (.ref (SB + (100 + i)) :: st) μ) : AW G R nL (cells, slots, ad, N, β) pc lv (.ref (SB + i) :: st) μ := by
  obtain ⟨p, l, e, s, m, args, below, meth, c, Q, D, cA, sa, A⟩ := G
  obtain ⟨hx, hb, hml, hown, hts, hK, hSt, hlk⟩ := X
  intro H locs L hM hA hS hL
  rw [List.map_cons, m_cv_SB hA.2]
  refine vk_getf hx hb (hSt.1.1 i hi).2.2.1 hS hown (hts _ hlink) (fun _ h => h) hd ?_
  have h := kk H locs L hM hA hS hL
  rw [List.map_cons, m_cv_SB hA.2] at h
  exact h
theorem AW.scod (X : Cx G nL cc own Ts) {index i : Nat} (hi : i < 6) (hlink : Cond.fieldLink own index "java/lang/String" "coder" "B" ∈ Ts) (hd : decode cc pc = .ok (.getfield index, 3)) (kk : AW G R nL (cells, slots, ad, N, β) (pc + 3) lv (.int 0 :: st) μ) : AW G R nL (cells, slots, ad, N, β) pc lv (.ref (SB + i) :: st) μ := by
  obtain ⟨p, l, e, s, m, args, below, meth, c, Q, D, cA, sa, A⟩ := G
  obtain ⟨hx, hb, hml, hown, hts, hK, hSt, hlk⟩ := X
  intro H locs L hM hA hS hL
  rw [List.map_cons, m_cv_SB hA.2]
  exact vk_getf hx hb (hSt.1.1 i hi).2.1 hS hown (hts _ hlink) (fun _ h => h) hd (kk H locs L hM hA hS hL)
theorem AW.slen (X : Cx G nL cc own Ts) {i : Nat} (hi : i < 6) (hd : decode cc pc = .ok (.arraylength, 1)) (kk : AW G R nL (cells, slots, ad, N, β) (pc + 1) lv (.int (nI (m_len.getD i 0)) :: st) μ) : AW G R nL (cells, slots, ad, N, β) pc lv (.ref (SB + (100 + i)) :: st) μ := by
  obtain ⟨p, l, e, s, m, args, below, meth, c, Q, D, cA, sa, A⟩ := G
  obtain ⟨hx, hb, hml, hown, hts, hK, hSt, hlk⟩ := X
  intro H locs L hM hA hS hL
  rw [List.map_cons, m_cv_SB hA.2]
  exact va_tlen hx hb (hSt.1.1 i hi).2.2.2 hS rfl hd (kk H locs L hM hA hS hL)
theorem AW.sbal (X : Cx G nL cc own Ts) {i k : Nat} (hi : i < 6) (hk : k < m_len.getD i 0) (hd : decode cc pc = .ok (.baload, 1)) (kk : AW G R nL (cells, slots, ad, N, β) (pc + 1) lv (.int ((m_byt.getD i []).getD k 0) :: st) μ) : AW G R nL (cells, slots, ad, N, β) pc lv (.int (nI k) :: .ref (SB + (100 + i)) :: st) μ := by
  obtain ⟨p, l, e, s, m, args, below, meth, c, Q, D, cA, sa, A⟩ := G
  obtain ⟨hx, hb, hml, hown, hts, hK, hSt, hlk⟩ := X
  intro H locs L hM hA hS hL
  have hl : m_len.getD i 0 < 100 := by
    have h : ∀ j, j < 6 → m_len.getD j 0 < 100 := by decide
    exact h i hi
  rw [List.map_cons, List.map_cons, m_cv_SB hA.2]
  exact va_tb hx hb (hSt.1.1 i hi).2.2.2 hS (vp_in_nI hk (by omega)) (by rw [nI_clamp (by omega)] <;> rfl) hd (kk H locs L hM hA hS hL)
theorem AW.getC (X : Cx G nL cc own Ts) {index : Nat} (hlink : Cond.fieldLink own index "java/lang/String" "COMPACT_STRINGS" "Z" ∈ Ts) (hd : decode cc pc = .ok (.getstatic index, 3)) (kk : AW G R nL (cells, slots, ad, N, β) (pc + 3) lv (.int 1 :: st) μ) : AW G R nL (cells, slots, ad, N, β) pc lv st μ := by
  obtain ⟨p, l, e, s, m, args, below, meth, c, Q, D, cA, sa, A⟩ := G
  obtain ⟨hx, hb, hml, hown, hts, hK, hSt, hlk⟩ := X
  exact fun H locs L hM hA hS hL => va_gets hx hb hSt.2.2.1 hS hown (hts _ hlink) (fun _ h => h) hd (kk H locs L hM hA hS hL)
theorem AW.getF (X : Cx G nL cc own Ts) {index : Nat} (hlink : Cond.fieldLink own index "jdk/internal/util/Preconditions" "SIOOBE_FORMATTER" "Ljava/util/function/BiFunction;" ∈ Ts) (hd : decode cc pc = .ok (.getstatic index, 3)) (kk : ∀ v : Value, v = .null ∨ v = .ref (SB + 60) → AW G R nL (cells, slots, ad, N, β) (pc + 3) lv (v :: st) μ) : AW G R nL (cells, slots, ad, N, β) pc lv st μ := by
  obtain ⟨p, l, e, s, m, args, below, meth, c, Q, D, cA, sa, A⟩ := G
  obtain ⟨hx, hb, hml, hown, hts, hK, hSt, hlk⟩ := X
  intro H locs L hM hA hS hL
  rcases hSt.2.2.2.2.2.2.2.1 with h | h
  · exact va_gets hx hb h hS hown (hts _ hlink) (fun _ h => h) hd (kk .null (Or.inl rfl) H locs L hM hA hS hL)
  · refine va_gets hx hb h hS hown (hts _ hlink) (fun _ h => h) hd ?_
    have q := kk (.ref (SB + 60)) (Or.inr rfl) H locs L hM hA hS hL
    rw [List.map_cons, m_cv_SB hA.2] at q
    exact q
theorem AW.callT (X : Cx G nL cc own Ts) {y : MethodName} {ws ws' : List Cond} {bytes : ByteArray} {maxL d index nA b : Nat} {ret : Option FieldType} (As rest : List Value) {Qr : Option Value → Mu → Prop} (hC : CT (kOf G ad N) y ws d (.ref (SB + b) :: As) μ Qr) (hT : GoodIn Ts (wsV own index "java/lang/String" y ws)) (hw : ws = Cond.code y bytes maxL ret :: ws') (hdd : y.cls = "java/lang/String" ∧ y.cls ≠ "java/lang/invoke/MethodHandle" ∧ y.cls ≠ "java/lang/invoke/VarHandle" ∧ (parseMethodDescriptor y.desc).map (fun d => d.parameters.length) = some nA) (hnA : As.length = nA) (hb6 : b < 6) (hR : (rmD d).frames + 1 ≤ R.frames ∧ 8 + (maxL + 11) + (rmD d).locals ≤ R.locals) (hf : cells ≤ R.cells ∧ slots ≤ R.slots) (hrm : (rest.map fun v => v.category).sum ≤ 8) (hd : decode cc pc = .ok (.invokevirtual index, 3)) (hst : st = As.reverse ++ .ref (SB + b) :: rest) (kk : ∀ (v : Option Value) (μ2 : Mu), Qr v μ2 → AW G R nL (cells, slots, ad, N, fb) (pc + 3) lv (v.toList ++ rest) μ2) : AW G R nL (cells, slots, ad, N, fb) pc lv st μ := by
  obtain ⟨p, l, e, s, m, args, below, meth, c, Q, D, cA, sa, A⟩ := G
  obtain ⟨hx, hb, hml, hown, hts, hK, hSt, hlk⟩ := X
  subst hst
  intro H locs L hM hA hS hL
  have hrecv : ∃ cell : Cell, H[ad (SB + b)]? = some cell ∧ cell.vm.isStatics = false ∧ s.vm.findClass "java/lang/String" = some cell.cls := by
    rw [hA.2]
    exact vk_recv hSt.1 hb6 hS
  have hrun := va_runV (C := "java/lang/String") (b := ad (SB + b)) (p := p) (e := e) (R := R) (below := below) (meth := meth) (locs := locs) (cells := cells) (slots := slots) (As := As.map (m_cv ad)) (rest := rest.map (m_cv ad)) (g := F0 m pc L ((As.reverse ++ .ref (SB + b) :: rest).map (m_cv ad))) ⟨hx, hb, hml, hown, hts⟩ hC (cwV nA hts hT hw rfl rfl hdd hR) ⟨CTp.blind _ _ _, hrecv, CTp.pre (.ref (SB + b) :: As) hM hK hSt hA hS⟩ rfl (by rw [List.length_map]; exact hnA) hL.1 (by rw [List.map_append, List.map_reverse] <;> rfl) (lv_room (by rw [m_cats]; exact hrm)) hd hf
  intro T hT X
  obtain ⟨v, st₀, t, T', Lx, h0, X', hLx, e1, e2, ⟨⟨v2, μ2, hv, hq, hm⟩, hz, hk⟩, st⟩ := hrun T hT X
  cases hv
  rw [h0] at hz hk
  rw [m_rest] at st
  have hm' : Mem D cA ad N fb μ2 T'.heap := by rw [e1]; exact hm
  have hS' : va_S A s.heap T'.heap (locs ++ Lx) := ⟨Nat.le_trans hS.1 (by rw [e1]; exact hz), fun q h1 h2 => by rw [e1, hk q (Nat.lt_of_lt_of_le h1 hS.1) h2]; exact hS.2.1 q h1 h2, fun q hq => by
      rcases List.mem_append.mp hq with h | h
      · exact hS.2.2 q h
      · exact hLx q h⟩
  obtain ⟨t2, a1, b1⟩ := kk v2 μ2 hq T'.heap (locs ++ Lx) L hm' hA hS' hL T' rfl X'
  exact ⟨t2, st t2 a1, b1⟩
theorem AW.callS2 (X : Cx G nL cc own Ts) {y : MethodName} {ws ws' : List Cond} {bytes : ByteArray} {maxL d index nA : Nat} {ret : Option FieldType} (As rest : List Value) {Qr : Option Value → Mu → Prop} (hC : CT (kOf G ad N) y ws d As μ Qr) (hT : GoodIn Ts (va_wsS own index y ws)) (hw : ws = Cond.code y bytes maxL ret :: ws') (hdd : y.cls ≠ "java/lang/invoke/MethodHandle" ∧ y.cls ≠ "java/lang/invoke/VarHandle" ∧ (parseMethodDescriptor y.desc).map (fun d => d.parameters.length) = some nA) (hnA : As.length = nA) (hR : (rmD d).frames + 1 ≤ R.frames ∧ 8 + (maxL + 11) + (rmD d).locals ≤ R.locals) (hf : cells ≤ R.cells ∧ slots ≤ R.slots) (hrm : (rest.map fun v => v.category).sum ≤ 8) (hd : decode cc pc = .ok (.invokestatic index, 3)) (hst : st = As.reverse ++ rest) (kk : ∀ (v : Option Value) (μ2 : Mu), Qr v μ2 → AW G R nL (cells, slots, ad, N, fb) (pc + 3) lv (v.toList ++ rest) μ2) : AW G R nL (cells, slots, ad, N, fb) pc lv st μ := by
  obtain ⟨p, l, e, s, m, args, below, meth, c, Q, D, cA, sa, A⟩ := G
  obtain ⟨hx, hb, hml, hown, hts, hK, hSt, hlk⟩ := X
  subst hst
  intro H locs L hM hA hS hL
  have hrun := va_runS (p := p) (e := e) (R := R) (below := below) (meth := meth) (locs := locs) (cells := cells) (slots := slots) (As := As.map (m_cv ad)) (rest := rest.map (m_cv ad)) (g := F0 m pc L ((As.reverse ++ rest).map (m_cv ad))) ⟨hx, hb, hml, hown, hts⟩ hC (va_cwS nA hts hT hw rfl rfl hdd hR) ⟨CTp.blind _ _ _, CTp.pre As hM hK hSt hA hS⟩ rfl (by rw [List.length_map]; exact hnA) hL.1 (by rw [List.map_append, List.map_reverse] <;> rfl) (lv_room (by rw [m_cats]; exact hrm)) hd hf
  intro T hT X
  obtain ⟨v, st₀, t, T', Lx, h0, X', hLx, e1, e2, ⟨⟨v2, μ2, hv, hq, hm⟩, hz, hk⟩, st⟩ := hrun T hT X
  cases hv
  rw [h0] at hz hk
  rw [m_rest] at st
  have hm' : Mem D cA ad N fb μ2 T'.heap := by rw [e1]; exact hm
  have hS' : va_S A s.heap T'.heap (locs ++ Lx) := ⟨Nat.le_trans hS.1 (by rw [e1]; exact hz), fun q h1 h2 => by rw [e1, hk q (Nat.lt_of_lt_of_le h1 hS.1) h2]; exact hS.2.1 q h1 h2, fun q hq => by
      rcases List.mem_append.mp hq with h | h
      · exact hS.2.2 q h
      · exact hLx q h⟩
  obtain ⟨t2, a1, b1⟩ := kk v2 μ2 hq T'.heap (locs ++ Lx) L hm' hA hS' hL T' rfl X'
  exact ⟨t2, st t2 a1, b1⟩
end AWstr
theorem gv_S2 {k2 : Cond} {own : String} {index : Nat} {y : MethodName} (h1 : Cond.methodLink own index y ∈ GT) (h2 : Cond.static y ∈ GT) (h4 : Cond.initialized y.cls ∈ GT) (h5 : k2 ∈ GT) : GoodIn GT (va_wsS own index y (k2 :: GT)) := by
  intro w hw
  have : w ∈ GT := by
    simp only [va_wsS, List.cons_append, List.nil_append, List.mem_cons] at hw
    rcases hw with rfl | rfl | rfl | rfl | hw
    · exact h1
    · exact h2
    · exact h4
    · exact h5
    · exact hw
  exact ⟨this, gt_good this⟩
theorem gv_T {k2 : Cond} {own C : String} {index : Nat} {y : MethodName} (h1 : Cond.methodLink own index y ∈ GT) (h2 : Cond.instanceMethod y ∈ GT) (h3 : Cond.selects C y y ∈ GT) (h4 : Cond.initialized C ∈ GT) (h5 : k2 ∈ GT) : GoodIn GT (wsV own index C y (k2 :: GT)) := gv_V h1 h2 h3 h4 h5
/-- the char k of the constant i -/
def chS (i k : Nat) : Int32 := (m_byt.getD i []).getD k 0 &&& 255
def lnS (i : Nat) : Nat := m_len.getD i 0
theorem lnS_lt {i : Nat} (h : i < 6) : lnS i < 10 := by
  have q : ∀ j, j < 6 → lnS j < 10 := by decide
  exact q i h
theorem chS_nar {i k : Nat} : ((chS i k).toUInt32 % 65536).toInt32 = chS i k := sc_c2 _
theorem shr0 {n : Nat} (h : n < 2 ^ 31) : nI n >>> ((0 : Int32) &&& 31) = nI n := sc_shr0 h
