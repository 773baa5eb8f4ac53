/-- a value that speaks of cells below N, or of those that nobody writes -/
def m_ok (N : Nat) (v : Value) : Prop := match v with
  | .ref k => k < N ∨ SB ≤ k
  | _ => True
theorem m_cv_ok {ad ad2 sa : Nat → Nat} {N : Nat} {v : Value} (h : m_ok N v) (h1 : ∀ k, k < N → ad2 k = ad k) (h2 : ∀ i, ad (SB + i) = sa i) (h3 : ∀ i, ad2 (SB + i) = sa i) : m_cv ad2 v = m_cv ad v := by
  cases v with
  | ref k =>
    show Value.ref (ad2 k) = Value.ref (ad k)
    rcases h with h | h
    · rw [h1 k h]
    · have e : k = SB + (k - SB) := (Nat.add_sub_cancel' h).symm
      rw [e, h2, h3]
  | _ => rfl
theorem m_map_ok {ad ad2 sa : Nat → Nat} {N : Nat} {st : List Value} (h : ∀ v ∈ st, m_ok N v) (h1 : ∀ k, k < N → ad2 k = ad k) (h2 : ∀ i, ad (SB + i) = sa i) (h3 : ∀ i, ad2 (SB + i) = sa i) : st.map (m_cv ad2) = st.map (m_cv ad) :=
  List.map_congr_left fun v hv => m_cv_ok (h v hv) h1 h2 h3
theorem m_lv_ok {ad ad2 sa : Nat → Nat} {N : Nat} {lv : List (Nat × Value)} (h : ∀ q ∈ lv, m_ok N q.2) (h1 : ∀ k, k < N → ad2 k = ad k) (h2 : ∀ i, ad (SB + i) = sa i) (h3 : ∀ i, ad2 (SB + i) = sa i) : m_lv ad2 lv = m_lv ad lv :=
  List.map_congr_left fun q hq => by rw [m_cv_ok (h q hq) h1 h2 h3]
theorem m_pic_ad {cA : Nat → ClassId} {ad ad2 : Nat → Nat} {β : Nat → Nat → Bool} {μ : Mu} {N k : Nat} (hw : m_wf N β μ) (hk : k < N) (h1 : ∀ k, k < N → ad2 k = ad k) : m_pic cA ad2 β μ k = m_pic cA ad β μ k := by
  cases hs : sh k with
  | inl ci =>
    rw [m_pic_obj hs, m_pic_obj hs]
    congr 2
    apply List.ext_getElem?
    intro j
    simp only [m_obj, List.getElem?_mapIdx]
    cases hf : (fk ci)[j]? with
    | none => rfl
    | some f =>
      cases f with
      | none => rfl
      | some o =>
        cases hb : β k j with
        | false => rfl
        | true =>
          show some (Value.ref (ad2 (k + o))) = some (Value.ref (ad (k + o)))
          rw [h1 _ (hw.2 k ci j o hk hs hf hb)]
  | inr q =>
    obtain ⟨t, n, kd⟩ := q
    rw [m_pic_arr hs, m_pic_arr hs]
    congr 3
    have hkd := sh_kd hs
    rcases (show kd = 0 ∨ kd = 1 ∨ kd = 2 by omega) with rfl | rfl | rfl
    · rfl
    · rfl
    · show Sum.inr (Sum.inr (Sum.inr (Sum.inr _))) = Sum.inr (Sum.inr (Sum.inr (Sum.inr _)))
      congr 4
      funext j
      unfold m_ov
      rcases hw.1 k t n hk hs j with h | h
      · rw [if_pos h, if_pos h]
      · rw [h1 _ h]
theorem m_ws_grow {cA : Nat → ClassId} {ad : Nat → Nat} {β : Nat → Nat → Bool} {μ : Mu} {N q : Nat} {x : va_E} (hw : m_wf N β μ) (hx : m_pic cA (va_up ad N q) β μ N = x) : m_ws cA ad β μ N ++ [(q, x)] = m_ws cA (va_up ad N q) β μ (N + 1) := by
  unfold m_ws
  rw [List.range_succ, List.map_append]
  congr 1
  · apply List.map_congr_left
    intro k hk
    have hk : k < N := List.mem_range.mp hk
    have e : va_up ad N q k = ad k := va_up_ne _ _ (by omega)
    rw [e, m_pic_ad hw hk (fun i hi => va_up_ne _ _ (by omega))]
  · show [(q, x)] = [(va_up ad N q N, m_pic cA (va_up ad N q) β μ N)]
    rw [va_up_self, hx]
theorem m_grow {D : va_G} {cA : Nat → ClassId} {ad : Nat → Nat} {N : Nat} {β : Nat → Nat → Bool} {μ : Mu} {H H1 : Heap} {A : Nat → Prop} {q : Nat} {x : va_E} (hM : Mem D cA ad N β μ H) (hz : ∀ j, μ N j = 0) (hβ : ∀ j, β N j = false) (hx : m_pic cA (va_up ad N q) β μ N = x)
    (h1 : va_P D vwCl (m_ws cA ad β μ N ++ [(q, x)]) H1) (h2 : va_D A (m_ws cA ad β μ N ++ [(q, x)])) : Mem D cA (va_up ad N q) (N + 1) β μ H1 ∧ ∀ k, k < N + 1 → A (va_up ad N q k) := by
  rw [m_ws_grow hM.2.2 hx] at h1 h2
  refine ⟨⟨h1, fun j k hj hk e => ?_, fun k t n hk hs j => ?_, fun k ci j o hk hs hf hb => ?_⟩, fun k hk => h2.2 k _ (m_ws_at hk)⟩
  · exact h2.1 j k _ _ (m_ws_at hj) (m_ws_at hk) e
  · by_cases hkN : k = N
    · subst hkN
      exact Or.inl (hz j)
    · rcases hM.2.2.1 k t n (by omega) hs j with h | h
      · exact Or.inl h
      · exact Or.inr (by omega)
  · by_cases hkN : k = N
    · subst hkN
      rw [hβ j] at hb
      cases hb
    · have := hM.2.2.2 k ci j o (by omega) hs hf hb
      omega
section AWalloc
variable {G : GTy} {R : Room} {nL cells slots : Nat} {ad : Nat → Nat} {N : Nat} {β : Nat → Nat → Bool} {pc : Nat} {lv lv2 : List (Nat × Value)} {st : List Value} {μ : Mu} {cc : ByteArray} {own : String} {Ts : List Cond}
/-- what a row that makes a cell asks: the code N is the next one, unused so far -/
def m_new (G : GTy) (N : Nat) (β : Nat → Nat → Bool) (μ : Mu) (lv : List (Nat × Value)) (st : List Value) : Prop := N < SB ∧ (∀ q, G.2.2.2.1.heap.size ≤ q → G.2.2.2.2.2.2.2.2.2.2.2.2.2 q) ∧ (∀ j, μ N j = 0) ∧ (∀ j, β N j = false) ∧ (∀ q ∈ lv, m_ok N q.2) ∧ ∀ v ∈ st, m_ok N v
theorem AW.new (X : Cx G nL cc own Ts) {ci nF index : Nat} {C : String} {T : u_T} (ty0 : Nat → FieldType) (hs : sh N = .inl ci) (hc : vwCl[ci]? = some (C, T, nF)) (hin : ∀ w ∈ u_ws C T nF, w ∈ Ts) (hty : ∀ k, k < nF → parseFieldDescriptor (T k).2.2.1 = some (ty0 k)) (hcl : Cond.classLink own index C ∈ Ts) (hins : Cond.instantiable C nF ∈ Ts) (hini : Cond.initialized C ∈ Ts) (hfs : ∀ j, j < nF → defaultValue (ty0 j) = vp_V (m_obj (fun _ => 0) (fun _ => false) 0 (fk ci) (fun _ => 0)) j) (hw : m_new G N β μ lv st) (hcells : cells + 1 ≤ R.cells) (hslots : slots + nF ≤ R.slots) (hd : decode cc pc = .ok (.new index, 3)) (kk : ∀ q : Nat, AW G R nL (cells + 1, slots + nF, va_up ad N q, N + 1, β) (pc + 3) lv (.ref N :: st) μ) : AW G R nL (cells, slots, ad, N, β) pc lv (st) μ := by
  obtain ⟨p, l, e, s, m, args, below, meth, c, Q, D, cA, sa, A⟩ := G
  obtain ⟨hx, hb, hml, hown, hts, hK, hSt, hlk⟩ := X
  obtain ⟨hNb, hA0, hz, hβ, hlv, hst⟩ := hw
  refine fun H locs L hM hA hS hL => va_new (ci := ci) (fs := m_obj (fun _ => 0) (fun _ => false) 0 (fk ci) (fun _ => 0)) (C := C) (T := T) (N := nF) hx hb hts hin ty0 hty hown (hts _ hcl) (hts _ hins) (hts _ hini) hK hM.1 (hM.D hA.1) hS hA0 hc hfs hcells hslots hd (fun q H1 h1 h2 h3 => ?_)
  have hpic : m_pic cA (va_up ad N q) β μ N = .inr (ci, m_obj (fun _ => 0) (fun _ => false) 0 (fk ci) (fun _ => 0)) := by
    rw [m_pic_obj hs, show β N = fun _ => false from funext hβ, show μ N = fun _ => 0 from funext hz]
    congr 2
  obtain ⟨hM1, hA1⟩ := m_grow (q := q) hM hz hβ hpic h1 h2
  have e1 : ∀ k, k < N → va_up ad N q k = ad k := fun k hk => va_up_ne _ _ (by omega)
  have e2 : ∀ i, va_up ad N q (SB + i) = sa i := fun i => by rw [va_up_ne _ _ (by omega)]; exact hA.2 i
  have key := kk q H1 locs L hM1 ⟨hA1, e2⟩ h3 (by rw [m_lv_ok hlv e1 hA.2 e2]; exact hL)
  rw [List.map_cons, m_map_ok hst e1 hA.2 e2, show m_cv (va_up ad N q) (.ref N) = .ref q from congrArg Value.ref (va_up_self ad N q)] at key
  exact key
theorem AW.newI (X : Cx G nL cc own Ts) {t n : Nat} {i : Int32} (hs : sh N = .inr (t, n, 0)) (ht : m_fts[t]? = some .int) (harr : Cond.arrayClass .int ∈ Ts) (hn : ¬ i < 0) (hN : i.toNatClampNeg = n) (hby : n * componentBytes .int ≤ 536870912) (hw : m_new G N β μ lv st) (hcells : cells + 1 ≤ R.cells) (hslots : slots + n ≤ R.slots) (hd : decode cc pc = .ok (.newarray .int, 2)) (kk : ∀ q : Nat, AW G R nL (cells + 1, slots + n, va_up ad N q, N + 1, β) (pc + 2) lv (.ref N :: st) μ) : AW G R nL (cells, slots, ad, N, β) pc lv (.int i :: st) μ := by
  obtain ⟨p, l, e, s, m, args, below, meth, c, Q, D, cA, sa, A⟩ := G
  obtain ⟨hx, hb, hml, hown, hts, hK, hSt, hlk⟩ := X
  obtain ⟨hNb, hA0, hz, hβ, hlv, hst⟩ := hw
  refine fun H locs L hM hA hS hL => va_newa (atype := .int) (ty := .int) (a0 := (n, .inl (fun _ => 0))) hx hb (hts _ harr) rfl hK hM.1 (hM.D hA.1) hS hA0 (fun cA => rfl) hn hN hby hcells hslots hd (fun q cB H1 hK2 h1 h2 h3 => ?_)
  have hcB : cB = cA t := by
    have g1 := (hK2.2 (m_tys cA).length (cB, .int) (by simp)).2
    have g2 := (hK.2 t (cA t, .int) (m_tys_at ht)).2
    exact Option.some.inj (g1.symm.trans g2)
  subst hcB
  have hpic : m_pic cA (va_up ad N q) β μ N = .inl (cA t, (n, .inl (fun _ => 0))) := by
    rw [m_pic_arr hs, show μ N = fun _ => 0 from funext hz]
    rfl
  obtain ⟨hM1, hA1⟩ := m_grow (q := q) hM hz hβ hpic h1 h2
  have e1 : ∀ k, k < N → va_up ad N q k = ad k := fun k hk => va_up_ne _ _ (by omega)
  have e2 : ∀ i, va_up ad N q (SB + i) = sa i := fun i => by rw [va_up_ne _ _ (by omega)]; exact hA.2 i
  have key := kk q H1 locs L hM1 ⟨hA1, e2⟩ h3 (by rw [m_lv_ok hlv e1 hA.2 e2]; exact hL)
  rw [List.map_cons, m_map_ok hst e1 hA.2 e2, show m_cv (va_up ad N q) (.ref N) = .ref q from congrArg Value.ref (va_up_self ad N q)] at key
  exact key
theorem AW.newL (X : Cx G nL cc own Ts) {t n : Nat} {i : Int32} (hs : sh N = .inr (t, n, 1)) (ht : m_fts[t]? = some .long) (harr : Cond.arrayClass .long ∈ Ts) (hn : ¬ i < 0) (hN : i.toNatClampNeg = n) (hby : n * componentBytes .long ≤ 536870912) (hw : m_new G N β μ lv st) (hcells : cells + 1 ≤ R.cells) (hslots : slots + n ≤ R.slots) (hd : decode cc pc = .ok (.newarray .long, 2)) (kk : ∀ q : Nat, AW G R nL (cells + 1, slots + n, va_up ad N q, N + 1, β) (pc + 2) lv (.ref N :: st) μ) : AW G R nL (cells, slots, ad, N, β) pc lv (.int i :: st) μ := by
  obtain ⟨p, l, e, s, m, args, below, meth, c, Q, D, cA, sa, A⟩ := G
  obtain ⟨hx, hb, hml, hown, hts, hK, hSt, hlk⟩ := X
  obtain ⟨hNb, hA0, hz, hβ, hlv, hst⟩ := hw
  refine fun H locs L hM hA hS hL => va_newa (atype := .long) (ty := .long) (a0 := (n, .inr (.inl (fun _ => 0)))) hx hb (hts _ harr) rfl hK hM.1 (hM.D hA.1) hS hA0 (fun cA => rfl) hn hN hby hcells hslots hd (fun q cB H1 hK2 h1 h2 h3 => ?_)
  have hcB : cB = cA t := by
    have g1 := (hK2.2 (m_tys cA).length (cB, .long) (by simp)).2
    have g2 := (hK.2 t (cA t, .long) (m_tys_at ht)).2
    exact Option.some.inj (g1.symm.trans g2)
  subst hcB
  have hpic : m_pic cA (va_up ad N q) β μ N = .inl (cA t, (n, .inr (.inl (fun _ => 0)))) := by
    rw [m_pic_arr hs, show μ N = fun _ => 0 from funext hz]
    rfl
  obtain ⟨hM1, hA1⟩ := m_grow (q := q) hM hz hβ hpic h1 h2
  have e1 : ∀ k, k < N → va_up ad N q k = ad k := fun k hk => va_up_ne _ _ (by omega)
  have e2 : ∀ i, va_up ad N q (SB + i) = sa i := fun i => by rw [va_up_ne _ _ (by omega)]; exact hA.2 i
  have key := kk q H1 locs L hM1 ⟨hA1, e2⟩ h3 (by rw [m_lv_ok hlv e1 hA.2 e2]; exact hL)
  rw [List.map_cons, m_map_ok hst e1 hA.2 e2, show m_cv (va_up ad N q) (.ref N) = .ref q from congrArg Value.ref (va_up_self ad N q)] at key
  exact key
theorem AW.newZ (X : Cx G nL cc own Ts) {t n : Nat} {i : Int32} (hs : sh N = .inr (t, n, 0)) (ht : m_fts[t]? = some .boolean) (harr : Cond.arrayClass .boolean ∈ Ts) (hn : ¬ i < 0) (hN : i.toNatClampNeg = n) (hby : n * componentBytes .boolean ≤ 536870912) (hw : m_new G N β μ lv st) (hcells : cells + 1 ≤ R.cells) (hslots : slots + n ≤ R.slots) (hd : decode cc pc = .ok (.newarray .boolean, 2)) (kk : ∀ q : Nat, AW G R nL (cells + 1, slots + n, va_up ad N q, N + 1, β) (pc + 2) lv (.ref N :: st) μ) : AW G R nL (cells, slots, ad, N, β) pc lv (.int i :: st) μ := by
  obtain ⟨p, l, e, s, m, args, below, meth, c, Q, D, cA, sa, A⟩ := G
  obtain ⟨hx, hb, hml, hown, hts, hK, hSt, hlk⟩ := X
  obtain ⟨hNb, hA0, hz, hβ, hlv, hst⟩ := hw
  refine fun H locs L hM hA hS hL => va_newa (atype := .boolean) (ty := .boolean) (a0 := (n, .inl (fun _ => 0))) hx hb (hts _ harr) rfl hK hM.1 (hM.D hA.1) hS hA0 (fun cA => rfl) hn hN hby hcells hslots hd (fun q cB H1 hK2 h1 h2 h3 => ?_)
  have hcB : cB = cA t := by
    have g1 := (hK2.2 (m_tys cA).length (cB, .boolean) (by simp)).2
    have g2 := (hK.2 t (cA t, .boolean) (m_tys_at ht)).2
    exact Option.some.inj (g1.symm.trans g2)
  subst hcB
  have hpic : m_pic cA (va_up ad N q) β μ N = .inl (cA t, (n, .inl (fun _ => 0))) := by
    rw [m_pic_arr hs, show μ N = fun _ => 0 from funext hz]
    rfl
  obtain ⟨hM1, hA1⟩ := m_grow (q := q) hM hz hβ hpic h1 h2
  have e1 : ∀ k, k < N → va_up ad N q k = ad k := fun k hk => va_up_ne _ _ (by omega)
  have e2 : ∀ i, va_up ad N q (SB + i) = sa i := fun i => by rw [va_up_ne _ _ (by omega)]; exact hA.2 i
  have key := kk q H1 locs L hM1 ⟨hA1, e2⟩ h3 (by rw [m_lv_ok hlv e1 hA.2 e2]; exact hL)
  rw [List.map_cons, m_map_ok hst e1 hA.2 e2, show m_cv (va_up ad N q) (.ref N) = .ref q from congrArg Value.ref (va_up_self ad N q)] at key
  exact key
theorem AW.newB (X : Cx G nL cc own Ts) {t n : Nat} {i : Int32} (hs : sh N = .inr (t, n, 0)) (ht : m_fts[t]? = some .byte) (harr : Cond.arrayClass .byte ∈ Ts) (hn : ¬ i < 0) (hN : i.toNatClampNeg = n) (hby : n * componentBytes .byte ≤ 536870912) (hw : m_new G N β μ lv st) (hcells : cells + 1 ≤ R.cells) (hslots : slots + n ≤ R.slots) (hd : decode cc pc = .ok (.newarray .byte, 2)) (kk : ∀ q : Nat, AW G R nL (cells + 1, slots + n, va_up ad N q, N + 1, β) (pc + 2) lv (.ref N :: st) μ) : AW G R nL (cells, slots, ad, N, β) pc lv (.int i :: st) μ := by
  obtain ⟨p, l, e, s, m, args, below, meth, c, Q, D, cA, sa, A⟩ := G
  obtain ⟨hx, hb, hml, hown, hts, hK, hSt, hlk⟩ := X
  obtain ⟨hNb, hA0, hz, hβ, hlv, hst⟩ := hw
  refine fun H locs L hM hA hS hL => va_newa (atype := .byte) (ty := .byte) (a0 := (n, .inl (fun _ => 0))) hx hb (hts _ harr) rfl hK hM.1 (hM.D hA.1) hS hA0 (fun cA => rfl) hn hN hby hcells hslots hd (fun q cB H1 hK2 h1 h2 h3 => ?_)
  have hcB : cB = cA t := by
    have g1 := (hK2.2 (m_tys cA).length (cB, .byte) (by simp)).2
    have g2 := (hK.2 t (cA t, .byte) (m_tys_at ht)).2
    exact Option.some.inj (g1.symm.trans g2)
  subst hcB
  have hpic : m_pic cA (va_up ad N q) β μ N = .inl (cA t, (n, .inl (fun _ => 0))) := by
    rw [m_pic_arr hs, show μ N = fun _ => 0 from funext hz]
    rfl
  obtain ⟨hM1, hA1⟩ := m_grow (q := q) hM hz hβ hpic h1 h2
  have e1 : ∀ k, k < N → va_up ad N q k = ad k := fun k hk => va_up_ne _ _ (by omega)
  have e2 : ∀ i, va_up ad N q (SB + i) = sa i := fun i => by rw [va_up_ne _ _ (by omega)]; exact hA.2 i
  have key := kk q H1 locs L hM1 ⟨hA1, e2⟩ h3 (by rw [m_lv_ok hlv e1 hA.2 e2]; exact hL)
  rw [List.map_cons, m_map_ok hst e1 hA.2 e2, show m_cv (va_up ad N q) (.ref N) = .ref q from congrArg Value.ref (va_up_self ad N q)] at key
  exact key
theorem AW.newR (X : Cx G nL cc own Ts) {t n index : Nat} {C : String} {i : Int32} (hs : sh N = .inr (t, n, 2)) (ht : m_fts[t]? = some (.object C)) (hcl : Cond.classLink own index C ∈ Ts) (harr : va_AO C G.2.2.2.1) (hn : ¬ i < 0) (hN : i.toNatClampNeg = n) (hby : n * 4 ≤ 536870912) (hw : m_new G N β μ lv st) (hcells : cells + 1 ≤ R.cells) (hslots : slots + n ≤ R.slots) (hd : decode cc pc = .ok (.anewarray index, 3)) (kk : ∀ q : Nat, AW G R nL (cells + 1, slots + n, va_up ad N q, N + 1, β) (pc + 3) lv (.ref N :: st) μ) : AW G R nL (cells, slots, ad, N, β) pc lv (.int i :: st) μ := by
  obtain ⟨p, l, e, s, m, args, below, meth, c, Q, D, cA, sa, A⟩ := G
  obtain ⟨hx, hb, hml, hown, hts, hK, hSt, hlk⟩ := X
  obtain ⟨hNb, hA0, hz, hβ, hlv, hst⟩ := hw
  refine fun H locs L hM hA hS hL => va_newq (C := C) hx hb hown (hts _ hcl) harr hK hM.1 (hM.D hA.1) hS hA0 hn hN hby hcells hslots hd (fun q cB H1 hK2 h1 h2 h3 => ?_)
  have hcB : cB = cA t := by
    obtain ⟨kA, cp, g1, g2, g3, g4⟩ := (hK2.2 (m_tys cA).length (cB, .object C) (by simp)).2
    obtain ⟨kA2, cp2, f1, f2, f3, f4⟩ := (hK.2 t (cA t, .object C) (m_tys_at ht)).2
    exact Option.some.inj (g4.symm.trans f4)
  subst hcB
  have hpic : m_pic cA (va_up ad N q) β μ N = .inl (cA t, n, .inr (.inr (.inr (.inr (fun _ => none))))) := by
    rw [m_pic_arr hs, show μ N = fun _ => 0 from funext hz]
    rfl
  obtain ⟨hM1, hA1⟩ := m_grow (q := q) hM hz hβ hpic h1 h2
  have e1 : ∀ k, k < N → va_up ad N q k = ad k := fun k hk => va_up_ne _ _ (by omega)
  have e2 : ∀ i, va_up ad N q (SB + i) = sa i := fun i => by rw [va_up_ne _ _ (by omega)]; exact hA.2 i
  have key := kk q H1 locs L hM1 ⟨hA1, e2⟩ h3 (by rw [m_lv_ok hlv e1 hA.2 e2]; exact hL)
  rw [List.map_cons, m_map_ok hst e1 hA.2 e2, show m_cv (va_up ad N q) (.ref N) = .ref q from congrArg Value.ref (va_up_self ad N q)] at key
  exact key
end AWalloc
