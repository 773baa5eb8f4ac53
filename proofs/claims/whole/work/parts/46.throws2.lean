theorem x_good : ∀ w ∈ xAt.filter goodWord, w ∈ GT := gt_r [43, 569, 578, 580, 583, 585, 570, 571, 53, 54, 572, 577, 581, 601, 559, 602, 561, 603, 563, 573, 575, 565, 597, 598, 600, 565, 588, 589, 590, 591, 591, 592, 593, 594, 594, 595, 596, 597, 587, 548, 556, 557, 558, 560, 562, 564, 568, 567, 566] (by decide +kernel) (by decide +kernel)
theorem wk_x : Cond.classLink "RetentionRows" 142 xN ∈ GT := gt_i 547 (by decide +kernel) rfl
theorem wn_x : Cond.initialized xN ∈ GT := gt_i 46 (by decide +kernel) rfl
def xBad : List Cond := [.laysStatic Bundle.tN "UNASSIGNED_STACK" Bundle.steD, .laysStatic Bundle.tN "SUPPRESSED_SENTINEL" Bundle.listD, .isRef (.static Bundle.tN "UNASSIGNED_STACK" Bundle.steD), .isRef (.static Bundle.tN "SUPPRESSED_SENTINEL" Bundle.listD), .declares (Bundle.initS "java/lang/RuntimeException"), .declares (Bundle.initS "java/lang/Exception"), .declares (Bundle.initS "java/lang/Throwable"), .castable xN xN]
theorem x_bad : ∀ w ∈ xAt, goodWord w = true ∨ w ∈ xBad := by decide +kernel
theorem x_decl {s : State} {args : Array Value} {x : MethodName} {b : ByteArray} {n : Nat} {r : Option FieldType} (h : (Cond.instanceMethod x).before args s = true) (h2 : (Cond.code x b n r).before args s = true) : (Cond.declares x).before args s = true := by
  obtain ⟨m, meth, h1, h3, h4, h5⟩ := Cond.instanceMethod_spec h
  obtain ⟨m9, c9, g1, g2, g3, g4, g5, g6, g7, g8⟩ := Cond.code_spec h1 h2
  cases h3.symm.trans g1
  simp [Cond.before, Cond.holds, Cond.value, h1, h3, h4, h5, g8]
theorem x_cast {s : State} {args : Array Value} {C : String} (h : (Cond.initialized C).before args s = true) : (Cond.castable C C).before args s = true := by
  simp only [Cond.before, Cond.holds, Cond.value] at h ⊢
  cases hf : s.vm.findClass C with
  | none => simp [hf] at h
  | some c => simp [hf, va_asg]
theorem x_ref {C n d : String} {A : Nat → Prop} {s : State} {args : Array Value} (h : va_Zq C n d A s s.heap) : (Cond.isRef (.static C n d)).before args s = true := by
  have key : ∀ v : Value, v.isRef = true → va_Z C n d v A s s.heap → (Cond.isRef (.static C n d)).before args s = true := by
    intro v hv hz
    obtain ⟨cf, kf, fi, f, a, cell, h1, h2, h3, h4, h5, h6, h7, -⟩ := hz
    have he : (Term.static C n d).eval args s none [] s = some v := by simp [Term.eval, State.fieldNamed?, h1, h2, h4, h5, h6, h7]
    simp only [Cond.before, Cond.holds, Cond.value, he]
    cases v <;> simp_all [Value.isRef]
  rcases h with h | ⟨t, h⟩
  · exact key _ rfl h
  · exact key _ rfl h
/-- all that the throw asks of the state -/
theorem x_words {s : State} {args : Array Value} {sa : Nat → Nat} {A : Nat → Prop} (ht : ∀ w ∈ GT, w.before args s = true) (hS : m_S2 sa A s) : ∀ w ∈ xAt, w.before args s = true := by
  intro w hw
  rcases x_bad w hw with hg | hb
  · exact ht w (x_good w (List.mem_filter.mpr ⟨hw, hg⟩))
  · obtain ⟨-, ⟨u1, u2⟩, ⟨v1, v2⟩, -⟩ := hS
    have good : ∀ w, w ∈ xAt → goodWord w = true → w.before args s = true := fun w h1 h2 => ht w (x_good w (List.mem_filter.mpr ⟨h1, h2⟩))
    simp only [xBad, List.mem_cons, List.not_mem_nil, or_false] at hb
    rcases hb with rfl | rfl | rfl | rfl | rfl | rfl | rfl | rfl
    · exact u2.word
    · exact v2.word
    · exact x_ref u1
    · exact x_ref v1
    · exact x_decl (b := Bundle.six) (n := 2) (r := none) (good _ (by decide +kernel) (by decide +kernel)) (good _ (by decide +kernel) (by decide +kernel))
    · exact x_decl (b := Bundle.six) (n := 2) (r := none) (good _ (by decide +kernel) (by decide +kernel)) (good _ (by decide +kernel) (by decide +kernel))
    · exact x_decl (b := prog_13_method_2_code) (n := 2) (r := none) (good _ (by decide +kernel) (by decide +kernel)) (good _ (by decide +kernel) (by decide +kernel))
    · exact x_cast (ht _ wn_x)
section XW
variable {p : Program} {l : Launch} {e : Env} {R : Room} {s : State} {m : MethodId} {args : Array Value} {below : List Frame} {meth : Method} {c : Code} {H : Heap} {locs : List Loc} {cells slots : Nat} {Q : State → Prop}
/-- new; dup; ldc; invokespecial; athrow -/
theorem x_throw {cc : ByteArray} {pc is a0 : Nat} {tx : String} {L : Array Slot} {rest : List Value} (hexec : p.tables.exec = Jvm.exec) (hb : c.code = cc) (hl : l.stackTraces = false) (hown : s.vm.findClass "RetentionRows" = some m.cls) (h : ∀ a ∈ xAt, a.before args s = true) (hk : (Cond.classLink "RetentionRows" 142 xN).before args s = true) (hini : (Cond.initialized xN).before args s = true) (hstr : vk_R "RetentionRows" is tx a0 s)
    (hlocs : ∀ x ∈ locs, ∀ cell, s.heap[x.base]? = some cell → cell.vm.isStatics = false) (hgrow : s.heap.size ≤ H.size) (hsize : L.size = c.maxLocals)
    (d0 : decode cc pc = .ok (.new 142, 3)) (d3 : decode cc (pc + 3) = .ok (.dup, 1)) (d4 : decode cc (pc + 4) = .ok (.ldc is, 2)) (d6 : decode cc (pc + 6) = .ok (.invokespecial 146, 3)) (d9 : decode cc (pc + 9) = .ok (.athrow, 1)) (hout : ∀ x ∈ c.exceptionTable.toList, covers x (pc + 9) = false)
    (hRf : 5 < R.frames) (hRl : (rest.map fun v => v.category).sum + 82 ≤ R.locals) (hRc : cells + 1 ≤ R.cells) (hRs : slots + 6 ≤ R.slots) (hlocks : meth.locks = false)
    (kk : ∀ (U : State) (q : Addr) (ce : Cell), U.status = .running → Ended U below (.threw q) → s.WarmedH U.vm → s.sameButNew ({ U with vm := s.vm } : State) locs (cells + 1) (slots + 6) → U.heap[q]? = some ce → s.vm.findClass xN = some ce.cls → ce.vm = .none → H.size ≤ U.heap.size → (∀ y, y < H.size → U.heap[y]? = H[y]?) → Q U) :
    W p l e R s m args below meth c H locs cells slots Q (F0 m pc L rest) := by
  intro T hT X
  have htr : e.platform.stackTraces = false := (show e.platform.stackTraces = l.stackTraces by rw [X.admits.platform]).trans hl
  obtain ⟨vm1, cX, kX, hfX, hkX, -, -, X1, st1⟩ := X.newCold hexec (own := "RetentionRows") (C := xN) (index := 142) (n := 6) hown hk (h _ (by decide +kernel)) hini (g := F0 m pc L rest) rfl (by rw [hb]; exact d0) hRc hRs
  generalize hT1 : (T.setVm vm1).pushCell { cls := cX, slots := kX.instanceTypes.map defaultValue, vm := .none } = T1 at X1 st1
  have hc1 : T1.heap[T.heap.size]? = some (freshCell cX kX) := by rw [← hT1]; exact State.heap_pushCell_size _ _
  have hz1 : T1.heap.size = H.size + 1 := by rw [← hT1, ← hT]; simp
  have hold : ∀ y, y < H.size → T1.heap[y]? = H[y]? := fun y hy => by
    rw [← hT1, ← hT]
    exact State.heap_pushCell_of_lt _ _ (by show y < T.heap.size; rw [hT]; exact hy)
  have hw : W p l e R s m args below meth c T1.heap locs (cells + 1) (slots + 6) Q (F0 m (pc + 3) L (.ref T.heap.size :: rest)) := by
    refine lv_dup hexec hb d3 rfl (va_ldcS hexec hb hown hstr d4 ?_)
    intro T2 hT2 X2
    obtain ⟨U, r1, r2, r3, r4, r5, r6, r7, ce, r8, r9, r10⟩ := x_ctor X2 hexec htr hown h hlocs hfX hkX (by rw [hT2]; exact hc1) (by rw [hT]; exact hgrow) (msg := .ref a0) rfl (g := F0 m (pc + 4 + 2) L (.ref a0 :: .ref T.heap.size :: .ref T.heap.size :: rest)) rfl hsize rfl rfl rfl (by rw [hb]; exact d6) (by rw [hb]; exact d9) hout hRf
      (by show 2 * 0 + (((Value.ref T.heap.size).category :: rest.map fun v => v.category).sum) + 81 ≤ R.locals; rw [List.sum_cons]; show 2 * 0 + (1 + _) + 81 ≤ _; omega) hlocks
    refine ⟨U, r1, kk U T.heap.size ce r2 r3 r4 r5 r8 (by rw [r9]; exact hfX) r10 (by rw [hT2] at r7; omega) (fun y hy => ?_)⟩
    rw [r6 y (by rw [hT]; exact Nat.ne_of_lt hy), hT2]
    exact hold y hy
  obtain ⟨t, a1, b1⟩ := hw T1 rfl X1
  exact ⟨t, st1 _ a1, b1⟩
end XW
/-- a method that throws: its cell is new, and nothing else has changed -/
def CXq (K : KTy) (μ : Mu) : Array Value → State → Outcome → State → Prop := match K with
  | (l, D, cA, sa, A, ad, N) => fun _ st o t => ∃ (q : Addr) (ce : Cell) (Lx : List Loc), o = .threw q ∧ (t.heap[q]? = some ce ∧ ce.vm = .none ∧ st.vm.findClass xN = some ce.cls) ∧ st.WarmedH t.vm ∧ st.sameButNew ({ t with vm := st.vm } : State) Lx 1 6 ∧ (∀ z ∈ Lx, A z.base) ∧ Mem D cA ad N fb μ t.heap ∧ va_F A st t
def CX (K : KTy) (y : MethodName) (ws : List Cond) (d : Nat) (av : List Value) (μ : Mu) : Prop := MetFree K.1 y (headSpec ws (rmA d 1 6)) (CTAp K fb av μ) (fun _ _ _ _ _ => True) (CXq K μ)
theorem m_S2.narrow {sa : Nat → Nat} {A B : Nat → Prop} {U : State} (h : m_S2 sa A U) (hAB : ∀ q, B q → A q) : m_S2 sa B U := by
  obtain ⟨h1, ⟨h2, h3⟩, ⟨h4, h5⟩, h6, h7⟩ := h
  have nz : ∀ {C n d : String} {v : Value}, va_Z C n d v A U U.heap → va_Z C n d v B U U.heap := by
    rintro C n d v ⟨cf, kf, fi, f, a, cell, g1, g2, g3, g4, g5, g6, g7, g8⟩
    exact ⟨cf, kf, fi, f, a, cell, g1, g2, g3, g4, g5, g6, g7, fun z => g8 (hAB _ z)⟩
  have nl : ∀ {C n d : String}, x_L C n d A U U.heap → x_L C n d B U U.heap := by
    rintro C n d ⟨a, cell, c, k, i, f, g1, g2⟩
    exact ⟨a, cell, c, k, i, f, fun z => g1 (hAB _ z), g2⟩
  have nq : ∀ {C n d : String}, va_Zq C n d A U U.heap → va_Zq C n d B U U.heap := fun h => h.imp nz (fun ⟨t, q⟩ => ⟨t, nz q⟩)
  exact ⟨h1.imp nz nz, ⟨nq h2, nl h3⟩, ⟨nq h4, nl h5⟩, h6, h7⟩
theorem m_S.narrow {sa : Nat → Nat} {A B : Nat → Prop} {U : State} (h : m_S sa A U) (hAB : ∀ q, B q → A q) : m_S sa B U := by
  obtain ⟨h1, h2, h3, h4, h5, h6, h7, h8⟩ := h
  obtain ⟨cf, kf, fi, f, a, cell, g1, g2, g3, g4, g5, g6, g7, g8⟩ := h3
  exact ⟨h1.narrow hAB, h2, ⟨cf, kf, fi, f, a, cell, g1, g2, g3, g4, g5, g6, g7, fun z => g8 (hAB _ z)⟩, h4, h5, h6, h7, h8.narrow hAB⟩
/-- a known cell is no class's statics -/
theorem Mem.ns {D : va_G} {cA : Nat → ClassId} {ad : Nat → Nat} {N : Nat} {β : Nat → Nat → Bool} {μ : Mu} {H : Heap} {s : State} (h : Mem D cA ad N β μ H) (hK : va_K D vwCl (m_tys cA) s) {k : Nat} (hk : k < N) {cell : Cell} (hc : H[ad k]? = some cell) : cell.vm.isStatics = false := by
  have h1 := h.1 k _ (m_ws_at hk)
  cases hs : sh k with
  | inl ci =>
    rw [m_pic_obj hs] at h1
    obtain ⟨r, h2, h3⟩ := h1
    obtain ⟨cl, T, nF⟩ := r
    obtain ⟨cell2, g1, g2, -⟩ := va_recv hK h.1 h2 (m_ws_at hk |>.trans (by rw [m_pic_obj hs]))
    rw [hc] at g1
    cases g1
    exact g2
  | inr q =>
    obtain ⟨t, n, kd⟩ := q
    rw [m_pic_arr hs] at h1
    have h2 : H[ad k]? = some (vp_cell (cA t) (n, m_arr ad kd (μ k))) := h1
    rw [hc] at h2
    cases h2
    unfold vp_cell
    split <;> rfl
/-- the body of a method that throws on this road -/
theorem CX.of {l : Launch} {D : va_G} {cA : Nat → ClassId} {sa : Nat → Nat} {A : Nat → Prop} {ad : Nat → Nat} {N : Nat} {y : MethodName} {d : Nat} {av : List Value} {μ : Mu} {cc : ByteArray} {maxL : Nat} {ret : Option FieldType} {ws : List Cond} (hy : plainName y.cls = true) (ho : y.cls = "RetentionRows") (hw : ws = Cond.code y cc maxL ret :: GT) (hnl : (lg_sl av).length ≤ maxL) (hl : l.stackTraces = false) (hd6 : 6 ≤ d)
    (body : ∀ (G : GTy), kOf G ad N = (l, D, cA, sa, (fun q => (∃ k, k < N ∧ q = ad k) ∨ G.2.2.2.1.heap.size ≤ q), ad, N) → Cx G maxL cc "RetentionRows" GT →
      (∀ (pc is i : Nat) (tx : String) (lv : List (Nat × Value)) (rest : List Value), vk_R "RetentionRows" is tx (sa i) G.2.2.2.1 → decode cc pc = .ok (.new 142, 3) → decode cc (pc + 3) = .ok (.dup, 1) → decode cc (pc + 4) = .ok (.ldc is, 2) → decode cc (pc + 6) = .ok (.invokespecial 146, 3) → decode cc (pc + 9) = .ok (.athrow, 1) → (rest.map fun v => v.category).sum ≤ 8 → AW G (rmA d 1 6) maxL (0, 0, ad, N, fb) pc lv rest μ) →
      AW G (rmA d 1 6) maxL (0, 0, ad, N, fb) 0 (lv_args 0 av) [] μ) : CX (l, D, cA, sa, A, ad, N) y ws d av μ := by
  refine MetFree.of_bodyS (code := cc) (maxLocals := maxL) (ret := ret) hy ?_ ?_
  · intro args s m h hn
    obtain ⟨meth, c, h1, h2, h3, h4, h5, h6, -, -⟩ := Cond.code_spec hn (atoms_spec (ws := ws) h _ (by rw [hw]; exact List.mem_cons_self))
    exact ⟨meth, c, h1, h2, h3, h4, h5, h6⟩
  · intro p e s m args below meth c s₁ B hml hv _
    obtain ⟨rfl, hM, hK, hSt, hA1, hA2, hA0⟩ := hv
    have hx := B.exec
    have hb := B.bytes
    have hts : ∀ w ∈ GT, w.before (av.map (m_cv ad)).toArray s = true := fun w h => atoms_spec (ws := ws) B.pre w (by rw [hw]; exact List.mem_cons_of_mem _ h)
    have hown : s.vm.findClass "RetentionRows" = some m.cls := by rw [← ho]; exact findClass_of_methodNamed B.named
    have hlocks := B.notSynchronized
    have htab : ∀ x ∈ c.exceptionTable.toList, False := by
      obtain ⟨meth9, c9, h1, h2, -, -, -, -, h7, -⟩ := Cond.code_spec B.named (atoms_spec (ws := ws) B.pre _ (by rw [hw]; exact List.mem_cons_self))
      cases Option.some.inj (h1.symm.trans B.method)
      cases Option.some.inj (h2.symm.trans (Stand.of_body B).code)
      intro x hx
      rw [Array.isEmpty_iff.mp h7] at hx
      cases hx
    have hlv := lv_entry (av.map (m_cv ad)) (n := maxL) (by rw [lg_sl_m]; exact hnl)
    rw [lv_args_m] at hlv
    rw [lg_entry_eq]
    let A2 : Nat → Prop := fun q => (∃ k, k < N ∧ q = ad k) ∨ s.heap.size ≤ q
    have hA21 : ∀ q, A2 q → A q := by
      rintro q (⟨k, hk, rfl⟩ | h)
      · exact hA1 k hk
      · exact hA0 q h
    have hS2 : m_S sa A2 s := hSt.narrow hA21
    let Q : State → Prop := fun t => ∃ o, t.status = .running ∧ Ended t below o ∧ CXq (l, D, cA, sa, A, ad, N) μ (av.map (m_cv ad)).toArray s o t
    have key := body (p, l, e, s, m, (av.map (m_cv ad)).toArray, below, meth, c, Q, D, cA, sa, A2) rfl ⟨hx, hb, hml, hown, hts, hK, hS2, hlocks⟩ ?_
    · obtain ⟨t, a1, o, b1, b2, b3⟩ := key s.heap [] _ hM ⟨fun k hk => Or.inl ⟨k, hk, rfl⟩, hA2⟩ va_S.rf hlv s₁ (by rw [B.state]; rfl) (Stand.of_body B)
      exact ⟨t, o, a1, b1, b2, b3⟩
    · intro pc is i tx lv rest hstr d0 d3 d4 d6 d9 hrm H locs L hMt hAt hSt2 hL
      refine x_throw hx hb hl hown (x_words hts hSt.2.2.2.2.2.2.2) (hts _ wk_x) (hts _ wn_x) hstr (fun x hx cell hc => ?_) hSt2.1 (by rw [hml]; exact hL.1) d0 d3 d4 d6 d9 (fun x hx => (htab x hx).elim) (show 5 < d by omega) ?_ (Nat.le_refl _) (Nat.le_refl _) hlocks ?_
      · rcases hSt2.2.2 x hx with ⟨k, hk, e1⟩ | h
        · rw [e1] at hc
          exact hM.ns hK hk hc
        · exact absurd (Array.getElem?_eq_some_iff.mp hc).1 (Nat.not_lt.mpr h)
      · show _ ≤ 28 * d
        rw [m_cats]
        omega
      · intro U q ce r1 r2 r3 r4 r5 r6 r7 r8 r9
        refine ⟨.threw q, r1, r2, q, ce, locs, rfl, ⟨r5, r7, r6⟩, r3, r4, fun z hz => hA21 _ (hSt2.2.2 z hz), hMt.kept (fun k hk => r9 _ (hMt.lt hk)), Nat.le_trans hSt2.1 r8, fun z h1 h2 => ?_⟩
        rw [r9 z (Nat.lt_of_lt_of_le h1 hSt2.1)]
        exact hSt2.2.1 z h1 (fun h => h2 (hA21 _ h))
