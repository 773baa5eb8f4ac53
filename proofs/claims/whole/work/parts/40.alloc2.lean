theorem W_wide {p : Program} {l : Launch} {e : Env} {R : Room} {s : State} {m : MethodId} {args : Array Value} {below : List Frame} {meth : Method} {c : Code} {H : Heap} {locs : List Loc} {cells slots k n : Nat} {Q : State → Prop} {g : JFrame} (h1 : cells ≤ k) (h2 : slots ≤ n) (kk : W p l e R s m args below meth c H locs k n Q g) : W p l e R s m args below meth c H locs cells slots Q g := fun T hT X => kk T hT (stand_widen X h1 h2)
theorem m_obj_flag {ad : Nat → Nat} {b b2 : Nat → Bool} {k : Nat} {fl : List (Option Nat)} {f : Nat → Int32} (h : ∀ j o, fl[j]? = some (some o) → b2 j = b j) : m_obj ad b2 k fl f = m_obj ad b k fl f := by
  apply List.ext_getElem?
  intro j
  simp only [m_obj, List.getElem?_mapIdx]
  cases hf : fl[j]? with
  | none => rfl
  | some q =>
    cases q with
    | none => rfl
    | some o => simp only [Option.map_some, h j o hf]
theorem Mem.congr2 {D : va_G} {cA : Nat → ClassId} {ad : Nat → Nat} {N : Nat} {β β2 : Nat → Nat → Bool} {μ : Mu} {H : Heap} (h : Mem D cA ad N β μ H) (hb : ∀ k ci j o, k < N → sh k = .inl ci → (fk ci)[j]? = some (some o) → β2 k j = β k j) : Mem D cA ad N β2 μ H := by
  refine ⟨fun k q hk => ?_, h.2.1, h.2.2.1, fun k ci j o hk hs hf ht => h.2.2.2 k ci j o hk hs hf (by rw [← hb k ci j o hk hs hf]; exact ht)⟩
  obtain ⟨h1, rfl⟩ := m_ws_get hk
  have e : m_pic cA ad β2 μ k = m_pic cA ad β μ k := by
    cases hs : sh k with
    | inl ci => rw [m_pic_obj hs, m_pic_obj hs, m_obj_flag (fun j o hf => hb k ci j o h1 hs hf)]
    | inr q => obtain ⟨t, n, kd⟩ := q; rw [m_pic_arr hs, m_pic_arr hs]
  rw [e]
  exact h.1 k _ (m_ws_at h1)
def rmA (d mc ms : Nat) : Room := { frames := d, cells := mc, slots := ms, locals := 28 * d }
abbrev QA : Type := Option Value → Mu → (Nat → Nat → Bool) → Nat → Prop
def CTAp (K : KTy) (β : Nat → Nat → Bool) (av : List Value) (μ : Mu) : Array Value → State → Prop := match K with
  | (l, D, cA, sa, A, ad, N) => fun v U => v = (av.map (m_cv ad)).toArray ∧ Mem D cA ad N β μ U.heap ∧ va_K D vwCl (m_tys cA) U ∧ m_S sa A U ∧ (∀ k, k < N → A (ad k)) ∧ (∀ i, ad (SB + i) = sa i) ∧ ∀ q, U.heap.size ≤ q → A q
def CTAq (K : KTy) (Qr : QA) : Array Value → State → Outcome → State → Prop := match K with
  | (l, D, cA, sa, A, ad, N) => fun _ st oc t => (∃ (v : Option Value) (μ2 : Mu) (β2 : Nat → Nat → Bool) (ad2 : Nat → Nat) (N2 : Nat), oc = .returned (v.map (m_cv ad2)) ∧ Qr v μ2 β2 N2 ∧ Mem D cA ad2 N2 β2 μ2 t.heap ∧ (∀ k, k < N → ad2 k = ad k) ∧ (∀ k, k < N2 → A (ad2 k)) ∧ ∀ i, ad2 (SB + i) = sa i) ∧ va_F A st t
/-- the contract of a method that makes at most mc cells of ms places in all -/
def CTA (K : KTy) (y : MethodName) (ws : List Cond) (d mc ms : Nat) (β : Nat → Nat → Bool) (av : List Value) (μ : Mu) (Qr : QA) : Prop := Met K.1 y ws (rmA d mc ms) (CTAp K β av μ) (CTAq K Qr) mc ms K.2.2.2.2.1
theorem CTAp.blind (K : KTy) (β : Nat → Nat → Bool) (av : List Value) (μ : Mu) : FrameBlind (CTAp K β av μ) := by
  obtain ⟨l, D, cA, sa, A, ad, N⟩ := K
  intro a U g mk q
  obtain ⟨q0, q1, q2, q3, q4⟩ := q
  exact ⟨q0, q1, va_K.moved (u := U) (U := U.calling g mk a) (Vm.Alike.refl U.vm) q2, m_S.calling q3, q4⟩
theorem CTAp.pre {l : Launch} {D : va_G} {cA : Nat → ClassId} {sa : Nat → Nat} {A : Nat → Prop} {ad : Nat → Nat} {N : Nat} {β : Nat → Nat → Bool} {μ : Mu} {H : Heap} {s : State} {locs : List Loc} (av : List Value) (hM : Mem D cA ad N β μ H) (hK : va_K D vwCl (m_tys cA) s) (hSt : m_S sa A s) (hA : (∀ k, k < N → A (ad k)) ∧ ∀ i, ad (SB + i) = sa i) (hA0 : ∀ q, s.heap.size ≤ q → A q) (hS : va_S A s.heap H locs) : ∀ U : State, U.heap = H → s.WarmedH U.vm → CTAp (l, D, cA, sa, A, ad, N) β av μ (av.map (m_cv ad)).toArray U := fun U hU hW =>
  ⟨rfl, by rw [hU]; exact hM, va_K.moved hW.alike hK, hSt.at_ hS hW hU, hA.1, hA.2, fun q hq => hA0 q (Nat.le_trans hS.1 (by rw [hU] at hq; exact hq))⟩
section AWtail
variable {p : Program} {l : Launch} {e : Env} {R : Room} {s : State} {m : MethodId} {args : Array Value} {below : List Frame} {meth : Method} {c : Code} {H : Heap} {locs : List Loc} {cells slots nL pc : Nat} {Q : State → Prop}
theorem AW.tail {D : va_G} {cA : Nat → ClassId} {sa : Nat → Nat} {A : Nat → Prop} {ad : Nat → Nat} {N mc ms : Nat} {Qr : QA} {a : Array Value} {L : Array Slot} {st0 rest : List Value} {lv : List (Nat × Value)}
    (hrun : va_Run p l e R s m args below meth c H locs cells slots mc ms (F0 m pc L st0) (rest.map (m_cv ad)) (CTAq (l, D, cA, sa, A, ad, N) Qr a) A) (hA : (∀ k, k < N → A (ad k)) ∧ ∀ i, ad (SB + i) = sa i) (hS : va_S A s.heap H locs) (hL : lv_has L nL (m_lv ad lv)) (hlv : ∀ q ∈ lv, m_ok N q.2) (hrest : ∀ v ∈ rest, m_ok N v)
    (kk : ∀ (v : Option Value) (μ2 : Mu) (β2 : Nat → Nat → Bool) (ad2 : Nat → Nat) (N2 : Nat), Qr v μ2 β2 N2 → (∀ k, k < N → ad2 k = ad k) → AW (p, l, e, s, m, args, below, meth, c, Q, D, cA, sa, A) R nL (cells + mc, slots + ms, ad2, N2, β2) (pc + 3) lv (v.toList ++ rest) μ2) : W p l e R s m args below meth c H locs cells slots Q (F0 m pc L st0) := by
  intro T hT X
  obtain ⟨v, st₀, t, T', Lx, h0, X', hLx, e1, e2, ⟨⟨v2, μ2, β2, ad2, N2, hv, hq, hm, had, hA1, hA2⟩, hz, hk⟩, st⟩ := hrun T hT X
  cases hv
  rw [h0] at hz hk
  have hm' : Mem D cA ad2 N2 β2 μ2 T'.heap := by rw [e1]; exact hm
  have hS' : va_S A s.heap T'.heap (locs ++ Lx) := ⟨Nat.le_trans hS.1 (by rw [e1]; exact hz), fun q h1 h2 => by rw [e1, hk q (Nat.lt_of_lt_of_le h1 hS.1) h2]; exact hS.2.1 q h1 h2, fun q hq => by
      rcases List.mem_append.mp hq with h | h
      · exact hS.2.2 q h
      · exact hLx q h⟩
  have er : rest.map (m_cv ad2) = rest.map (m_cv ad) := m_map_ok hrest had hA.2 hA2
  obtain ⟨t2, a1, b1⟩ := kk v2 μ2 β2 ad2 N2 hq had T'.heap (locs ++ Lx) L hm' ⟨hA1, hA2⟩ hS' (by rw [m_lv_ok hlv had hA.2 hA2]; exact hL) T' rfl X'
  refine ⟨t2, st t2 ?_, b1⟩
  rw [← er, m_rest]
  exact a1
end AWtail
section AWcallA
variable {G : GTy} {R : Room} {nL cells slots : Nat} {ad : Nat → Nat} {N : Nat} {β : Nat → Nat → Bool} {pc : Nat} {lv lv2 : List (Nat × Value)} {st : List Value} {μ : Mu} {cc : ByteArray} {own : String} {Ts : List Cond}
theorem AW.beta {β2 : Nat → Nat → Bool} (hb : ∀ k ci j o, k < N → sh k = .inl ci → (fk ci)[j]? = some (some o) → β2 k j = β k j) (kk : AW G R nL (cells, slots, ad, N, β2) pc lv st μ) : AW G R nL (cells, slots, ad, N, β) pc lv st μ := by
  obtain ⟨p, l, e, s, m, args, below, meth, c, Q, D, cA, sa, A⟩ := G
  exact fun H locs L hM hA hS hL => kk H locs L (hM.congr2 hb) hA hS hL
theorem AW.wide {cells2 slots2 : Nat} (h1 : cells ≤ cells2) (h2 : slots ≤ slots2) (kk : AW G R nL (cells2, slots2, ad, N, β) pc lv st μ) : AW G R nL (cells, slots, ad, N, β) pc lv st μ := by
  obtain ⟨p, l, e, s, m, args, below, meth, c, Q, D, cA, sa, A⟩ := G
  exact fun H locs L hM hA hS hL => W_wide h1 h2 (kk H locs L hM hA hS hL)
/-- every address made from the call on may be written -/
def gA (G : GTy) : Prop := ∀ q, G.2.2.2.1.heap.size ≤ q → G.2.2.2.2.2.2.2.2.2.2.2.2.2 q
theorem AW.objInit (X : Cx G nL cc own Ts) {k idx : Nat} (h1 : Cond.methodLink own idx Lib.objectInit ∈ Ts) (h2 : Cond.instanceMethod Lib.objectInit ∈ Ts) (h3 : Cond.code Lib.objectInit ⟨#[0xb1]⟩ 1 none ∈ Ts) (hf : 1 ≤ R.frames) (hl : (st.map fun v => v.category).sum + 12 ≤ R.locals) (hd : decode cc pc = .ok (.invokespecial idx, 3)) (kk : AW G R nL (cells, slots, ad, N, β) (pc + 3) lv st μ) : AW G R nL (cells, slots, ad, N, β) pc lv (.ref k :: st) μ := by
  obtain ⟨p, l, e, s, m, args, below, meth, c, Q, D, cA, sa, A⟩ := G
  obtain ⟨hx, hb, hml, hown, hts, hK, hSt, hlk⟩ := X
  refine fun H locs L hM hA hS hL => W.objInit hx hb hown (hts _ h1) (hts _ h2) (hts _ h3) (g := F0 m pc L ((.ref k :: st).map (m_cv ad))) rfl (by rw [hml]; exact hL.1) rfl hd hf ?_ (kk H locs L hM hA hS hL)
  show 2 * 0 + _ + 12 ≤ _
  rw [m_cats]
  omega
theorem AW.callIA (X : Cx G nL cc own Ts) (hA0 : gA G) {y : MethodName} {ws ws' : List Cond} {bytes : ByteArray} {maxL d index nA mc ms : Nat} {ret : Option FieldType} {b : Nat} (As rest : List Value) {Qr : QA} (hC : CTA (kOf G ad N) y ws d mc ms β (.ref b :: As) μ Qr) (hG : GoodIn Ts ws) (hw : ws = Cond.code y bytes maxL none :: ws') (hdd : y.cls ≠ "java/lang/invoke/MethodHandle" ∧ y.cls ≠ "java/lang/invoke/VarHandle" ∧ (parseMethodDescriptor y.desc).map (fun d => d.parameters.length) = some nA) (hn : y.name = "<init>") (h1 : Cond.initialized y.cls ∈ Ts) (h2 : Cond.methodLink own index y ∈ Ts) (h3 : Cond.instanceMethod y ∈ Ts) (hnA : As.length = nA) (hR : d + 1 ≤ R.frames ∧ 8 + (maxL + 11) + 28 * d ≤ R.locals) (hf : cells + mc ≤ R.cells ∧ slots + ms ≤ R.slots) (hrm : (rest.map fun v => v.category).sum ≤ 8) (hlv : ∀ q ∈ lv, m_ok N q.2) (hrest : ∀ v ∈ rest, m_ok N v) (hd : decode cc pc = .ok (.invokespecial index, 3)) (hst : st = As.reverse ++ .ref b :: rest) (kk : ∀ (v : Option Value) (μ2 : Mu) (β2 : Nat → Nat → Bool) (ad2 : Nat → Nat) (N2 : Nat), Qr v μ2 β2 N2 → (∀ k, k < N → ad2 k = ad k) → AW G R nL (cells + mc, slots + ms, ad2, N2, β2) (pc + 3) lv (v.toList ++ rest) μ2) : AW G R nL (cells, slots, ad, N, β) pc lv st μ := by
  obtain ⟨p, l, e, s, m, args, below, meth, c, Q, D, cA, sa, A⟩ := G
  obtain ⟨hx, hb, hml, hown, hts, hK, hSt, hlk⟩ := X
  subst hst
  intro H locs L hM hA hS hL
  have hrun := va_runI (b := ad b) (p := p) (e := e) (R := R) (below := below) (meth := meth) (locs := locs) (cells := cells) (slots := slots) (As := As.map (m_cv ad)) (rest := rest.map (m_cv ad)) (g := F0 m pc L ((As.reverse ++ .ref b :: rest).map (m_cv ad))) ⟨hx, hb, hml, hown, hts⟩ hC (cwI nA hts hG hw rfl rfl (hts _ h1) (hts _ h2) (hts _ h3) hn hdd hR) ⟨CTAp.blind _ _ _ _, CTAp.pre (.ref b :: As) hM hK hSt hA hA0 hS⟩ rfl (by rw [List.length_map]; exact hnA) hL.1 (by rw [List.map_append, List.map_reverse] <;> rfl) (lv_room (by rw [m_cats]; exact hrm)) hd hf
  exact AW.tail hrun hA hS hL hlv hrest kk
theorem AW.callNA (X : Cx G nL cc own Ts) (hA0 : gA G) {y : MethodName} {ws ws' : List Cond} {bytes : ByteArray} {maxL d index nA mc ms : Nat} {ret : Option FieldType} {b : Nat} (As rest : List Value) {Qr : QA} (hC : CTA (kOf G ad N) y ws d mc ms β (.ref b :: As) μ Qr) (hG : GoodIn Ts ws) (hw : ws = Cond.code y bytes maxL none :: ws') (hdd : y.cls ≠ "java/lang/invoke/MethodHandle" ∧ y.cls ≠ "java/lang/invoke/VarHandle" ∧ (parseMethodDescriptor y.desc).map (fun d => d.parameters.length) = some nA) (hn : y.name = "<init>") (h1 : Cond.initialized y.cls ∈ Ts) {host : String} (h2 : va_Nw (.methodLinkNest own index y host) G.2.2.2.1) (h3 : Cond.instanceMethod y ∈ Ts) (hnA : As.length = nA) (hR : d + 1 ≤ R.frames ∧ 8 + (maxL + 11) + 28 * d ≤ R.locals) (hf : cells + mc ≤ R.cells ∧ slots + ms ≤ R.slots) (hrm : (rest.map fun v => v.category).sum ≤ 8) (hlv : ∀ q ∈ lv, m_ok N q.2) (hrest : ∀ v ∈ rest, m_ok N v) (hd : decode cc pc = .ok (.invokespecial index, 3)) (hst : st = As.reverse ++ .ref b :: rest) (kk : ∀ (v : Option Value) (μ2 : Mu) (β2 : Nat → Nat → Bool) (ad2 : Nat → Nat) (N2 : Nat), Qr v μ2 β2 N2 → (∀ k, k < N → ad2 k = ad k) → AW G R nL (cells + mc, slots + ms, ad2, N2, β2) (pc + 3) lv (v.toList ++ rest) μ2) : AW G R nL (cells, slots, ad, N, β) pc lv st μ := by
  obtain ⟨p, l, e, s, m, args, below, meth, c, Q, D, cA, sa, A⟩ := G
  obtain ⟨hx, hb, hml, hown, hts, hK, hSt, hlk⟩ := X
  subst hst
  intro H locs L hM hA hS hL
  have hrun := va_runIN (b := ad b) (p := p) (e := e) (R := R) (below := below) (meth := meth) (locs := locs) (cells := cells) (slots := slots) (As := As.map (m_cv ad)) (rest := rest.map (m_cv ad)) (g := F0 m pc L ((As.reverse ++ .ref b :: rest).map (m_cv ad))) ⟨hx, hb, hml, hown, hts⟩ hC (⟨va_cnB nA hts hG hw rfl rfl h2 (hts _ h1) hdd hR, hn, hts _ h3⟩) ⟨CTAp.blind _ _ _ _, CTAp.pre (.ref b :: As) hM hK hSt hA hA0 hS⟩ rfl (by rw [List.length_map]; exact hnA) hL.1 (by rw [List.map_append, List.map_reverse] <;> rfl) (lv_room (by rw [m_cats]; exact hrm)) hd hf
  exact AW.tail hrun hA hS hL hlv hrest kk
theorem AW.callVA (X : Cx G nL cc own Ts) (hA0 : gA G) {y : MethodName} {ws ws' : List Cond} {bytes : ByteArray} {maxL d index nA mc ms : Nat} {ret : Option FieldType} {b ci nF : Nat} {C : String} {T : u_T} (As rest : List Value) {Qr : QA} (hC : CTA (kOf G ad N) y ws d mc ms β (.ref b :: As) μ Qr) (hT : GoodIn Ts (wsV own index C y ws)) (hw : ws = Cond.code y bytes maxL ret :: ws') (hdd : y.cls = C ∧ y.cls ≠ "java/lang/invoke/MethodHandle" ∧ y.cls ≠ "java/lang/invoke/VarHandle" ∧ (parseMethodDescriptor y.desc).map (fun d => d.parameters.length) = some nA) (hbN : b < N) (hs : sh b = .inl ci) (hc : vwCl[ci]? = some (C, T, nF)) (hnA : As.length = nA) (hR : d + 1 ≤ R.frames ∧ 8 + (maxL + 11) + 28 * d ≤ R.locals) (hf : cells + mc ≤ R.cells ∧ slots + ms ≤ R.slots) (hrm : (rest.map fun v => v.category).sum ≤ 8) (hlv : ∀ q ∈ lv, m_ok N q.2) (hrest : ∀ v ∈ rest, m_ok N v) (hd : decode cc pc = .ok (.invokevirtual index, 3)) (hst : st = As.reverse ++ .ref b :: rest) (kk : ∀ (v : Option Value) (μ2 : Mu) (β2 : Nat → Nat → Bool) (ad2 : Nat → Nat) (N2 : Nat), Qr v μ2 β2 N2 → (∀ k, k < N → ad2 k = ad k) → AW G R nL (cells + mc, slots + ms, ad2, N2, β2) (pc + 3) lv (v.toList ++ rest) μ2) : AW G R nL (cells, slots, ad, N, β) pc lv st μ := by
  obtain ⟨p, l, e, s, m, args, below, meth, c, Q, D, cA, sa, A⟩ := G
  obtain ⟨hx, hb, hml, hown, hts, hK, hSt, hlk⟩ := X
  subst hst
  intro H locs L hM hA hS hL
  have hrun := va_runV (C := C) (b := ad b) (p := p) (e := e) (R := R) (below := below) (meth := meth) (locs := locs) (cells := cells) (slots := slots) (As := As.map (m_cv ad)) (rest := rest.map (m_cv ad)) (g := F0 m pc L ((As.reverse ++ .ref b :: rest).map (m_cv ad))) ⟨hx, hb, hml, hown, hts⟩ hC (cwV nA hts hT hw rfl rfl hdd hR) ⟨CTAp.blind _ _ _ _, va_recv hK hM.1 hc (m_ws_at hbN |>.trans (by rw [m_pic_obj hs])), CTAp.pre (.ref b :: As) hM hK hSt hA hA0 hS⟩ rfl (by rw [List.length_map]; exact hnA) hL.1 (by rw [List.map_append, List.map_reverse] <;> rfl) (lv_room (by rw [m_cats]; exact hrm)) hd hf
  exact AW.tail hrun hA hS hL hlv hrest kk
end AWcallA
theorem CTA.of {K : KTy} {y : MethodName} {own : String} {ws ws' : List Cond} {d mc ms : Nat} {β : Nat → Nat → Bool} {av : List Value} {μ : Mu} {Qr : QA} {cc : ByteArray} {maxL : Nat} {ret : Option FieldType} (hy : plainName y.cls = true) (ho : y.cls = own) (hw : ws = Cond.code y cc maxL ret :: ws') (hnl : (lg_sl av).length ≤ maxL)
    (body : ∀ (G : GTy) (ad : Nat → Nat) (N : Nat), kOf G ad N = K → Cx G maxL cc own ws' → gA G → G.2.2.2.2.2.2.2.1.name = y.name →
      (∀ (pc : Nat) (lv : List (Nat × Value)) (cells slots : Nat) (ad2 : Nat → Nat) (N2 : Nat) (β2 : Nat → Nat → Bool) (v : Option Value) (μ2 : Mu), cells ≤ mc → slots ≤ ms → (∀ k, k < N → ad2 k = ad k) → ((ret = none ∧ v = none ∧ decode cc pc = .ok (.return_, 1)) ∨ (∃ x : Int32, v = some (.int x) ∧ decode cc pc = .ok (.ireturn, 1) ∧ ret = some .int)) → Qr v μ2 β2 N2 → AW G (rmA d mc ms) maxL (cells, slots, ad2, N2, β2) pc lv v.toList μ2) →
      AW G (rmA d mc ms) maxL (0, 0, ad, N, β) 0 (lv_args 0 av) [] μ) : CTA K y ws d mc ms β av μ Qr := by
  obtain ⟨l, D, cA, sa, A, ad, N⟩ := K
  refine Met.ofW (cc := cc) (maxL := maxL) (ret := ret) hy hw ?_
  intro p e s m args below meth c s₁ B hml hv
  obtain ⟨rfl, hM, hK, hSt, hA1, hA2, hA0⟩ := hv
  have hx := B.exec
  have hb := B.bytes
  have hr := B.returns
  have hts : ∀ w ∈ ws', w.before (av.map (m_cv ad)).toArray s = true := fun w h => atoms_spec (ws := ws) B.pre w (by rw [hw]; exact List.mem_cons_of_mem _ h)
  have hown : s.vm.findClass own = some m.cls := by rw [← ho]; exact findClass_of_methodNamed B.named
  have hlocks := B.notSynchronized
  have hname : meth.name = y.name := (name_of_methodNamed B.named B.method).1
  have hl := lv_entry (av.map (m_cv ad)) (n := maxL) (by rw [lg_sl_m]; exact hnl)
  rw [lv_args_m] at hl
  rw [lg_entry_eq]
  have key := body (p, l, e, s, m, (av.map (m_cv ad)).toArray, below, meth, c, MQ below (CTAq (l, D, cA, sa, A, ad, N) Qr) (av.map (m_cv ad)).toArray s mc ms A, D, cA, sa, A) ad N rfl ⟨hx, hb, hml, hown, hts, hK, hSt, hlocks⟩ hA0 hname ?_
  · exact key s.heap [] _ hM ⟨hA1, hA2⟩ va_S.rf hl
  · intro pc lv cells slots ad2 N2 β2 v μ2 hc hs had hcase hq H locs L hM2 hA hS hL
    refine W_wide hc hs ?_
    have hend : ∀ (o : Option Value), o = v.map (m_cv ad2) → ∀ t : State, t.heap = H → s.WarmedH t.vm → CTAq (l, D, cA, sa, A, ad, N) Qr (av.map (m_cv ad)).toArray s (.returned o) t := fun o ho t ht _ => ⟨⟨v, μ2, β2, ad2, N2, by rw [ho], hq, by rw [ht]; exact hM2, had, hA.1, hA.2⟩, hS.F ht⟩
    rcases hcase with ⟨h1, rfl, h2⟩ | ⟨x, rfl, h2, h3⟩
    · exact W.vret hx hb (hr.trans h1) (hend none rfl) hS.2.2 h2
    · exact W.iret hx hb (hr.trans h3) (hend _ rfl) hS.2.2 h2
theorem CTA.void {K : KTy} {y : MethodName} {own : String} {ws ws' : List Cond} {d mc ms : Nat} {β : Nat → Nat → Bool} {av : List Value} {μ : Mu} {Qr : QA} {cc : ByteArray} {maxL : Nat} (hy : plainName y.cls = true) (ho : y.cls = own) (hw : ws = Cond.code y cc maxL none :: ws') (hnl : (lg_sl av).length ≤ maxL)
    (body : ∀ (G : GTy) (ad : Nat → Nat) (N : Nat), kOf G ad N = K → Cx G maxL cc own ws' → gA G → G.2.2.2.2.2.2.2.1.name = y.name →
      (∀ (pc : Nat) (lv : List (Nat × Value)) (cells slots : Nat) (ad2 : Nat → Nat) (N2 : Nat) (β2 : Nat → Nat → Bool) (μ2 : Mu), decode cc pc = .ok (.return_, 1) → cells ≤ mc → slots ≤ ms → (∀ k, k < N → ad2 k = ad k) → Qr none μ2 β2 N2 → AW G (rmA d mc ms) maxL (cells, slots, ad2, N2, β2) pc lv [] μ2) →
      AW G (rmA d mc ms) maxL (0, 0, ad, N, β) 0 (lv_args 0 av) [] μ) : CTA K y ws d mc ms β av μ Qr :=
  CTA.of hy ho hw hnl (fun G ad N hK X hA0 hn hret => body G ad N hK X hA0 hn (fun pc lv cells slots ad2 N2 β2 μ2 hd hc hs had hq => hret pc lv cells slots ad2 N2 β2 none μ2 hc hs had (Or.inl ⟨rfl, rfl, hd⟩) hq))
theorem CTA.int {K : KTy} {y : MethodName} {own : String} {ws ws' : List Cond} {d mc ms : Nat} {β : Nat → Nat → Bool} {av : List Value} {μ : Mu} {Qr : QA} {cc : ByteArray} {maxL : Nat} (hy : plainName y.cls = true) (ho : y.cls = own) (hw : ws = Cond.code y cc maxL (some .int) :: ws') (hnl : (lg_sl av).length ≤ maxL)
    (body : ∀ (G : GTy) (ad : Nat → Nat) (N : Nat), kOf G ad N = K → Cx G maxL cc own ws' → gA G → G.2.2.2.2.2.2.2.1.name = y.name →
      (∀ (pc : Nat) (lv : List (Nat × Value)) (cells slots : Nat) (ad2 : Nat → Nat) (N2 : Nat) (β2 : Nat → Nat → Bool) (x : Int32) (μ2 : Mu), decode cc pc = .ok (.ireturn, 1) → cells ≤ mc → slots ≤ ms → (∀ k, k < N → ad2 k = ad k) → Qr (some (.int x)) μ2 β2 N2 → AW G (rmA d mc ms) maxL (cells, slots, ad2, N2, β2) pc lv [.int x] μ2) →
      AW G (rmA d mc ms) maxL (0, 0, ad, N, β) 0 (lv_args 0 av) [] μ) : CTA K y ws d mc ms β av μ Qr :=
  CTA.of hy ho hw hnl (fun G ad N hK X hA0 hn hret => body G ad N hK X hA0 hn (fun pc lv cells slots ad2 N2 β2 x μ2 hd hc hs had hq => hret pc lv cells slots ad2 N2 β2 (some (.int x)) μ2 hc hs had (Or.inr ⟨x, rfl, hd, rfl⟩) hq))
