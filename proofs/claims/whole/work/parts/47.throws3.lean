theorem Mem.ad {D : va_G} {cA : Nat → ClassId} {ad ad2 : Nat → Nat} {N : Nat} {β : Nat → Nat → Bool} {μ : Mu} {H : Heap} (h : Mem D cA ad N β μ H) (e : ∀ k, k < N → ad2 k = ad k) : Mem D cA ad2 N β μ H := by
  refine ⟨fun k q hk => ?_, fun j k hj hk q => h.2.1 j k hj hk (by rw [← e j hj, ← e k hk]; exact q), h.2.2⟩
  obtain ⟨h1, rfl⟩ := m_ws_get hk
  rw [e k h1, m_pic_ad h.2.2 h1 e]
  exact h.1 k _ (m_ws_at h1)
section AWx
variable {G : GTy} {R : Room} {nL cells slots : Nat} {ad : Nat → Nat} {N : Nat} {pc : Nat} {lv : List (Nat × Value)} {st : List Value} {μ : Mu} {cc : ByteArray} {own : String} {Ts : List Cond}
set_option maxHeartbeats 4000000 in
/-- a call that throws, caught by the only row of the method's table -/
theorem AW.callX (X : Cx G nL cc own Ts) (hA0 : gA G) {y : MethodName} {ws ws' : List Cond} {bytes : ByteArray} {maxL d index nA : Nat} {ret : Option FieldType} {b ci nF : Nat} {C : String} {T : u_T} (As rest : List Value) (hC : CX (kOf G ad N) y ws d (.ref b :: As) μ) (hT : GoodIn Ts (wsV own index C y ws)) (hw : ws = Cond.code y bytes maxL ret :: ws') (hdd : y.cls = C ∧ y.cls ≠ "java/lang/invoke/MethodHandle" ∧ y.cls ≠ "java/lang/invoke/VarHandle" ∧ (parseMethodDescriptor y.desc).map (fun d => d.parameters.length) = some nA) (hnA : As.length = nA) (hbN : b < N) (hs : sh b = .inl ci) (hc : vwCl[ci]? = some (C, T, nF)) (hR : d + 1 ≤ R.frames ∧ 8 + (maxL + 11) + 28 * d ≤ R.locals) (hf : cells + 1 ≤ R.cells ∧ slots + 6 ≤ R.slots) (hrm : (rest.map fun v => v.category).sum ≤ 8) (hlv : ∀ q ∈ lv, m_ok N q.2) (hN : N < SB) (hd : decode cc pc = .ok (.invokevirtual index, 3)) (hst : st = As.reverse ++ .ref b :: rest)
    {x : ExceptionTableEntry} (htab : G.2.2.2.2.2.2.2.2.1.exceptionTable.toList = [x]) (hcov : covers x pc = true) (hct : x.catchType ≠ 0) (hlk2 : Cond.classLink own x.catchType xN ∈ Ts) (kk : ∀ q : Nat, AW G R nL (cells + 1, slots + 6, va_up ad N q, N, fb) x.handlerPc lv [.ref N] μ) : AW G R nL (cells, slots, ad, N, fb) pc lv st μ := by
  obtain ⟨p, l, e, s, m, args, below, meth, c, Q, D, cA, sa, A⟩ := G
  obtain ⟨hx, hb, hml, hown, hts, hK, hSt, hlk⟩ := X
  subst hst
  intro H locs L hM hA hS hL T0 hT0 X
  have cw : CallW R s args own C index y bytes maxL ret ws (rmA d 1 6) 1 6 nA := cwV nA hts hT hw rfl rfl hdd hR
  obtain ⟨⟨-, -, hfr, hlo, hws, hcw, hcode, hini, hy, hlen, hl⟩, hin, hse⟩ := cw
  obtain ⟨cellB, hcB, hoB, hclB⟩ := va_recv hK hM.1 hc (m_ws_at hbN |>.trans (by rw [m_pic_obj hs]))
  obtain ⟨mk, methM, hnamed, hmethM, hstM, habM⟩ := Cond.instanceMethod_spec hin
  obtain ⟨methM2, cM, hmethM2, hcM, -, hlM, -, -, -, hsigM⟩ := Cond.code_spec hnamed hcode
  cases hmethM.symm.trans hmethM2
  obtain ⟨c2, r2, m2, q1, q2, q3, q4, kP, hkP, hkPi⟩ := Cond.selects_spec hse
  cases hclB.symm.trans q1
  cases (State.methodFound?_of_named hnamed hy).symm.trans q2
  cases hnamed.symm.trans q3
  have hselP : selectMethod e.platform s.vm cellB.cls mk = .method mk := by rw [Launch.admits_selectMethod X.admits]; exact q4
  have hlenA : (As.map (m_cv ad)).length = methM.sig.parameters.length := by rw [List.length_map, hnA]; exact hlen _ hsigM
  obtain ⟨vm1, X1, go1⟩ := X.invokevirtual hx hown hl hnamed hmethM hstM hkP hkPi hy (a := ad b) (cell := cellB) (by rw [hT0]; exact hcB) (fun z h => by rw [h] at hoB; cases hoB) hselP hmethM habM hkP hkPi (g := F0 m pc L ((As.reverse ++ .ref b :: rest).map (m_cv ad))) rfl (argsL := As.map (m_cv ad)) (rest := rest.map (m_cv ad)) hlenA (by rw [show (F0 m pc L ((As.reverse ++ .ref b :: rest).map (m_cv ad))).stack = (As.reverse ++ .ref b :: rest).map (m_cv ad) from rfl, List.map_append, List.map_reverse]; rfl) (by rw [hb]; exact hd)
  have hdg : decode c.code pc = .ok (.invokevirtual index, 3) := by rw [hb]; exact hd
  generalize hU : T0.setVm vm1 = U at X1 go1
  have hUh : U.heap = H := by rw [← hU]; exact hT0
  let g : JFrame := F0 m pc L (rest.map (m_cv ad))
  let a : Array Value := (Value.ref (ad b) :: As.map (m_cv ad)).toArray
  have h : At U g.method c below := X1.here
  have hn : U.methodNamed? y = some mk := X1.named hnamed
  obtain ⟨methY, cY, hmY, hcY, -, hlY, -, -, -, -⟩ := Cond.code_spec hn (hws _ hcw a U X1.warmed)
  obtain ⟨kY, hkY, -⟩ := className_of_methodNamed hn
  have hinitY : kY.init = .initialized := Cond.initialized_spec (findClass_of_methodNamed hn) hkY (word_at (a' := a) X1.warmed (Or.inl (by first | rfl | simp [Cond.onTables, Cond.keeps, Cond.steady])) hini)
  have happ : (headSpec ws (rmA d 1 6)).appliesLoose y e.platform (U.calling g mk a) = true :=
    Spec.appliesLoose_calling (g := g) h hdg hn hkY hinitY
      (X1.room_calling (g := g) (R' := (headSpec ws (rmA d 1 6)).room) (by rw [hml]; exact hL.1) hmY hcY hfr (by rw [hlY]; show 2 * 0 + ((rest.map (m_cv ad)).map fun v => v.category).sum + (maxL + 11) + 28 * d ≤ R.locals; rw [m_cats]; omega) hf.1 hf.2) (atoms_intro fun w hw => hws w hw _ _ X1.warmed)
  obtain ⟨mid, hmid⟩ := h.above
  have hfrm : (U.setTop g).frames = (.java g :: mid) ++ below := by rw [State.frames_setTop' g h.top, hmid]; rfl
  obtain ⟨o, s2, hsteps, -, hend, hq⟩ := Steps.callFree hC p X1.admits X1.cas X1.clock (acts := []) hfrm happ (CTAp.blind _ _ _ _ _ _ _ _ (CTAp.pre (.ref b :: As) hM hK hSt hA hA0 hS U hUh X1.warmed)) trivial
  rw [State.frames_setTop' g h.top] at hend
  have hq2 : CXq (l, D, cA, sa, A, ad, N) μ a (U.calling g mk a) o s2 := hq
  obtain ⟨q, ce, Lx, rfl, ⟨hce, hcv, hcl⟩, hW2, hsame, hLx, hMt, hF⟩ := hq2
  obtain ⟨g0, hg0⟩ := Option.isSome_iff_exists.mp h.top
  obtain ⟨r, hr⟩ := State.topJava?_eq_some.mp hg0
  have hW3 : U.WarmedH s2.vm := hW2
  obtain ⟨e2, f2, f3, f4, f5, f6⟩ := id hsame
  have e3 : s2 = ({ (U.calling g mk a).setFrames s2.frames with heap := s2.heap, slotsUsed := s2.slotsUsed } : State).setVm s2.vm := by
    have : s2 = ({ s2 with vm := (U.calling g mk a).vm } : State).setVm s2.vm := rfl
    rw [e2] at this
    exact this
  have hfs : s2.frames = .throwing q :: .java g :: U.frames.tail := hend
  let V : State := ({ U with heap := s2.heap, slotsUsed := s2.slotsUsed } : State).setVm s2.vm
  have hVr : V.frames = .java g0 :: r := hr
  have hs2 : s2 = (V.setTop g).pushFrame (.throwing q) := by
    refine e3.trans ?_
    rw [hfs, State.calling_eq h.top, State.setFrames_setFrames, State.pushFrame, State.frames_setTop _ hVr, State.setTop_of_frames _ hVr, State.setFrames_setFrames, hr]
    rfl
  have hsm : U.sameButNew ({ U with heap := s2.heap, slotsUsed := s2.slotsUsed } : State) Lx 1 6 := by
    refine ⟨?_, f2, f3, f4, f5, f6⟩
    obtain ⟨t, ht, -⟩ := State.frames_cons hr
    show ({ U with heap := s2.heap, slotsUsed := s2.slotsUsed } : State) = { U.setFrames U.frames with heap := s2.heap, slotsUsed := s2.slotsUsed }
    rw [State.setFrames_self ht]
  have XV : Stand p l e R s m args below meth c V (locs ++ Lx) (cells + 1) (slots + 6) :=
    ⟨X1.admits, X1.cas, X1.clock, X1.frames, X1.room, X1.hears, X1.method, X1.code, (X1.here.setHeapUsed s2.heap s2.slotsUsed).setVm hW3.alike, X1.tail, State.WarmedH.trans X1.warmed hW3, X1.limits, X1.bytes, X1.same.trans (hsm.setVm s.vm)⟩
  have hcls : s.vm.findClass xN = some ce.cls := by
    have h9 : U.vm.findClass xN = some ce.cls := hcl
    rw [X1.warmed.alike.findClass] at h9
    exact h9
  have hpl : e.platform.magicAccessors = ({} : Platform).magicAccessors := by rw [X.admits.platform]
  obtain ⟨c5, hc5, hl5⟩ := Cond.classLink_spec hown (hts _ hlk2) e.platform hpl
  cases Option.some.inj (hc5.symm.trans hcls)
  obtain ⟨vm2, X2, go2⟩ := XV.thenCaughtThrough q (g := g) rfl (Steps.refl _) (show s2.heap[q]? = some ce from hce) (by rw [hcv]; rfl) (by obtain ⟨k9, h9, -⟩ := Vm.findClass_spec hcls; exact ⟨k9, h9⟩) [] x [] htab (fun z hz => nomatch hz) hcov (Or.inr ⟨hct, _, hl5, va_asg _ _⟩)
  have had : ∀ k, k < N → va_up ad N q k = ad k := fun k hk => va_up_ne _ _ (by omega)
  have hsa : ∀ i, va_up ad N q (SB + i) = sa i := fun i => by rw [va_up_ne _ _ (by omega)]; exact hA.2 i
  have hz := hF.1
  have hk2 := hF.2
  rw [show (U.calling g mk a).heap = H from hUh] at hz hk2
  have hS3 : va_S A s.heap s2.heap (locs ++ Lx) := ⟨Nat.le_trans hS.1 hz, fun z h1 h2 => by rw [hk2 z (Nat.lt_of_lt_of_le h1 hS.1) h2]; exact hS.2.1 z h1 h2, fun z hz => by
    rcases List.mem_append.mp hz with h | h
    · exact hS.2.2 z h
    · exact hLx z h⟩
  have fin := kk q s2.heap (locs ++ Lx) L (hMt.ad had) ⟨fun k hk => by rw [had k hk]; exact hA.1 k hk, hsa⟩ hS3 (by rw [m_lv_ok hlv had hA.2 hsa]; exact hL) (V.setVm vm2) rfl X2
  obtain ⟨t, a1, b1⟩ := fin
  refine ⟨t, go1 t (fun acts => ?_), b1⟩
  rw [doInvoke_state]
  refine hsteps.trans ?_
  rw [hs2]
  refine go2.trans ?_
  have e9 : (F0 m x.handlerPc L ([Value.ref N].map (m_cv (va_up ad N q)))) = { method := g.method, pc := x.handlerPc, locals := g.locals, stack := [Value.ref q], locked := g.locked, entered := g.entered, monitorRoom := g.monitorRoom } := by
    show F0 m x.handlerPc L [Value.ref (va_up ad N q N)] = _
    rw [va_up_self]
  rw [e9] at a1
  exact a1
/-- a static call of a method with a table -/
theorem AW.callSW {β : Nat → Nat → Bool} (X : Cx G nL cc own Ts) (hA0 : gA G) {y : MethodName} {ws ws' : List Cond} {bytes : ByteArray} {maxL d index nA mc ms : Nat} {ret : Option FieldType} {hh : List (Nat × Nat × Nat × Nat)} (As rest : List Value) {Qr : QA} (hC : CTA (kOf G ad N) y ws d mc ms β As μ Qr) (hT : GoodIn Ts (va_wsS own index y ws)) (hw : ws = Cond.codeWith y bytes maxL ret hh :: ws') (hdd : y.cls ≠ "java/lang/invoke/MethodHandle" ∧ y.cls ≠ "java/lang/invoke/VarHandle" ∧ (parseMethodDescriptor y.desc).map (fun d => d.parameters.length) = some nA) (hnA : As.length = nA) (hR : d + 1 ≤ R.frames ∧ 8 + (maxL + 11) + 28 * d ≤ R.locals) (hf : cells + mc ≤ R.cells ∧ slots + ms ≤ R.slots) (hrm : (rest.map fun v => v.category).sum ≤ 8) (hlv : ∀ q ∈ lv, m_ok N q.2) (hrest : ∀ v ∈ rest, m_ok N v) (hd : decode cc pc = .ok (.invokestatic index, 3)) (hst : st = As.reverse ++ rest)
    (kk : ∀ (v : Option Value) (μ2 : Mu) (β2 : Nat → Nat → Bool) (ad2 : Nat → Nat) (N2 : Nat), Qr v μ2 β2 N2 → (∀ k, k < N → ad2 k = ad k) → AW G R nL (cells + mc, slots + ms, ad2, N2, β2) (pc + 3) lv (v.toList ++ rest) μ2) : AW G R nL (cells, slots, ad, N, β) pc lv st μ := by
  obtain ⟨p, l, e, s, m, args, below, meth, c, Q, D, cA, sa, A⟩ := G
  obtain ⟨hx, hb, hml, hown, hts, hK, hSt, hlk⟩ := X
  subst hst
  intro H locs L hM hA hS hL
  have ok : ∀ w ∈ va_wsS own index y ws, w.before args s = true := fun w h => hts w (hT w h).1
  have hG : GoodIn Ts ws := fun w h => hT w (by unfold va_wsS; exact List.mem_append_right _ h)
  have hcw : Cond.codeWith y bytes maxL ret hh ∈ ws := by rw [hw]; exact List.mem_cons_self
  have hcode : (Cond.codeWith y bytes maxL ret hh).before args s = true := hts _ (hG _ hcw).1
  have hini : (Cond.initialized y.cls).before args s = true := ok _ (by simp [va_wsS])
  have hstat : (Cond.static y).before args s = true := ok _ (by simp [va_wsS])
  have hlink : (Cond.methodLink own index y).before args s = true := ok _ (by simp [va_wsS])
  have hBk : Back l R p e below s args y 3 8 (PreOf R mc ms (CTAp (l, D, cA, sa, A, ad, N) β As μ)) (PostOf (CTAq (l, D, cA, sa, A, ad, N) Qr) mc ms A) :=
    va_backW (hh := hh) (bytes := bytes) (maxL := maxL) (ret := ret) hC (CTAp.blind _ _ _ _) rfl rfl hR.1 hR.2 (pay_in hts hG) hcw (fun a' U hW => word_at hW (Or.inl (by first | rfl | simp [Cond.onTables, Cond.keeps, Cond.steady])) hini)
  obtain ⟨mk, methM, cM, hnamed, hmethM, -, -, -, -, -, -, hsigM⟩ := Cond.codeWith_spec hcode
  have hstatic : methM.isStatic = true := Cond.static_spec hnamed hmethM hstat
  obtain ⟨kP, hkP, -⟩ := className_of_methodNamed hnamed
  have hinitP : kP.init = .initialized := Cond.initialized_spec (findClass_of_methodNamed hnamed) hkP hini
  have hlenA : (As.map (m_cv ad)).length = methM.sig.parameters.length := by
    have h2 := hdd.2.2
    rw [hsigM] at h2
    rw [List.length_map, hnA]
    exact (Option.some.inj h2).symm
  have hrun : va_Run p l e R s m args below meth c H locs cells slots mc ms (F0 m pc L ((As.reverse ++ rest).map (m_cv ad))) (rest.map (m_cv ad)) (CTAq (l, D, cA, sa, A, ad, N) Qr (As.map (m_cv ad)).toArray) A := by
    intro T hT X
    obtain ⟨vm1, X1, go1⟩ := X.invokestatic hx hown hlink hnamed hmethM hstatic hkP hinitP ⟨hdd.1, hdd.2.1⟩ (g := F0 m pc L ((As.reverse ++ rest).map (m_cv ad))) rfl (argsL := As.map (m_cv ad)) (rest := rest.map (m_cv ad)) hlenA (by rw [show (F0 m pc L ((As.reverse ++ rest).map (m_cv ad))).stack = (As.reverse ++ rest).map (m_cv ad) from rfl, List.map_append, List.map_reverse]) (by rw [hb]; exact hd)
    obtain ⟨v, ⟨U, l2, c2, s2⟩, X2, ⟨g2, mk2, t, Lx, e1, e2, hq, h1, hLx, h2, h3⟩, go2⟩ := hBk m meth c ⟨T.setVm vm1, locs, cells, slots⟩ (F0 m pc L (rest.map (m_cv ad))) (.invokestatic index) mk (As.map (m_cv ad)).toArray X1 rfl (by rw [hml]; exact hL.1) (by rw [hb]; exact hd) (lv_room (by rw [m_cats]; exact hrm)) (X1.named hnamed) ⟨hf.1, hf.2, CTAp.pre As hM hK hSt hA hA0 hS (T.setVm vm1) hT X1.warmed⟩
    dsimp only [Pt.U, Pt.locs, Pt.cells, Pt.slots] at X2 e1 e2 h1 h2 h3 go2
    subst h1; subst h2; subst h3
    exact ⟨v, (T.setVm vm1).calling g2 mk2 (As.map (m_cv ad)).toArray, t, U, Lx, hT, X2, hLx, e1, e2, hq, fun target h => go1 _ fun acts => by rw [doInvoke_state]; exact go2.trans h⟩
  exact AW.tail hrun hA hS hL hlv hrest kk
end AWx
/-- a method with a table of one row -/
theorem CTA.ofW {K : KTy} {y : MethodName} {own : String} {ws ws' : List Cond} {d mc ms : Nat} {β : Nat → Nat → Bool} {av : List Value} {μ : Mu} {Qr : QA} {cc : ByteArray} {maxL h1 h2 h3 h4 : Nat} (hy : plainName y.cls = true) (ho : y.cls = own) (hw : ws = Cond.codeWith y cc maxL (some .int) [(h1, h2, h3, h4)] :: ws') (hnl : (lg_sl av).length ≤ maxL)
    (body : ∀ (G : GTy) (ad : Nat → Nat) (N : Nat), kOf G ad N = K → Cx G maxL cc own ws' → gA G → (∃ x, G.2.2.2.2.2.2.2.2.1.exceptionTable.toList = [x] ∧ x.startPc = h1 ∧ x.endPc = h2 ∧ x.handlerPc = h3 ∧ x.catchType = h4) →
      (∀ (pc : Nat) (lv : List (Nat × Value)) (cells slots : Nat) (ad2 : Nat → Nat) (N2 : Nat) (β2 : Nat → Nat → Bool) (x : Int32) (μ2 : Mu), decode cc pc = .ok (.ireturn, 1) → cells ≤ mc → slots ≤ ms → (∀ k, k < N → ad2 k = ad k) → Qr (some (.int x)) μ2 β2 N2 → AW G (rmA d mc ms) maxL (cells, slots, ad2, N2, β2) pc lv [.int x] μ2) →
      AW G (rmA d mc ms) maxL (0, 0, ad, N, β) 0 (lv_args 0 av) [] μ) : CTA K y ws d mc ms β av μ Qr := by
  obtain ⟨l, D, cA, sa, A, ad, N⟩ := K
  refine va_MetW (cc := cc) (maxL := maxL) (ret := some .int) (hh := [(h1, h2, h3, h4)]) hy hw ?_
  intro p e s m args below meth c s₁ B hml hv
  obtain ⟨rfl, hM, hK, hSt, hA1, hA2, hA0⟩ := hv
  have hx := B.exec
  have hb := B.bytes
  have hr := B.returns
  have hts : ∀ w ∈ ws', w.before (av.map (m_cv ad)).toArray s = true := fun w h => atoms_spec (ws := ws) B.pre w (by rw [hw]; exact List.mem_cons_of_mem _ h)
  have hown : s.vm.findClass own = some m.cls := by rw [← ho]; exact findClass_of_methodNamed B.named
  have hlocks := B.notSynchronized
  have htab : ∃ x, c.exceptionTable.toList = [x] ∧ x.startPc = h1 ∧ x.endPc = h2 ∧ x.handlerPc = h3 ∧ x.catchType = h4 := by
    obtain ⟨m9, meth9, c9, hn9, g1, g2, -, -, g6, -⟩ := Cond.codeWith_spec (atoms_spec (ws := ws) B.pre _ (by rw [hw]; exact List.mem_cons_self))
    cases Option.some.inj (hn9.symm.trans B.named)
    cases Option.some.inj (g1.symm.trans B.method)
    cases Option.some.inj (g2.symm.trans (Stand.of_body B).code)
    cases ht : c.exceptionTable.toList with
    | nil => rw [ht] at g6; cases g6
    | cons z r =>
      rw [ht] at g6
      cases r with
      | nil =>
        simp only [List.map_cons, List.map_nil, List.cons.injEq, Prod.mk.injEq, and_true] at g6
        exact ⟨z, rfl, g6.1, g6.2.1, g6.2.2.1, g6.2.2.2⟩
      | cons z2 r2 => simp at g6
  have hl := lv_entry (av.map (m_cv ad)) (n := maxL) (by rw [lg_sl_m]; exact hnl)
  rw [lv_args_m] at hl
  rw [lg_entry_eq]
  have key := body (p, l, e, s, m, (av.map (m_cv ad)).toArray, below, meth, c, MQ below (CTAq (l, D, cA, sa, A, ad, N) Qr) (av.map (m_cv ad)).toArray s mc ms A, D, cA, sa, A) ad N rfl ⟨hx, hb, hml, hown, hts, hK, hSt, hlocks⟩ hA0 htab ?_
  · exact key s.heap [] _ hM ⟨hA1, hA2⟩ va_S.rf hl
  · intro pc lv cells slots ad2 N2 β2 x μ2 hd hc hs had hq H locs L hM2 hA hS hL
    refine W_wide hc hs ?_
    exact W.iret hx hb hr (fun t ht _ => ⟨⟨some (.int x), μ2, β2, ad2, N2, rfl, hq, by rw [ht]; exact hM2, had, hA.1, hA.2⟩, hS.F ht⟩) hS.2.2 hd
