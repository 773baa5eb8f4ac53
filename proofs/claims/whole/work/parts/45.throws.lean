/-! 'throw new NoSuchElementException(text)' of the class: its constructor's chain, the throw, the catch (launches without stack traces) -/
def xN : String := "java/util/NoSuchElementException"
def xup : List String := ["java/lang/RuntimeException", "java/lang/Exception"]
def xAt : List Cond := Bundle.ownAtomsX "RetentionRows" 146 xN 13 prog_14_method_4_code xup
theorem x_six0 : decode prog_14_method_4_code 0 = .ok (.aload_n 0, 1) := by decide +kernel
theorem x_six1 : decode prog_14_method_4_code 1 = .ok (.aload_n 1, 1) := by decide +kernel
theorem x_six2 : decode prog_14_method_4_code 2 = .ok (.invokespecial 13, 3) := by decide +kernel
theorem x_six5 : decode prog_14_method_4_code 5 = .ok (.return_, 1) := by decide +kernel
section XC
variable {p : Program} {l : Launch} {e : Env} {R : Room} {s : State} {m : MethodId} {args : Array Value} {below : List Frame} {meth : Method} {c : Code} {V : State} {locs : List Loc} {cells slots : Nat}
set_option maxHeartbeats 4000000 in
/-- the constructor over a fresh cell, then athrow, nobody here catching it -/
theorem x_ctor (X : Stand p l e R s m args below meth c V locs cells slots) (hexec : p.tables.exec = Jvm.exec) (htr : e.platform.stackTraces = false) (hown : s.vm.findClass "RetentionRows" = some m.cls) (h : ∀ a ∈ xAt, a.before args s = true)
    (hlocs : ∀ x ∈ locs, ∀ cell, s.heap[x.base]? = some cell → cell.vm.isStatics = false) {a : Addr} {cX : ClassId} {kX : Class} (hfX : s.vm.findClass xN = some cX) (hkX : s.vm.classes[cX]? = some kX) (hcell : V.heap[a]? = some (freshCell cX kX)) (hnew : s.heap.size ≤ a)
    {msg : Value} (hmsg : msg.isRef = true) {g : JFrame} (hg : g.method = m) (hsize : g.locals.size = c.maxLocals) (hlk : g.locked = none) (hent : g.entered = []) {rest : List Value} (hst : g.stack = msg :: .ref a :: .ref a :: rest)
    (d6 : decode c.code g.pc = .ok (.invokespecial 146, 3)) (d9 : decode c.code (g.pc + 3) = .ok (.athrow, 1)) (hout : ∀ x ∈ c.exceptionTable.toList, covers x (g.pc + 3) = false)
    (hRf : 5 < R.frames) (hRl : 2 * g.monitorRoom + ((Value.ref a :: rest).map fun v => v.category).sum + 81 ≤ R.locals) (hlocks : meth.locks = false) :
    ∃ U : State, Steps p.tables e below (V.setTop g) U ∧ U.status = .running ∧ Ended U below (.threw a) ∧ s.WarmedH U.vm ∧ s.sameButNew ({ U with vm := s.vm } : State) locs cells slots ∧ (∀ y, y ≠ a → U.heap[y]? = V.heap[y]?) ∧ V.heap.size ≤ U.heap.size ∧ ∃ ce, U.heap[a]? = some ce ∧ ce.cls = cX ∧ ce.vm = .none := by
  have hpl : e.platform.magicAccessors = ({} : Platform).magicAccessors := by rw [X.admits.platform]
  have q : ∀ x, x ∈ xAt → x.holds args s none s [] = true := fun x hx => h x hx
  obtain ⟨T, Z0, LT, -, Y⟩ := ThrowableC.of_atoms (args := args) (by rw [X.admits.platform]) (by rw [X.admits.platform]) hpl (fun x hx => h x (by simp [xAt, Bundle.ownAtomsX, hx]))
  obtain ⟨Z, Mm, LZ, LM, hnZ⟩ := Init0T.ofS_atoms (args := args) hpl LT Y (fun x hx => h x (by simp [xAt, Bundle.ownAtomsX, hx]))
  obtain ⟨P1, Ps, hlen, L1, hL, hP1, hk1, hk2⟩ := Bundle.chainSX (args := args) hpl hnZ x_six0 x_six1 x_six2 x_six5 xup xN (by decide) (by decide) (fun x hx => h x (by simp [xAt, Bundle.ownAtomsX, hx]))
  have hf1 : s.vm.findClass xN = some P1.m.cls := findClass_of_methodNamed hP1
  cases Option.some.inj (hfX.symm.trans hf1)
  have sel : ∀ (y : MethodName) (n : MethodId), Cond.selects xN y y ∈ xAt → s.methodNamed? y = some n → (y.cls ≠ "java/lang/invoke/MethodHandle" ∧ y.cls ≠ "java/lang/invoke/VarHandle") → selectMethod e.platform s.vm P1.m.cls n = .method n := by
    intro y n hy hn hne
    obtain ⟨c2, r2, m2, g1, g2, g3, g4, -⟩ := Cond.selects_spec (q _ hy)
    cases Option.some.inj (g1.symm.trans hf1)
    cases Option.some.inj (g2.symm.trans (State.methodFound?_of_named hn hne))
    cases Option.some.inj (g3.symm.trans hn)
    rw [Launch.admits_selectMethod X.admits]; exact g4
  obtain ⟨c1, k1, hc1, hkk, hord, -, -, hn6⟩ := Cond.instantiable_spec (q (.instantiable xN 6) (by decide +kernel))
  cases Option.some.inj (hc1.symm.trans hf1)
  cases Option.some.inj (hkX.symm.trans hkk)
  obtain ⟨cS, hcS, hiS⟩ := Y.statics
  obtain ⟨u0, hu0⟩ := Cond.staticRefV Y.unassigned LT.unassignedStatic LT.statics hcS hiS (q (.isRef (.static Bundle.tN "UNASSIGNED_STACK" Bundle.steD)) (by decide +kernel))
  obtain ⟨sen, hsen⟩ := Cond.staticRefV Y.sentinel LT.sentinelStatic LT.statics hcS hiS (q (.isRef (.static Bundle.tN "SUPPRESSED_SENTINEL" Bundle.listD)) (by decide +kernel))
  obtain ⟨ci9, i9, fB, b1, b2, b3, b4, -, b6, b7, b8⟩ := Cond.ownField (t := .object "java/lang/Object") Y.found LT.cls (by decide +kernel) (q (.fieldLink Bundle.tN 198 Bundle.tN "backtrace" "Ljava/lang/Object;") (by decide +kernel)) (q (.lays Bundle.tN Bundle.tN "backtrace" "Ljava/lang/Object;") (by decide +kernel)) e.platform hpl
  obtain ⟨cS2, hcS2, hS2v, -, hS2k⟩ := X.same.2.2.2.2.2 T.aS cS hcS
  have hcS3 : V.heap[T.aS]? = some cS2 := hcS2
  have hno : ∀ i, (⟨T.aS, i⟩ : Loc) ∉ locs := fun i hm => by
    have := hlocs _ hm cS hcS
    rw [hiS] at this; cases this
  have hkn : cS2.vm ≠ .unknown := by
    rw [hS2v]; intro hu
    rw [show cS.vm = .unknown from hu] at hiS
    cases hiS
  have hne : T.aS ≠ a := Nat.ne_of_lt (Nat.lt_of_lt_of_le (Array.getElem?_eq_some_iff.mp hcS).1 hnew)
  obtain ⟨iM, hfM⟩ := Y.msg
  obtain ⟨tC, dC, eC, nC⟩ := Cond.laysAt hf1 hkk Y.cause (q (.lays xN Bundle.tN "cause" "Ljava/lang/Throwable;") (by decide +kernel))
  obtain ⟨tS, dS, eS, nS⟩ := Cond.laysAt hf1 hkk Y.stack (q (.lays xN Bundle.tN "stackTrace" Bundle.steD) (by decide +kernel))
  obtain ⟨tP, dP, eP, nP⟩ := Cond.laysAt hf1 hkk Y.supp (q (.lays xN Bundle.tN "suppressedExceptions" Bundle.listD) (by decide +kernel))
  obtain ⟨tM, dM, eM, nM⟩ := Cond.laysAt hf1 hkk hfM (q (.lays xN Bundle.tN "detailMessage" "Ljava/lang/String;") (by decide +kernel))
  obtain ⟨tB, dB, eB, nB⟩ := Cond.laysAt hf1 hkk b8 (q (.lays xN Bundle.tN "backtrace" "Ljava/lang/Object;") (by decide +kernel))
  have sC := Cond.laysApart eB eC nB nC (by rw [b6, Y.causeName]; decide)
  have sS := Cond.laysApart eB eS nB nS (by rw [b6, Y.stackName]; decide)
  have sP := Cond.laysApart eB eP nB nP (by rw [b6, Y.suppName]; decide)
  have hskip : SkipFacts T e.platform s (fun u => u) u0 ((preparedCellV T.toThrowableT (freshCell P1.m.cls kX) a u0 sen).withEntry V.cur) := by
    refine ⟨{ ci198 := ci9, i198 := i9, fBack := fB }, ⟨b1, b2, b3, b4⟩, ?_, fun _ _ => rfl⟩
    have fd := fresh_default (c := P1.m.cls) tB
    rw [b7] at fd
    simpa [preparedCellV, Cell.setSlot, Cell.withEntry, Array.getElem?_setIfInBounds, sC, sS, sP, sC.symm, sS.symm, sP.symm, defaultValue] using fd
  obtain ⟨tm, mC, cC, kC, vm1, hnC, -, -, -, -, -, -, -, hW1, go1⟩ := Steps.initColdS (tb := p.tables) (e := e) (below := below) (s := s) (U := V) X.here hexec X.warmed hpl hown (t := Bundle.initS xN) rfl rfl (by decide)
    (q (.methodLink "RetentionRows" 146 (Bundle.initS xN)) (by decide +kernel)) (h (.instanceMethod (Bundle.initS xN)) (by decide +kernel)) (bytes := prog_14_method_4_code) (maxL := 2) (h (.code (Bundle.initS xN) prog_14_method_4_code 2 none) (by decide +kernel)) (f := g) hg (a := a) (msg := msg) (rest := .ref a :: rest) hst d6
  cases Option.some.inj (hnC.symm.trans hP1)
  have X1 := X.noted hW1
  obtain ⟨vm2, X2, go2⟩ := X1.ctorMessageOffV hexec (g := { g with stack := .ref a :: rest }) hg hsize T LT Z LZ Mm LM (P1 :: Ps)
    (fun P hP => by rcases List.mem_cons.mp hP with rfl | hP; exact L1; exact hL P hP) ⟨hk1, hk2⟩ (u0 := u0) (sen := sen) (self := a) hmsg (cell := freshCell P1.m.cls kX) (cellS := cS2)
    hcell (fun _ => by simp) (by simp) rfl rfl (sel _ _ (by decide +kernel) Y.fill0 (by decide)) (sel _ _ (by decide +kernel) Y.fill (by decide)) hcS3 hne hkn (by rw [hS2k _ (hno _)]; exact hu0) (by rw [hS2k _ (hno _)]; exact hsen)
    (Takes.of_laid hkk hord tC (by rw [Y.causeType]; rfl)) (Takes.of_laid hkk hord tS (by rw [Y.stackType]; exact fits_refV_array _ u0)) (Takes.of_laid hkk hord tP (by rw [Y.suppType]; exact fits_refV_object _ sen))
    (Takes.of_laid hkk hord tM (by rw [Y.msgType]; exact fits_refV_object _ ⟨msg, hmsg⟩)) Y.objLocals hskip htr [] d6
    (by simp only [List.length_cons, hlen]; show 2 + 1 + 2 < R.frames; omega) (by simp only [List.length_cons, hlen]; show _ + (13 * (2 + 1) + 42) ≤ R.locals; exact hRl)
  obtain ⟨w1, w2, w3, w4, w5⟩ := X2.athrowLeaves hexec (g := { g with stack := .ref a :: rest, pc := g.pc + 3 }) hg hlk hent hout (a := a) (rest := rest) rfl d9
  refine ⟨_, go1 _ (fun acts => ?_), w2, w3, w4, w5.weaken (fun y hy hlt => ?_) (Nat.le_refl _) (Nat.le_refl _), fun y hy => heapAt_setCell_ne (s := (V.setVm vm1).setVm vm2) _ (Ne.symm hy), Nat.le_of_eq (Array.size_setIfInBounds ..).symm, plainBareV T.toThrowableT (freshCell P1.m.cls kX) a u0 sen msg, heapAt_setCell_self (s := (V.setVm vm1).setVm vm2) _ (Array.getElem?_eq_some_iff.mp hcell).1, rfl, rfl⟩
  · rw [doInvoke_state]
    exact go2 _ w1
  · rcases List.mem_append.mp hy with h1 | h1
    · exact h1
    · have hb : y.base = a := by
        simp only [List.mem_cons, List.not_mem_nil, or_false] at h1
        rcases h1 with rfl | rfl | rfl | rfl | rfl <;> rfl
      rw [hb] at hlt
      exact absurd hlt (Nat.not_lt.mpr hnew)
end XC
