abbrev Mu : Type := Nat → Nat → Int32
def m_up (μ : Mu) (k j : Nat) (v : Int32) : Mu := fun a b => if a = k ∧ b = j then v else μ a b
theorem m_up_self (μ : Mu) (k j : Nat) (v : Int32) : m_up μ k j v k j = v := if_pos ⟨rfl, rfl⟩
theorem m_up_ne {μ : Mu} {k j a b : Nat} {v : Int32} (h : ¬ (a = k ∧ b = j)) : m_up μ k j v a b = μ a b := if_neg h
theorem m_up_row {μ : Mu} {k j a : Nat} {v : Int32} (h : a ≠ k) : m_up μ k j v a = μ a := funext fun b => if_neg (fun q => h q.1)
theorem m_up_at (μ : Mu) (k j : Nat) (v : Int32) : m_up μ k j v k = upd (μ k) j v := by
  funext b
  simp [m_up, upd]
/-- an abstract value's machine value: a code's address -/
def m_cv (ad : Nat → Nat) (v : Value) : Value := match v with
  | .ref k => .ref (ad k)
  | .int x => .int x
  | .null => .null
  | .long x => .long x
  | .float x => .float x
  | .double x => .double x
  | .retAddr x => .retAddr x
theorem m_cv_cat (ad : Nat → Nat) (v : Value) : (m_cv ad v).category = v.category := by cases v <;> rfl
/-- a reference kept as an int: 0 is null, n + 1 is the cell of code n -/
def m_ov (ad : Nat → Nat) (x : Int32) : Option Nat := if x = 0 then none else some (ad (x.toNatClampNeg - 1))
def m_rv (x : Int32) : Value := if x = 0 then .null else .ref (x.toNatClampNeg - 1)
theorem m_cv_rv (ad : Nat → Nat) (x : Int32) : m_cv ad (m_rv x) = va_rf (m_ov ad x) := by
  unfold m_rv m_ov
  by_cases h : x = 0
  · rw [if_pos h, if_pos h]; rfl
  · rw [if_neg h, if_neg h]; rfl
theorem m_rv_0 : m_rv 0 = .null := rfl
theorem m_rv_nI {n : Nat} (h : n + 1 < 2 ^ 31) : m_rv (nI (n + 1)) = .ref n := by
  unfold m_rv
  rw [if_neg (nI_ne0 (Nat.succ_pos n) h), nI_clamp h]
  rfl
def m_fld (ad : Nat → Nat) (b : Bool) (k : Nat) (f : Option Nat) (x : Int32) : Value := match f with
  | none => .int x
  | some o => if b = true then .ref (ad (k + o)) else .null
def m_fv (b : Bool) (k : Nat) (f : Option Nat) (x : Int32) : Value := match f with
  | none => .int x
  | some o => if b = true then .ref (k + o) else .null
theorem m_cv_fv (ad : Nat → Nat) (b : Bool) (k : Nat) (f : Option Nat) (x : Int32) : m_cv ad (m_fv b k f x) = m_fld ad b k f x := by
  cases f with
  | none => rfl
  | some o => cases b <;> rfl
def m_obj (ad : Nat → Nat) (b : Nat → Bool) (k : Nat) (fl : List (Option Nat)) (f : Nat → Int32) : List Value := fl.mapIdx (fun j o => m_fld ad (b j) k o (f j))
theorem m_obj_at {ad : Nat → Nat} {b : Nat → Bool} {k j : Nat} {fl : List (Option Nat)} {f : Nat → Int32} {o : Option Nat} (h : fl[j]? = some o) : (m_obj ad b k fl f)[j]? = some (m_fld ad (b j) k o (f j)) := by
  simp [m_obj, List.getElem?_mapIdx, h]
theorem m_obj_len {ad : Nat → Nat} {b : Nat → Bool} {k : Nat} {fl : List (Option Nat)} {f : Nat → Int32} : (m_obj ad b k fl f).length = fl.length := by simp [m_obj]
theorem m_obj_set {ad : Nat → Nat} {b b2 : Nat → Bool} {k j : Nat} {fl : List (Option Nat)} {f f2 : Nat → Int32} {o : Option Nat} {v : Value} (h : fl[j]? = some o) (hv : m_fld ad (b2 j) k o (f2 j) = v) (hb : ∀ i, i ≠ j → b2 i = b i) (hf : ∀ i, i ≠ j → f2 i = f i) : m_obj ad b2 k fl f2 = (m_obj ad b k fl f).set j v := by
  apply List.ext_getElem?
  intro i
  have hl : j < fl.length := (List.getElem?_eq_some_iff.mp h).1
  by_cases hi : i = j
  · subst hi
    rw [m_obj_at h, List.getElem?_set_self (by rw [m_obj_len]; exact hl), hv]
  · rw [List.getElem?_set_ne (Ne.symm hi)]
    simp only [m_obj, List.getElem?_mapIdx]
    rw [hb i hi, hf i hi]
def m_arr (ad : Nat → Nat) (kd : Nat) (f : Nat → Int32) : (Nat → Int32) ⊕ (Nat → Int64) ⊕ (Nat → UInt32) ⊕ (Nat → UInt64) ⊕ (Nat → Option Nat) := if kd = 0 then .inl f else if kd = 1 then .inr (.inl (fun j => (f j).toInt64)) else .inr (.inr (.inr (.inr (fun j => m_ov ad (f j)))))
def m_pic (cA : Nat → ClassId) (ad : Nat → Nat) (β : Nat → Nat → Bool) (μ : Mu) (k : Nat) : va_E := match sh k with
  | .inl ci => .inr (ci, m_obj ad (β k) k (fk ci) (μ k))
  | .inr q => .inl (cA q.1, q.2.1, m_arr ad q.2.2 (μ k))
theorem m_pic_obj {cA : Nat → ClassId} {ad : Nat → Nat} {β : Nat → Nat → Bool} {μ : Mu} {k ci : Nat} (h : sh k = .inl ci) : m_pic cA ad β μ k = .inr (ci, m_obj ad (β k) k (fk ci) (μ k)) := by
  unfold m_pic
  rw [h]
theorem m_pic_arr {cA : Nat → ClassId} {ad : Nat → Nat} {β : Nat → Nat → Bool} {μ : Mu} {k t n kd : Nat} (h : sh k = .inr (t, n, kd)) : m_pic cA ad β μ k = .inl (cA t, n, m_arr ad kd (μ k)) := by
  unfold m_pic
  rw [h]
theorem m_pic_congr {cA : Nat → ClassId} {ad : Nat → Nat} {β β2 : Nat → Nat → Bool} {μ μ2 : Mu} {k : Nat} (hb : β2 k = β k) (hm : μ2 k = μ k) : m_pic cA ad β2 μ2 k = m_pic cA ad β μ k := by
  unfold m_pic
  rw [hb, hm]
def m_ws (cA : Nat → ClassId) (ad : Nat → Nat) (β : Nat → Nat → Bool) (μ : Mu) (N : Nat) : va_W := (List.range N).map (fun k => (ad k, m_pic cA ad β μ k))
theorem m_ws_at {cA : Nat → ClassId} {ad : Nat → Nat} {β : Nat → Nat → Bool} {μ : Mu} {N k : Nat} (hk : k < N) : (m_ws cA ad β μ N)[k]? = some (ad k, m_pic cA ad β μ k) := by
  simp [m_ws, hk]
theorem m_ws_len {cA : Nat → ClassId} {ad : Nat → Nat} {β : Nat → Nat → Bool} {μ : Mu} {N : Nat} : (m_ws cA ad β μ N).length = N := by simp [m_ws]
theorem m_ws_get {cA : Nat → ClassId} {ad : Nat → Nat} {β : Nat → Nat → Bool} {μ : Mu} {N i : Nat} {q : Nat × va_E} (h : (m_ws cA ad β μ N)[i]? = some q) : i < N ∧ q = (ad i, m_pic cA ad β μ i) := by
  have hi : i < N := by
    have h1 := (List.getElem?_eq_some_iff.mp h).1
    rw [m_ws_len] at h1
    exact h1
  rw [m_ws_at hi] at h
  exact ⟨hi, (Option.some.inj h).symm⟩
theorem m_ws_set {cA : Nat → ClassId} {ad : Nat → Nat} {β β2 : Nat → Nat → Bool} {μ μ2 : Mu} {N k : Nat} {x : va_E} (he : m_pic cA ad β2 μ2 k = x) (ho : ∀ j, j ≠ k → m_pic cA ad β2 μ2 j = m_pic cA ad β μ j) : (m_ws cA ad β μ N).set k (ad k, x) = m_ws cA ad β2 μ2 N := by
  apply List.ext_getElem?
  intro i
  by_cases hi : i < N
  · by_cases hk : i = k
    · subst hk
      rw [List.getElem?_set_self (by rw [m_ws_len]; exact hi), m_ws_at hi, he]
    · rw [List.getElem?_set_ne (Ne.symm hk), m_ws_at hi, m_ws_at hi, ho i hk]
  · rw [List.getElem?_eq_none (by rw [List.length_set, m_ws_len]; omega), List.getElem?_eq_none (by rw [m_ws_len]; omega)]
/-- references that are kept lead to cells that are there -/
def m_wf (N : Nat) (β : Nat → Nat → Bool) (μ : Mu) : Prop := (∀ k t n, k < N → sh k = .inr (t, n, 2) → ∀ j, μ k j = 0 ∨ (μ k j).toNatClampNeg - 1 < N) ∧ ∀ k ci j o, k < N → sh k = .inl ci → (fk ci)[j]? = some (some o) → β k j = true → k + o < N
def Mem (D : va_G) (cA : Nat → ClassId) (ad : Nat → Nat) (N : Nat) (β : Nat → Nat → Bool) (μ : Mu) (H : Heap) : Prop := va_P D vwCl (m_ws cA ad β μ N) H ∧ (∀ j k, j < N → k < N → ad j = ad k → j = k) ∧ m_wf N β μ
theorem Mem.D {D : va_G} {cA : Nat → ClassId} {ad : Nat → Nat} {N : Nat} {β : Nat → Nat → Bool} {μ : Mu} {H : Heap} {A : Nat → Prop} (h : Mem D cA ad N β μ H) (hA : ∀ k, k < N → A (ad k)) : va_D A (m_ws cA ad β μ N) := by
  refine ⟨fun i j p q hi hj e => ?_, fun k q hk => ?_⟩
  · obtain ⟨h1, rfl⟩ := m_ws_get hi
    obtain ⟨h2, rfl⟩ := m_ws_get hj
    exact h.2.1 i j h1 h2 e
  · obtain ⟨h1, rfl⟩ := m_ws_get hk
    exact hA k h1
theorem Mem.congr {D : va_G} {cA : Nat → ClassId} {ad : Nat → Nat} {N : Nat} {β β2 : Nat → Nat → Bool} {μ : Mu} {H : Heap} (h : Mem D cA ad N β μ H) (hb : ∀ k, k < N → β2 k = β k) : Mem D cA ad N β2 μ H := by
  refine ⟨fun k q hk => ?_, h.2.1, h.2.2.1, fun k ci j o hk hs hf ht => h.2.2.2 k ci j o hk hs hf (by rw [← hb k hk]; exact ht)⟩
  obtain ⟨h1, rfl⟩ := m_ws_get hk
  rw [m_pic_congr (hb k h1) rfl]
  exact h.1 k _ (m_ws_at h1)
theorem Mem.kept {D : va_G} {cA : Nat → ClassId} {ad : Nat → Nat} {N : Nat} {β : Nat → Nat → Bool} {μ : Mu} {H H1 : Heap} (h : Mem D cA ad N β μ H) (hq : ∀ k, k < N → H1[ad k]? = H[ad k]?) : Mem D cA ad N β μ H1 :=
  ⟨h.1.kept (fun k q hk => by obtain ⟨h1, rfl⟩ := m_ws_get hk; exact hq k h1), h.2⟩
theorem Mem.lt {D : va_G} {cA : Nat → ClassId} {ad : Nat → Nat} {N : Nat} {β : Nat → Nat → Bool} {μ : Mu} {H : Heap} (h : Mem D cA ad N β μ H) {k : Nat} (hk : k < N) : ad k < H.size := (h.1 k _ (m_ws_at hk)).lt
/-- the classes of the arrays, by the kinds of the layout -/
def m_tys (cA : Nat → ClassId) : List (ClassId × FieldType) := m_fts.mapIdx (fun t ty => (cA t, ty))
theorem m_tys_at {cA : Nat → ClassId} {t : Nat} {ty : FieldType} (h : m_fts[t]? = some ty) : (m_tys cA)[t]? = some (cA t, ty) := by
  simp [m_tys, List.getElem?_mapIdx, h]
def m_lv (ad : Nat → Nat) (lv : List (Nat × Value)) : List (Nat × Value) := lv.map (fun q => (q.1, m_cv ad q.2))
theorem m_lv_at {ad : Nat → Nat} {lv : List (Nat × Value)} {k i : Nat} {v : Value} (h : lv[k]? = some (i, v)) : (m_lv ad lv)[k]? = some (i, m_cv ad v) := by simp [m_lv, h]
def m_st (lv : List (Nat × Value)) (i : Nat) : List (Nat × Value) := lv.filter (fun q => !(q.1 == i) && !(q.1 + 1 == i && q.2.category == 2))
theorem m_lv_st (ad : Nat → Nat) (lv : List (Nat × Value)) (i : Nat) : (m_lv ad lv).filter (fun q => !(q.1 == i) && !(q.1 + 1 == i && q.2.category == 2)) = m_lv ad (m_st lv i) := by
  unfold m_lv m_st
  rw [List.filter_map]
  congr 1
  apply List.filter_congr
  intro q _
  simp [m_cv_cat]
abbrev GTy : Type := Program × Launch × Env × State × MethodId × Array Value × List Frame × Method × Code × (State → Prop) × va_G × (Nat → ClassId) × (Nat → Nat) × (Nat → Prop)
abbrev ATy : Type := Nat × Nat × (Nat → Nat) × Nat × (Nat → Nat → Bool)
/-- the codes from SB on stand for cells that nobody writes: constants, the script -/
abbrev SB : Nat := 1000000
/-- from every machine state that the abstract state pictures, the machine comes to Q -/
def AW (G : GTy) (R : Room) (nL : Nat) (α : ATy) (pc : Nat) (lv : List (Nat × Value)) (st : List Value) (μ : Mu) : Prop := match G, α with
  | (p, l, e, s, m, args, below, meth, c, Q, D, cA, sa, A), (cells, slots, ad, N, β) => ∀ (H : Heap) (locs : List Loc) (L : Array Slot), Mem D cA ad N β μ H → ((∀ k, k < N → A (ad k)) ∧ ∀ i, ad (SB + i) = sa i) → va_S A s.heap H locs → lv_has L nL (m_lv ad lv) → W p l e R s m args below meth c H locs cells slots Q (F0 m pc L (st.map (m_cv ad)))
/-- what holds in a method's body -/
def Cx (G : GTy) (nL : Nat) (cc : ByteArray) (own : String) (Ts : List Cond) : Prop := match G with
  | (p, l, e, s, m, args, below, meth, c, Q, D, cA, sa, A) => p.tables.exec = Jvm.exec ∧ c.code = cc ∧ c.maxLocals = nL ∧ s.vm.findClass own = some m.cls ∧ (∀ w ∈ Ts, w.before args s = true) ∧ va_K D vwCl (m_tys cA) s ∧ m_S sa A s ∧ meth.locks = false
section AWrows
variable {G : GTy} {R : Room} {nL cells slots : Nat} {ad : Nat → Nat} {N : Nat} {β : Nat → Nat → Bool} {pc : Nat} {lv lv2 : List (Nat × Value)} {st : List Value} {μ : Mu} {cc : ByteArray} {own : String} {Ts : List Cond}
theorem AW.iconst (X : Cx G nL cc own Ts) {n : Int} {v : Int32} (hv : Int32.ofInt n = v) (hd : decode cc pc = .ok (.iconst n, 1)) (k : AW G R nL (cells, slots, ad, N, β) (pc + 1) lv (.int v :: st) μ) : AW G R nL (cells, slots, ad, N, β) pc lv (st) μ := by
  obtain ⟨p, l, e, s, m, args, below, meth, c, Q, D, cA, sa, A⟩ := G
  obtain ⟨hx, hb, hml, hown, hts, hK, hSt, hlk⟩ := X
  exact fun H locs L hM hA hS hL => lv_iconst hx hb hd hv (k H locs L hM hA hS hL)
theorem AW.bipush (X : Cx G nL cc own Ts) {n : Int} {v : Int32} (hv : (Int8.ofInt n).toInt32 = v) (hd : decode cc pc = .ok (.bipush n, 2)) (k : AW G R nL (cells, slots, ad, N, β) (pc + 2) lv (.int v :: st) μ) : AW G R nL (cells, slots, ad, N, β) pc lv (st) μ := by
  obtain ⟨p, l, e, s, m, args, below, meth, c, Q, D, cA, sa, A⟩ := G
  obtain ⟨hx, hb, hml, hown, hts, hK, hSt, hlk⟩ := X
  exact fun H locs L hM hA hS hL => lv_bipush hx hb hd hv (k H locs L hM hA hS hL)
theorem AW.sipush (X : Cx G nL cc own Ts) {n : Int} {v : Int32} (hv : (Int16.ofInt n).toInt32 = v) (hd : decode cc pc = .ok (.sipush n, 3)) (k : AW G R nL (cells, slots, ad, N, β) (pc + 3) lv (.int v :: st) μ) : AW G R nL (cells, slots, ad, N, β) pc lv (st) μ := by
  obtain ⟨p, l, e, s, m, args, below, meth, c, Q, D, cA, sa, A⟩ := G
  obtain ⟨hx, hb, hml, hown, hts, hK, hSt, hlk⟩ := X
  exact fun H locs L hM hA hS hL => lv_sipush hx hb hd hv (k H locs L hM hA hS hL)
theorem AW.ldc (X : Cx G nL cc own Ts) {index : Nat} {v : Int32} (hw : Cond.constant own index v ∈ Ts) (hd : decode cc pc = .ok (.ldc index, 2)) (k : AW G R nL (cells, slots, ad, N, β) (pc + 2) lv (.int v :: st) μ) : AW G R nL (cells, slots, ad, N, β) pc lv (st) μ := by
  obtain ⟨p, l, e, s, m, args, below, meth, c, Q, D, cA, sa, A⟩ := G
  obtain ⟨hx, hb, hml, hown, hts, hK, hSt, hlk⟩ := X
  exact fun H locs L hM hA hS hL => lv_ldc hx hb hown (hts _ hw) hd (k H locs L hM hA hS hL)
theorem AW.aconst_null (X : Cx G nL cc own Ts)  (hd : decode cc pc = .ok (.aconst_null, 1)) (k : AW G R nL (cells, slots, ad, N, β) (pc + 1) lv (.null :: st) μ) : AW G R nL (cells, slots, ad, N, β) pc lv (st) μ := by
  obtain ⟨p, l, e, s, m, args, below, meth, c, Q, D, cA, sa, A⟩ := G
  obtain ⟨hx, hb, hml, hown, hts, hK, hSt, hlk⟩ := X
  exact fun H locs L hM hA hS hL => lv_null hx hb hd (k H locs L hM hA hS hL)
theorem AW.iload_n (X : Cx G nL cc own Ts) {kk : Fin 4} {i : Nat} {x : Int32} (q : Nat) (hi : (kk : Nat) = i) (hl : lv[q]? = some (i, .int x)) (hd : decode cc pc = .ok (.iload_n kk, 1)) (k : AW G R nL (cells, slots, ad, N, β) (pc + 1) lv (.int x :: st) μ) : AW G R nL (cells, slots, ad, N, β) pc lv (st) μ := by
  obtain ⟨p, l, e, s, m, args, below, meth, c, Q, D, cA, sa, A⟩ := G
  obtain ⟨hx, hb, hml, hown, hts, hK, hSt, hlk⟩ := X
  exact fun H locs L hM hA hS hL => lv_iload_n hx hb hd hi (lv_at hL q (m_lv_at hl)) (k H locs L hM hA hS hL)
theorem AW.iload (X : Cx G nL cc own Ts) {i : Nat} {x : Int32} (q : Nat) (hl : lv[q]? = some (i, .int x)) (hd : decode cc pc = .ok (.iload i, 2)) (k : AW G R nL (cells, slots, ad, N, β) (pc + 2) lv (.int x :: st) μ) : AW G R nL (cells, slots, ad, N, β) pc lv (st) μ := by
  obtain ⟨p, l, e, s, m, args, below, meth, c, Q, D, cA, sa, A⟩ := G
  obtain ⟨hx, hb, hml, hown, hts, hK, hSt, hlk⟩ := X
  exact fun H locs L hM hA hS hL => lv_iload hx hb hd (lv_at hL q (m_lv_at hl)) (k H locs L hM hA hS hL)
theorem AW.aload_n (X : Cx G nL cc own Ts) {kk : Fin 4} {i : Nat} {x : Nat} (q : Nat) (hi : (kk : Nat) = i) (hl : lv[q]? = some (i, .ref x)) (hd : decode cc pc = .ok (.aload_n kk, 1)) (k : AW G R nL (cells, slots, ad, N, β) (pc + 1) lv (.ref x :: st) μ) : AW G R nL (cells, slots, ad, N, β) pc lv (st) μ := by
  obtain ⟨p, l, e, s, m, args, below, meth, c, Q, D, cA, sa, A⟩ := G
  obtain ⟨hx, hb, hml, hown, hts, hK, hSt, hlk⟩ := X
  exact fun H locs L hM hA hS hL => lv_aload_n hx hb hd hi (lv_at hL q (m_lv_at hl)) (k H locs L hM hA hS hL)
theorem AW.aload (X : Cx G nL cc own Ts) {i : Nat} {x : Nat} (q : Nat) (hl : lv[q]? = some (i, .ref x)) (hd : decode cc pc = .ok (.aload i, 2)) (k : AW G R nL (cells, slots, ad, N, β) (pc + 2) lv (.ref x :: st) μ) : AW G R nL (cells, slots, ad, N, β) pc lv (st) μ := by
  obtain ⟨p, l, e, s, m, args, below, meth, c, Q, D, cA, sa, A⟩ := G
  obtain ⟨hx, hb, hml, hown, hts, hK, hSt, hlk⟩ := X
  exact fun H locs L hM hA hS hL => lv_aload hx hb hd (lv_at hL q (m_lv_at hl)) (k H locs L hM hA hS hL)
theorem AW.aload_nN (X : Cx G nL cc own Ts) {kk : Fin 4} {i : Nat} (q : Nat) (hi : (kk : Nat) = i) (hl : lv[q]? = some (i, .null)) (hd : decode cc pc = .ok (.aload_n kk, 1)) (k : AW G R nL (cells, slots, ad, N, β) (pc + 1) lv (.null :: st) μ) : AW G R nL (cells, slots, ad, N, β) pc lv (st) μ := by
  obtain ⟨p, l, e, s, m, args, below, meth, c, Q, D, cA, sa, A⟩ := G
  obtain ⟨hx, hb, hml, hown, hts, hK, hSt, hlk⟩ := X
  exact fun H locs L hM hA hS hL => lv_aload_nN hx hb hd hi (lv_at hL q (m_lv_at hl)) (k H locs L hM hA hS hL)
theorem AW.aloadN (X : Cx G nL cc own Ts) {i : Nat} (q : Nat) (hl : lv[q]? = some (i, .null)) (hd : decode cc pc = .ok (.aload i, 2)) (k : AW G R nL (cells, slots, ad, N, β) (pc + 2) lv (.null :: st) μ) : AW G R nL (cells, slots, ad, N, β) pc lv (st) μ := by
  obtain ⟨p, l, e, s, m, args, below, meth, c, Q, D, cA, sa, A⟩ := G
  obtain ⟨hx, hb, hml, hown, hts, hK, hSt, hlk⟩ := X
  exact fun H locs L hM hA hS hL => lv_aloadN hx hb hd (lv_at hL q (m_lv_at hl)) (k H locs L hM hA hS hL)
theorem AW.iadd (X : Cx G nL cc own Ts) {x y : Int32} (hd : decode cc pc = .ok (.iadd, 1)) (k : AW G R nL (cells, slots, ad, N, β) (pc + 1) lv (.int (x + y) :: st) μ) : AW G R nL (cells, slots, ad, N, β) pc lv (.int y :: .int x :: st) μ := by
  obtain ⟨p, l, e, s, m, args, below, meth, c, Q, D, cA, sa, A⟩ := G
  obtain ⟨hx, hb, hml, hown, hts, hK, hSt, hlk⟩ := X
  exact fun H locs L hM hA hS hL => lv_iadd hx hb hd (k H locs L hM hA hS hL)
theorem AW.isub (X : Cx G nL cc own Ts) {x y : Int32} (hd : decode cc pc = .ok (.isub, 1)) (k : AW G R nL (cells, slots, ad, N, β) (pc + 1) lv (.int (x - y) :: st) μ) : AW G R nL (cells, slots, ad, N, β) pc lv (.int y :: .int x :: st) μ := by
  obtain ⟨p, l, e, s, m, args, below, meth, c, Q, D, cA, sa, A⟩ := G
  obtain ⟨hx, hb, hml, hown, hts, hK, hSt, hlk⟩ := X
  exact fun H locs L hM hA hS hL => lv_isub hx hb hd (k H locs L hM hA hS hL)
theorem AW.imul (X : Cx G nL cc own Ts) {x y : Int32} (hd : decode cc pc = .ok (.imul, 1)) (k : AW G R nL (cells, slots, ad, N, β) (pc + 1) lv (.int (x * y) :: st) μ) : AW G R nL (cells, slots, ad, N, β) pc lv (.int y :: .int x :: st) μ := by
  obtain ⟨p, l, e, s, m, args, below, meth, c, Q, D, cA, sa, A⟩ := G
  obtain ⟨hx, hb, hml, hown, hts, hK, hSt, hlk⟩ := X
  exact fun H locs L hM hA hS hL => lv_imul hx hb hd (k H locs L hM hA hS hL)
theorem AW.iand (X : Cx G nL cc own Ts) {x y : Int32} (hd : decode cc pc = .ok (.iand, 1)) (k : AW G R nL (cells, slots, ad, N, β) (pc + 1) lv (.int (x &&& y) :: st) μ) : AW G R nL (cells, slots, ad, N, β) pc lv (.int y :: .int x :: st) μ := by
  obtain ⟨p, l, e, s, m, args, below, meth, c, Q, D, cA, sa, A⟩ := G
  obtain ⟨hx, hb, hml, hown, hts, hK, hSt, hlk⟩ := X
  exact fun H locs L hM hA hS hL => lv_iand hx hb hd (k H locs L hM hA hS hL)
theorem AW.dup (X : Cx G nL cc own Ts) {v : Value} (hv : v.category = 1) (hd : decode cc pc = .ok (.dup, 1)) (k : AW G R nL (cells, slots, ad, N, β) (pc + 1) lv (v :: v :: st) μ) : AW G R nL (cells, slots, ad, N, β) pc lv (v :: st) μ := by
  obtain ⟨p, l, e, s, m, args, below, meth, c, Q, D, cA, sa, A⟩ := G
  obtain ⟨hx, hb, hml, hown, hts, hK, hSt, hlk⟩ := X
  exact fun H locs L hM hA hS hL => lv_dup hx hb hd ((m_cv_cat ad v).trans hv) (k H locs L hM hA hS hL)
theorem AW.pop (X : Cx G nL cc own Ts) {v : Value} (hv : v.category = 1) (hd : decode cc pc = .ok (.pop, 1)) (k : AW G R nL (cells, slots, ad, N, β) (pc + 1) lv (st) μ) : AW G R nL (cells, slots, ad, N, β) pc lv (v :: st) μ := by
  obtain ⟨p, l, e, s, m, args, below, meth, c, Q, D, cA, sa, A⟩ := G
  obtain ⟨hx, hb, hml, hown, hts, hK, hSt, hlk⟩ := X
  exact fun H locs L hM hA hS hL => lv_pop hx hb hd ((m_cv_cat ad v).trans hv) (k H locs L hM hA hS hL)
theorem AW.dup_x1 (X : Cx G nL cc own Ts) {v w : Value} (hv : v.category = 1) (hw : w.category = 1) (hd : decode cc pc = .ok (.dup_x1, 1)) (k : AW G R nL (cells, slots, ad, N, β) (pc + 1) lv (v :: w :: v :: st) μ) : AW G R nL (cells, slots, ad, N, β) pc lv (v :: w :: st) μ := by
  obtain ⟨p, l, e, s, m, args, below, meth, c, Q, D, cA, sa, A⟩ := G
  obtain ⟨hx, hb, hml, hown, hts, hK, hSt, hlk⟩ := X
  exact fun H locs L hM hA hS hL => lv_dup_x1 hx hb hd ((m_cv_cat ad v).trans hv) ((m_cv_cat ad w).trans hw) (k H locs L hM hA hS hL)
theorem AW.i2b (X : Cx G nL cc own Ts) {x : Int32} (hd : decode cc pc = .ok (.i2b, 1)) (k : AW G R nL (cells, slots, ad, N, β) (pc + 1) lv (.int x.toInt8.toInt32 :: st) μ) : AW G R nL (cells, slots, ad, N, β) pc lv (.int x :: st) μ := by
  obtain ⟨p, l, e, s, m, args, below, meth, c, Q, D, cA, sa, A⟩ := G
  obtain ⟨hx, hb, hml, hown, hts, hK, hSt, hlk⟩ := X
  exact fun H locs L hM hA hS hL => lv_i2b hx hb hd rfl (k H locs L hM hA hS hL)
theorem AW.i2c (X : Cx G nL cc own Ts) {x : Int32} (hd : decode cc pc = .ok (.i2c, 1)) (k : AW G R nL (cells, slots, ad, N, β) (pc + 1) lv (.int (x.toUInt32 % 65536).toInt32 :: st) μ) : AW G R nL (cells, slots, ad, N, β) pc lv (.int x :: st) μ := by
  obtain ⟨p, l, e, s, m, args, below, meth, c, Q, D, cA, sa, A⟩ := G
  obtain ⟨hx, hb, hml, hown, hts, hK, hSt, hlk⟩ := X
  exact fun H locs L hM hA hS hL => lv_i2c hx hb hd rfl (k H locs L hM hA hS hL)
theorem AW.ishr (X : Cx G nL cc own Ts) {x y : Int32} (hd : decode cc pc = .ok (.ishr, 1)) (k : AW G R nL (cells, slots, ad, N, β) (pc + 1) lv (.int (x >>> (y &&& 31)) :: st) μ) : AW G R nL (cells, slots, ad, N, β) pc lv (.int y :: .int x :: st) μ := by
  obtain ⟨p, l, e, s, m, args, below, meth, c, Q, D, cA, sa, A⟩ := G
  obtain ⟨hx, hb, hml, hown, hts, hK, hSt, hlk⟩ := X
  exact fun H locs L hM hA hS hL => lv_ishr hx hb hd (k H locs L hM hA hS hL)
theorem AW.lconst (X : Cx G nL cc own Ts) {n : Fin 2} {v : Int64} (hv : Int64.ofNat (n : Nat) = v) (hd : decode cc pc = .ok (.lconst n, 1)) (k : AW G R nL (cells, slots, ad, N, β) (pc + 1) lv (.long v :: st) μ) : AW G R nL (cells, slots, ad, N, β) pc lv (st) μ := by
  obtain ⟨p, l, e, s, m, args, below, meth, c, Q, D, cA, sa, A⟩ := G
  obtain ⟨hx, hb, hml, hown, hts, hK, hSt, hlk⟩ := X
  exact fun H locs L hM hA hS hL => lv_lconst hx hb hd hv (k H locs L hM hA hS hL)
theorem AW.ldc2 (X : Cx G nL cc own Ts) {index : Nat} {v : Int64} (hw : Cond.constantLong own index v ∈ Ts) (hd : decode cc pc = .ok (.ldc2_w index, 3)) (k : AW G R nL (cells, slots, ad, N, β) (pc + 3) lv (.long v :: st) μ) : AW G R nL (cells, slots, ad, N, β) pc lv (st) μ := by
  obtain ⟨p, l, e, s, m, args, below, meth, c, Q, D, cA, sa, A⟩ := G
  obtain ⟨hx, hb, hml, hown, hts, hK, hSt, hlk⟩ := X
  exact fun H locs L hM hA hS hL => lv_ldc2 hx hb hown (hts _ hw) hd (k H locs L hM hA hS hL)
theorem AW.lload_n (X : Cx G nL cc own Ts) {kk : Fin 4} {i : Nat} {x : Int64} (q : Nat) (hi : (kk : Nat) = i) (hl : lv[q]? = some (i, .long x)) (hd : decode cc pc = .ok (.lload_n kk, 1)) (k : AW G R nL (cells, slots, ad, N, β) (pc + 1) lv (.long x :: st) μ) : AW G R nL (cells, slots, ad, N, β) pc lv (st) μ := by
  obtain ⟨p, l, e, s, m, args, below, meth, c, Q, D, cA, sa, A⟩ := G
  obtain ⟨hx, hb, hml, hown, hts, hK, hSt, hlk⟩ := X
  exact fun H locs L hM hA hS hL => lv_lload_n hx hb hd hi (lv_at hL q (m_lv_at hl)) (k H locs L hM hA hS hL)
theorem AW.ladd (X : Cx G nL cc own Ts) {x y : Int64} (hd : decode cc pc = .ok (.ladd, 1)) (k : AW G R nL (cells, slots, ad, N, β) (pc + 1) lv (.long (x + y) :: st) μ) : AW G R nL (cells, slots, ad, N, β) pc lv (.long y :: .long x :: st) μ := by
  obtain ⟨p, l, e, s, m, args, below, meth, c, Q, D, cA, sa, A⟩ := G
  obtain ⟨hx, hb, hml, hown, hts, hK, hSt, hlk⟩ := X
  exact fun H locs L hM hA hS hL => lv_ladd hx hb hd (k H locs L hM hA hS hL)
theorem AW.lsub (X : Cx G nL cc own Ts) {x y : Int64} (hd : decode cc pc = .ok (.lsub, 1)) (k : AW G R nL (cells, slots, ad, N, β) (pc + 1) lv (.long (x - y) :: st) μ) : AW G R nL (cells, slots, ad, N, β) pc lv (.long y :: .long x :: st) μ := by
  obtain ⟨p, l, e, s, m, args, below, meth, c, Q, D, cA, sa, A⟩ := G
  obtain ⟨hx, hb, hml, hown, hts, hK, hSt, hlk⟩ := X
  exact fun H locs L hM hA hS hL => lv_lsub hx hb hd (k H locs L hM hA hS hL)
theorem AW.lmul (X : Cx G nL cc own Ts) {x y : Int64} (hd : decode cc pc = .ok (.lmul, 1)) (k : AW G R nL (cells, slots, ad, N, β) (pc + 1) lv (.long (x * y) :: st) μ) : AW G R nL (cells, slots, ad, N, β) pc lv (.long y :: .long x :: st) μ := by
  obtain ⟨p, l, e, s, m, args, below, meth, c, Q, D, cA, sa, A⟩ := G
  obtain ⟨hx, hb, hml, hown, hts, hK, hSt, hlk⟩ := X
  exact fun H locs L hM hA hS hL => lv_lmul hx hb hd (k H locs L hM hA hS hL)
theorem AW.lcmp (X : Cx G nL cc own Ts) {x y : Int64} (hd : decode cc pc = .ok (.lcmp, 1)) (k : AW G R nL (cells, slots, ad, N, β) (pc + 1) lv (.int (lg_cmp x y) :: st) μ) : AW G R nL (cells, slots, ad, N, β) pc lv (.long y :: .long x :: st) μ := by
  obtain ⟨p, l, e, s, m, args, below, meth, c, Q, D, cA, sa, A⟩ := G
  obtain ⟨hx, hb, hml, hown, hts, hK, hSt, hlk⟩ := X
  exact fun H locs L hM hA hS hL => W.lcmp hx hb hd (k H locs L hM hA hS hL)
theorem AW.dup2 (X : Cx G nL cc own Ts) {v w : Value} (hv : v.category = 1) (hw : w.category = 1) (hd : decode cc pc = .ok (.dup2, 1)) (k : AW G R nL (cells, slots, ad, N, β) (pc + 1) lv (v :: w :: v :: w :: st) μ) : AW G R nL (cells, slots, ad, N, β) pc lv (v :: w :: st) μ := by
  obtain ⟨p, l, e, s, m, args, below, meth, c, Q, D, cA, sa, A⟩ := G
  obtain ⟨hx, hb, hml, hown, hts, hK, hSt, hlk⟩ := X
  exact fun H locs L hM hA hS hL => lv_dup2_11 hx hb hd ((m_cv_cat ad v).trans hv) ((m_cv_cat ad w).trans hw) (k H locs L hM hA hS hL)
theorem AW.i2l (X : Cx G nL cc own Ts) {x : Int32} (hd : decode cc pc = .ok (.i2l, 1)) (k : AW G R nL (cells, slots, ad, N, β) (pc + 1) lv (.long x.toInt64 :: st) μ) : AW G R nL (cells, slots, ad, N, β) pc lv (.int x :: st) μ := by
  obtain ⟨p, l, e, s, m, args, below, meth, c, Q, D, cA, sa, A⟩ := G
  obtain ⟨hx, hb, hml, hown, hts, hK, hSt, hlk⟩ := X
  exact fun H locs L hM hA hS hL => lv_i2l hx hb hd rfl (k H locs L hM hA hS hL)
def m_st2 (lv : List (Nat × Value)) (i : Nat) : List (Nat × Value) := lv.filter (fun q => !(q.1 == i) && (!(q.1 == i + 1) && !(q.1 + 1 == i && q.2.category == 2)))
theorem m_lv_st2 (ad : Nat → Nat) (lv : List (Nat × Value)) (i : Nat) : (m_lv ad lv).filter (fun q => !(q.1 == i) && (!(q.1 == i + 1) && !(q.1 + 1 == i && q.2.category == 2))) = m_lv ad (m_st2 lv i) := by
  unfold m_lv m_st2
  rw [List.filter_map]
  congr 1
  apply List.filter_congr
  intro q _
  simp [m_cv_cat]
theorem AW.lstore_n (X : Cx G nL cc own Ts) {kk : Fin 4} {i : Nat} {x : Int64} (hi : (kk : Nat) = i) (hd : decode cc pc = .ok (.lstore_n kk, 1)) (hn : i + 1 < nL) (hl : (i, .long x) :: m_st2 lv i = lv2) (k : AW G R nL (cells, slots, ad, N, β) (pc + 1) lv2 st μ) : AW G R nL (cells, slots, ad, N, β) pc lv (.long x :: st) μ := by
  obtain ⟨p, l, e, s, m, args, below, meth, c, Q, D, cA, sa, A⟩ := G
  obtain ⟨hx, hb, hml, hown, hts, hK, hSt, hlk⟩ := X
  exact fun H locs L hM hA hS hL => lv_lstore_n (lv := m_lv ad lv) (lv' := m_lv ad lv2) hx hb hd hi hL hn (by rw [m_lv_st2, ← hl]; rfl) (fun L2 hL2 => k H locs L2 hM hA hS hL2)
theorem AW.istore_n (X : Cx G nL cc own Ts) {kk : Fin 4} {i : Nat} {x : Int32} (hi : (kk : Nat) = i) (hd : decode cc pc = .ok (.istore_n kk, 1)) (hn : i < nL) (hl : (i, .int x) :: m_st lv i = lv2) (k : AW G R nL (cells, slots, ad, N, β) (pc + 1) lv2 st μ) : AW G R nL (cells, slots, ad, N, β) pc lv (.int x :: st) μ := by
  obtain ⟨p, l, e, s, m, args, below, meth, c, Q, D, cA, sa, A⟩ := G
  obtain ⟨hx, hb, hml, hown, hts, hK, hSt, hlk⟩ := X
  exact fun H locs L hM hA hS hL => lv_istore_n (lv := m_lv ad lv) (lv' := m_lv ad lv2) hx hb hd hi hL hn (by rw [m_lv_st, ← hl]; rfl) (fun L2 hL2 => k H locs L2 hM hA hS hL2)
theorem AW.istore (X : Cx G nL cc own Ts) {i : Nat} {x : Int32} (hd : decode cc pc = .ok (.istore i, 2)) (hn : i < nL) (hl : (i, .int x) :: m_st lv i = lv2) (k : AW G R nL (cells, slots, ad, N, β) (pc + 2) lv2 st μ) : AW G R nL (cells, slots, ad, N, β) pc lv (.int x :: st) μ := by
  obtain ⟨p, l, e, s, m, args, below, meth, c, Q, D, cA, sa, A⟩ := G
  obtain ⟨hx, hb, hml, hown, hts, hK, hSt, hlk⟩ := X
  exact fun H locs L hM hA hS hL => lv_istore (lv := m_lv ad lv) (lv' := m_lv ad lv2) hx hb hd hL hn (by rw [m_lv_st, ← hl]; rfl) (fun L2 hL2 => k H locs L2 hM hA hS hL2)
theorem AW.astore_n (X : Cx G nL cc own Ts) {kk : Fin 4} {i : Nat} {x : Nat} (hi : (kk : Nat) = i) (hd : decode cc pc = .ok (.astore_n kk, 1)) (hn : i < nL) (hl : (i, .ref x) :: m_st lv i = lv2) (k : AW G R nL (cells, slots, ad, N, β) (pc + 1) lv2 st μ) : AW G R nL (cells, slots, ad, N, β) pc lv (.ref x :: st) μ := by
  obtain ⟨p, l, e, s, m, args, below, meth, c, Q, D, cA, sa, A⟩ := G
  obtain ⟨hx, hb, hml, hown, hts, hK, hSt, hlk⟩ := X
  exact fun H locs L hM hA hS hL => lv_astore_n (lv := m_lv ad lv) (lv' := m_lv ad lv2) hx hb hd hi hL hn (by rw [m_lv_st, ← hl]; rfl) (fun L2 hL2 => k H locs L2 hM hA hS hL2)
theorem AW.astore (X : Cx G nL cc own Ts) {i : Nat} {x : Nat} (hd : decode cc pc = .ok (.astore i, 2)) (hn : i < nL) (hl : (i, .ref x) :: m_st lv i = lv2) (k : AW G R nL (cells, slots, ad, N, β) (pc + 2) lv2 st μ) : AW G R nL (cells, slots, ad, N, β) pc lv (.ref x :: st) μ := by
  obtain ⟨p, l, e, s, m, args, below, meth, c, Q, D, cA, sa, A⟩ := G
  obtain ⟨hx, hb, hml, hown, hts, hK, hSt, hlk⟩ := X
  exact fun H locs L hM hA hS hL => lv_astore (lv := m_lv ad lv) (lv' := m_lv ad lv2) hx hb hd hL hn (by rw [m_lv_st, ← hl]; rfl) (fun L2 hL2 => k H locs L2 hM hA hS hL2)
theorem AW.astore_nN (X : Cx G nL cc own Ts) {kk : Fin 4} {i : Nat} (hi : (kk : Nat) = i) (hd : decode cc pc = .ok (.astore_n kk, 1)) (hn : i < nL) (hl : (i, .null) :: m_st lv i = lv2) (k : AW G R nL (cells, slots, ad, N, β) (pc + 1) lv2 st μ) : AW G R nL (cells, slots, ad, N, β) pc lv (.null :: st) μ := by
  obtain ⟨p, l, e, s, m, args, below, meth, c, Q, D, cA, sa, A⟩ := G
  obtain ⟨hx, hb, hml, hown, hts, hK, hSt, hlk⟩ := X
  exact fun H locs L hM hA hS hL => lv_astore_nN (lv := m_lv ad lv) (lv' := m_lv ad lv2) hx hb hd hi hL hn (by rw [m_lv_st, ← hl]; rfl) (fun L2 hL2 => k H locs L2 hM hA hS hL2)
theorem AW.astoreN (X : Cx G nL cc own Ts) {i : Nat} (hd : decode cc pc = .ok (.astore i, 2)) (hn : i < nL) (hl : (i, .null) :: m_st lv i = lv2) (k : AW G R nL (cells, slots, ad, N, β) (pc + 2) lv2 st μ) : AW G R nL (cells, slots, ad, N, β) pc lv (.null :: st) μ := by
  obtain ⟨p, l, e, s, m, args, below, meth, c, Q, D, cA, sa, A⟩ := G
  obtain ⟨hx, hb, hml, hown, hts, hK, hSt, hlk⟩ := X
  exact fun H locs L hM hA hS hL => lv_astoreN (lv := m_lv ad lv) (lv' := m_lv ad lv2) hx hb hd hL hn (by rw [m_lv_st, ← hl]; rfl) (fun L2 hL2 => k H locs L2 hM hA hS hL2)
theorem AW.iinc (X : Cx G nL cc own Ts) {i : Nat} {n : Int} {x v : Int32} (q : Nat) (hq : lv[q]? = some (i, .int x)) (hv : x + Int32.ofInt n = v) (hd : decode cc pc = .ok (.iinc i n, 3)) (hn : i < nL) (hl : (i, .int v) :: m_st lv i = lv2) (k : AW G R nL (cells, slots, ad, N, β) (pc + 3) lv2 st μ) : AW G R nL (cells, slots, ad, N, β) pc lv st μ := by
  obtain ⟨p, l, e, s, m, args, below, meth, c, Q, D, cA, sa, A⟩ := G
  obtain ⟨hx, hb, hml, hown, hts, hK, hSt, hlk⟩ := X
  exact fun H locs L hM hA hS hL => lv_iinc (lv := m_lv ad lv) (lv' := m_lv ad lv2) (k := q) hx hb hd hL (m_lv_at hq) hv hn (by rw [m_lv_st, ← hl]; rfl) (fun L2 hL2 => k H locs L2 hM hA hS hL2)
theorem AW.if_eq (X : Cx G nL cc own Ts) {x : Int32} {off : Int} (tgt : Nat) (hd : decode cc pc = .ok (.ifCond .eq off, 3)) (ht : (pc : Int) + off = (tgt : Int)) (kt : x = 0 → AW G R nL (cells, slots, ad, N, β) tgt lv st μ) (kf : ¬ x = 0 → AW G R nL (cells, slots, ad, N, β) (pc + 3) lv st μ) : AW G R nL (cells, slots, ad, N, β) pc lv (.int x :: st) μ := by
  obtain ⟨p, l, e, s, m, args, below, meth, c, Q, D, cA, sa, A⟩ := G
  obtain ⟨hx, hb, hml, hown, hts, hK, hSt, hlk⟩ := X
  exact fun H locs L hM hA hS hL => lv_if_eq hx hb hd ht (fun h => kt h H locs L hM hA hS hL) (fun h => kf h H locs L hM hA hS hL)
theorem AW.if_ne (X : Cx G nL cc own Ts) {x : Int32} {off : Int} (tgt : Nat) (hd : decode cc pc = .ok (.ifCond .ne off, 3)) (ht : (pc : Int) + off = (tgt : Int)) (kt : ¬ x = 0 → AW G R nL (cells, slots, ad, N, β) tgt lv st μ) (kf : x = 0 → AW G R nL (cells, slots, ad, N, β) (pc + 3) lv st μ) : AW G R nL (cells, slots, ad, N, β) pc lv (.int x :: st) μ := by
  obtain ⟨p, l, e, s, m, args, below, meth, c, Q, D, cA, sa, A⟩ := G
  obtain ⟨hx, hb, hml, hown, hts, hK, hSt, hlk⟩ := X
  exact fun H locs L hM hA hS hL => lv_if_ne hx hb hd ht (fun h => kt h H locs L hM hA hS hL) (fun h => kf h H locs L hM hA hS hL)
theorem AW.if_lt (X : Cx G nL cc own Ts) {x : Int32} {off : Int} (tgt : Nat) (hd : decode cc pc = .ok (.ifCond .lt off, 3)) (ht : (pc : Int) + off = (tgt : Int)) (kt : x < 0 → AW G R nL (cells, slots, ad, N, β) tgt lv st μ) (kf : ¬ x < 0 → AW G R nL (cells, slots, ad, N, β) (pc + 3) lv st μ) : AW G R nL (cells, slots, ad, N, β) pc lv (.int x :: st) μ := by
  obtain ⟨p, l, e, s, m, args, below, meth, c, Q, D, cA, sa, A⟩ := G
  obtain ⟨hx, hb, hml, hown, hts, hK, hSt, hlk⟩ := X
  exact fun H locs L hM hA hS hL => lv_if_lt hx hb hd ht (fun h => kt h H locs L hM hA hS hL) (fun h => kf h H locs L hM hA hS hL)
theorem AW.if_ge (X : Cx G nL cc own Ts) {x : Int32} {off : Int} (tgt : Nat) (hd : decode cc pc = .ok (.ifCond .ge off, 3)) (ht : (pc : Int) + off = (tgt : Int)) (kt : 0 ≤ x → AW G R nL (cells, slots, ad, N, β) tgt lv st μ) (kf : ¬ 0 ≤ x → AW G R nL (cells, slots, ad, N, β) (pc + 3) lv st μ) : AW G R nL (cells, slots, ad, N, β) pc lv (.int x :: st) μ := by
  obtain ⟨p, l, e, s, m, args, below, meth, c, Q, D, cA, sa, A⟩ := G
  obtain ⟨hx, hb, hml, hown, hts, hK, hSt, hlk⟩ := X
  exact fun H locs L hM hA hS hL => lv_if_ge hx hb hd ht (fun h => kt h H locs L hM hA hS hL) (fun h => kf h H locs L hM hA hS hL)
theorem AW.if_gt (X : Cx G nL cc own Ts) {x : Int32} {off : Int} (tgt : Nat) (hd : decode cc pc = .ok (.ifCond .gt off, 3)) (ht : (pc : Int) + off = (tgt : Int)) (kt : 0 < x → AW G R nL (cells, slots, ad, N, β) tgt lv st μ) (kf : ¬ 0 < x → AW G R nL (cells, slots, ad, N, β) (pc + 3) lv st μ) : AW G R nL (cells, slots, ad, N, β) pc lv (.int x :: st) μ := by
  obtain ⟨p, l, e, s, m, args, below, meth, c, Q, D, cA, sa, A⟩ := G
  obtain ⟨hx, hb, hml, hown, hts, hK, hSt, hlk⟩ := X
  exact fun H locs L hM hA hS hL => lv_if_gt hx hb hd ht (fun h => kt h H locs L hM hA hS hL) (fun h => kf h H locs L hM hA hS hL)
theorem AW.if_le (X : Cx G nL cc own Ts) {x : Int32} {off : Int} (tgt : Nat) (hd : decode cc pc = .ok (.ifCond .le off, 3)) (ht : (pc : Int) + off = (tgt : Int)) (kt : x ≤ 0 → AW G R nL (cells, slots, ad, N, β) tgt lv st μ) (kf : ¬ x ≤ 0 → AW G R nL (cells, slots, ad, N, β) (pc + 3) lv st μ) : AW G R nL (cells, slots, ad, N, β) pc lv (.int x :: st) μ := by
  obtain ⟨p, l, e, s, m, args, below, meth, c, Q, D, cA, sa, A⟩ := G
  obtain ⟨hx, hb, hml, hown, hts, hK, hSt, hlk⟩ := X
  exact fun H locs L hM hA hS hL => lv_if_le hx hb hd ht (fun h => kt h H locs L hM hA hS hL) (fun h => kf h H locs L hM hA hS hL)
theorem AW.icmp_eq (X : Cx G nL cc own Ts) {x y : Int32} {off : Int} (tgt : Nat) (hd : decode cc pc = .ok (.if_icmp .eq off, 3)) (ht : (pc : Int) + off = (tgt : Int)) (kt : x = y → AW G R nL (cells, slots, ad, N, β) tgt lv st μ) (kf : ¬ x = y → AW G R nL (cells, slots, ad, N, β) (pc + 3) lv st μ) : AW G R nL (cells, slots, ad, N, β) pc lv (.int y :: .int x :: st) μ := by
  obtain ⟨p, l, e, s, m, args, below, meth, c, Q, D, cA, sa, A⟩ := G
  obtain ⟨hx, hb, hml, hown, hts, hK, hSt, hlk⟩ := X
  exact fun H locs L hM hA hS hL => lv_icmp_eq hx hb hd ht (fun h => kt h H locs L hM hA hS hL) (fun h => kf h H locs L hM hA hS hL)
theorem AW.icmp_ne (X : Cx G nL cc own Ts) {x y : Int32} {off : Int} (tgt : Nat) (hd : decode cc pc = .ok (.if_icmp .ne off, 3)) (ht : (pc : Int) + off = (tgt : Int)) (kt : ¬ x = y → AW G R nL (cells, slots, ad, N, β) tgt lv st μ) (kf : x = y → AW G R nL (cells, slots, ad, N, β) (pc + 3) lv st μ) : AW G R nL (cells, slots, ad, N, β) pc lv (.int y :: .int x :: st) μ := by
  obtain ⟨p, l, e, s, m, args, below, meth, c, Q, D, cA, sa, A⟩ := G
  obtain ⟨hx, hb, hml, hown, hts, hK, hSt, hlk⟩ := X
  exact fun H locs L hM hA hS hL => lv_icmp_ne hx hb hd ht (fun h => kt h H locs L hM hA hS hL) (fun h => kf h H locs L hM hA hS hL)
theorem AW.icmp_lt (X : Cx G nL cc own Ts) {x y : Int32} {off : Int} (tgt : Nat) (hd : decode cc pc = .ok (.if_icmp .lt off, 3)) (ht : (pc : Int) + off = (tgt : Int)) (kt : x < y → AW G R nL (cells, slots, ad, N, β) tgt lv st μ) (kf : ¬ x < y → AW G R nL (cells, slots, ad, N, β) (pc + 3) lv st μ) : AW G R nL (cells, slots, ad, N, β) pc lv (.int y :: .int x :: st) μ := by
  obtain ⟨p, l, e, s, m, args, below, meth, c, Q, D, cA, sa, A⟩ := G
  obtain ⟨hx, hb, hml, hown, hts, hK, hSt, hlk⟩ := X
  exact fun H locs L hM hA hS hL => lv_icmp_lt hx hb hd ht (fun h => kt h H locs L hM hA hS hL) (fun h => kf h H locs L hM hA hS hL)
theorem AW.icmp_ge (X : Cx G nL cc own Ts) {x y : Int32} {off : Int} (tgt : Nat) (hd : decode cc pc = .ok (.if_icmp .ge off, 3)) (ht : (pc : Int) + off = (tgt : Int)) (kt : y ≤ x → AW G R nL (cells, slots, ad, N, β) tgt lv st μ) (kf : ¬ y ≤ x → AW G R nL (cells, slots, ad, N, β) (pc + 3) lv st μ) : AW G R nL (cells, slots, ad, N, β) pc lv (.int y :: .int x :: st) μ := by
  obtain ⟨p, l, e, s, m, args, below, meth, c, Q, D, cA, sa, A⟩ := G
  obtain ⟨hx, hb, hml, hown, hts, hK, hSt, hlk⟩ := X
  exact fun H locs L hM hA hS hL => lv_icmp_ge hx hb hd ht (fun h => kt h H locs L hM hA hS hL) (fun h => kf h H locs L hM hA hS hL)
theorem AW.icmp_gt (X : Cx G nL cc own Ts) {x y : Int32} {off : Int} (tgt : Nat) (hd : decode cc pc = .ok (.if_icmp .gt off, 3)) (ht : (pc : Int) + off = (tgt : Int)) (kt : y < x → AW G R nL (cells, slots, ad, N, β) tgt lv st μ) (kf : ¬ y < x → AW G R nL (cells, slots, ad, N, β) (pc + 3) lv st μ) : AW G R nL (cells, slots, ad, N, β) pc lv (.int y :: .int x :: st) μ := by
  obtain ⟨p, l, e, s, m, args, below, meth, c, Q, D, cA, sa, A⟩ := G
  obtain ⟨hx, hb, hml, hown, hts, hK, hSt, hlk⟩ := X
  exact fun H locs L hM hA hS hL => lv_icmp_gt hx hb hd ht (fun h => kt h H locs L hM hA hS hL) (fun h => kf h H locs L hM hA hS hL)
theorem AW.icmp_le (X : Cx G nL cc own Ts) {x y : Int32} {off : Int} (tgt : Nat) (hd : decode cc pc = .ok (.if_icmp .le off, 3)) (ht : (pc : Int) + off = (tgt : Int)) (kt : x ≤ y → AW G R nL (cells, slots, ad, N, β) tgt lv st μ) (kf : ¬ x ≤ y → AW G R nL (cells, slots, ad, N, β) (pc + 3) lv st μ) : AW G R nL (cells, slots, ad, N, β) pc lv (.int y :: .int x :: st) μ := by
  obtain ⟨p, l, e, s, m, args, below, meth, c, Q, D, cA, sa, A⟩ := G
  obtain ⟨hx, hb, hml, hown, hts, hK, hSt, hlk⟩ := X
  exact fun H locs L hM hA hS hL => lv_icmp_le hx hb hd ht (fun h => kt h H locs L hM hA hS hL) (fun h => kf h H locs L hM hA hS hL)
theorem AW.goto (X : Cx G nL cc own Ts) {off : Int} (tgt : Nat) (hd : decode cc pc = .ok (.goto off, 3)) (ht : (pc : Int) + off = (tgt : Int)) (k : AW G R nL (cells, slots, ad, N, β) tgt lv st μ) : AW G R nL (cells, slots, ad, N, β) pc lv st μ := by
  obtain ⟨p, l, e, s, m, args, below, meth, c, Q, D, cA, sa, A⟩ := G
  obtain ⟨hx, hb, hml, hown, hts, hK, hSt, hlk⟩ := X
  exact fun H locs L hM hA hS hL => lv_goto hx hb hd ht (k H locs L hM hA hS hL)
theorem AW.ifnonnull (X : Cx G nL cc own Ts) {x : Nat} {off : Int} (tgt : Nat) (hd : decode cc pc = .ok (.ifnonnull off, 3)) (ht : (pc : Int) + off = (tgt : Int)) (k : AW G R nL (cells, slots, ad, N, β) tgt lv st μ) : AW G R nL (cells, slots, ad, N, β) pc lv (.ref x :: st) μ := by
  obtain ⟨p, l, e, s, m, args, below, meth, c, Q, D, cA, sa, A⟩ := G
  obtain ⟨hx, hb, hml, hown, hts, hK, hSt, hlk⟩ := X
  exact fun H locs L hM hA hS hL => lv_ifnonnull hx hb hd ht (k H locs L hM hA hS hL)
theorem AW.ifnull (X : Cx G nL cc own Ts) {x : Nat} {off : Int} (hd : decode cc pc = .ok (.ifnull off, 3)) (k : AW G R nL (cells, slots, ad, N, β) (pc + 3) lv st μ) : AW G R nL (cells, slots, ad, N, β) pc lv (.ref x :: st) μ := by
  obtain ⟨p, l, e, s, m, args, below, meth, c, Q, D, cA, sa, A⟩ := G
  obtain ⟨hx, hb, hml, hown, hts, hK, hSt, hlk⟩ := X
  exact fun H locs L hM hA hS hL => lv_ifnull hx hb hd (k H locs L hM hA hS hL)
theorem AW.ifnullN (X : Cx G nL cc own Ts) {off : Int} (tgt : Nat) (hd : decode cc pc = .ok (.ifnull off, 3)) (ht : (pc : Int) + off = (tgt : Int)) (k : AW G R nL (cells, slots, ad, N, β) tgt lv st μ) : AW G R nL (cells, slots, ad, N, β) pc lv (.null :: st) μ := by
  obtain ⟨p, l, e, s, m, args, below, meth, c, Q, D, cA, sa, A⟩ := G
  obtain ⟨hx, hb, hml, hown, hts, hK, hSt, hlk⟩ := X
  exact fun H locs L hM hA hS hL => lv_ifnullN hx hb hd ht (k H locs L hM hA hS hL)
theorem AW.ifnonnullN (X : Cx G nL cc own Ts) {off : Int} (hd : decode cc pc = .ok (.ifnonnull off, 3)) (k : AW G R nL (cells, slots, ad, N, β) (pc + 3) lv st μ) : AW G R nL (cells, slots, ad, N, β) pc lv (.null :: st) μ := by
  obtain ⟨p, l, e, s, m, args, below, meth, c, Q, D, cA, sa, A⟩ := G
  obtain ⟨hx, hb, hml, hown, hts, hK, hSt, hlk⟩ := X
  exact fun H locs L hM hA hS hL => lv_ifnonnullN hx hb hd (k H locs L hM hA hS hL)
theorem AW.tableOut (X : Cx G nL cc own Ts) {dflt lo hi : Int} {offs : Array Int} {len : Nat} {x : Int32} (tgt : Nat) (hd : decode cc pc = .ok (.tableswitch dflt lo hi offs, len)) (h : x.toInt < lo ∨ hi < x.toInt) (ht : (pc : Int) + dflt = (tgt : Int)) (k : AW G R nL (cells, slots, ad, N, β) tgt lv st μ) : AW G R nL (cells, slots, ad, N, β) pc lv (.int x :: st) μ := by
  obtain ⟨p, l, e, s, m, args, below, meth, c, Q, D, cA, sa, A⟩ := G
  obtain ⟨hx, hb, hml, hown, hts, hK, hSt, hlk⟩ := X
  exact fun H locs L hM hA hS hL => lv_tableOut hx hb hd h ht (k H locs L hM hA hS hL)
theorem AW.tableIn (X : Cx G nL cc own Ts) {dflt lo hi : Int} {offs : Array Int} {len : Nat} {x : Int32} {off : Int} (tgt : Nat) (hd : decode cc pc = .ok (.tableswitch dflt lo hi offs, len)) (h1 : ¬ x.toInt < lo) (h2 : ¬ hi < x.toInt) (ho : offs[(x.toInt - lo).toNat]? = some off) (ht : (pc : Int) + off = (tgt : Int)) (k : AW G R nL (cells, slots, ad, N, β) tgt lv st μ) : AW G R nL (cells, slots, ad, N, β) pc lv (.int x :: st) μ := by
  obtain ⟨p, l, e, s, m, args, below, meth, c, Q, D, cA, sa, A⟩ := G
  obtain ⟨hx, hb, hml, hown, hts, hK, hSt, hlk⟩ := X
  exact fun H locs L hM hA hS hL => lv_tableIn hx hb hd h1 h2 ho ht (k H locs L hM hA hS hL)
theorem m_pick (ad : Nat → Nat) (lv : List (Nat × Value)) (ks : List Nat) : lv_pick (m_lv ad lv) ks = m_lv ad (lv_pick lv ks) := by
  unfold lv_pick m_lv
  induction ks with
  | nil => rfl
  | cons k ks ih =>
    rw [List.filterMap_cons, List.filterMap_cons, List.getElem?_map]
    cases lv[k]? with
    | none => exact ih
    | some q => exact congrArg (List.cons _) ih
theorem AW.locs (ks : List Nat) (h : lv_pick lv ks = lv2) (k : AW G R nL (cells, slots, ad, N, β) pc lv2 st μ) : AW G R nL (cells, slots, ad, N, β) pc lv st μ := by
  obtain ⟨p, l, e, s, m, args, below, meth, c, Q, D, cA, sa, A⟩ := G
  exact fun H locs L hM hA hS hL => k H locs L hM hA hS (lv_sub hL ks (by rw [m_pick, h]))
theorem AW.val {v w : Value} (h : v = w) (k : AW G R nL (cells, slots, ad, N, β) pc lv (w :: st) μ) : AW G R nL (cells, slots, ad, N, β) pc lv (v :: st) μ := h ▸ k
theorem AW.acmp_ne (X : Cx G nL cc own Ts) {x y : Nat} {off : Int} (tgt : Nat) (hx9 : x < N) (hy9 : y < N) (hd : decode cc pc = .ok (.if_acmp .ne off, 3)) (ht : (pc : Int) + off = (tgt : Int)) (kt : ¬ x = y → AW G R nL (cells, slots, ad, N, β) tgt lv st μ) (kf : x = y → AW G R nL (cells, slots, ad, N, β) (pc + 3) lv st μ) : AW G R nL (cells, slots, ad, N, β) pc lv (.ref y :: .ref x :: st) μ := by
  obtain ⟨p, l, e, s, m, args, below, meth, c, Q, D, cA, sa, A⟩ := G
  obtain ⟨hx, hb, hml, hown, hts, hK, hSt, hlk⟩ := X
  exact fun H locs L hM hA hS hL => lv_acmp_ne (rx := some (ad x)) (ry := some (ad y)) hx hb hd ht (fun h => kt (fun q => h (by rw [q])) H locs L hM hA hS hL) (fun h => kf (hM.2.1 x y hx9 hy9 (Option.some.inj h)) H locs L hM hA hS hL)
theorem AW.get (X : Cx G nL cc own Ts) {k ci j nF index : Nat} {C : String} {T : u_T} {f : Option Nat} (hk : k < N) (hs : sh k = .inl ci) (hc : vwCl[ci]? = some (C, T, nF)) (hin : ∀ w ∈ u_ws C T nF, w ∈ Ts) (hj : j < nF) (hlink : Cond.fieldLink own index (T j).1 (T j).2.1 (T j).2.2.1 ∈ Ts) (hf : (fk ci)[j]? = some f) {v : Value} (hv : m_fv (β k j) k f (μ k j) = v) (hd : decode cc pc = .ok (.getfield index, 3)) (kk : AW G R nL (cells, slots, ad, N, β) (pc + 3) lv (v :: st) μ) : AW G R nL (cells, slots, ad, N, β) pc lv (.ref k :: st) μ := by
  obtain ⟨p, l, e, s, m, args, below, meth, c, Q, D, cA, sa, A⟩ := G
  obtain ⟨hx, hb, hml, hown, hts, hK, hSt, hlk⟩ := X
  subst hv
  refine fun H locs L hM hA hS hL => va_get (D := D) (ci := ci) (v := m_cv ad (m_fv (β k j) k f (μ k j))) (C := C) (T := T) (N := nF) hx hb hts hin hown hK hM.1 k (m_ws_at hk |>.trans (by rw [m_pic_obj hs])) hc j hj (hts _ hlink) (fun _ h9 => h9) ?_ hd (kk H locs L hM hA hS hL)
  rw [m_obj_at hf, m_cv_fv]
theorem m_put {D : va_G} {cA : Nat → ClassId} {ad : Nat → Nat} {N : Nat} {β : Nat → Nat → Bool} {μ : Mu} {H H1 : Heap} {k ci j : Nat} {x : Int32} (hs : sh k = .inl ci) (hf : (fk ci)[j]? = some none) (hM : Mem D cA ad N β μ H) (h1 : va_P D vwCl ((m_ws cA ad β μ N).set k (ad k, .inr (ci, (m_obj ad (β k) k (fk ci) (μ k)).set j (.int x)))) H1) : Mem D cA ad N β (m_up μ k j x) H1 := by
  rw [m_ws_set (β2 := β) (μ2 := m_up μ k j x) (by rw [m_pic_obj hs]; exact congrArg (fun z => Sum.inr (ci, z)) (m_obj_set hf (by rw [m_up_self]; rfl) (fun _ _ => rfl) (fun i hi => m_up_ne (fun q => hi q.2)))) (fun i hi => m_pic_congr rfl (m_up_row hi))] at h1
  refine ⟨h1, hM.2.1, fun i t n hi hq i2 => ?_, hM.2.2.2⟩
  have hik : i ≠ k := fun q => by rw [q, hs] at hq; cases hq
  rw [m_up_row hik]
  exact hM.2.2.1 i t n hi hq i2
theorem AW.put (X : Cx G nL cc own Ts) {k ci j nF index : Nat} {C : String} {T : u_T} {x : Int32} {ty : FieldType} (ty0 : Nat → FieldType) (hk : k < N) (hs : sh k = .inl ci) (hc : vwCl[ci]? = some (C, T, nF)) (hin : ∀ w ∈ u_ws C T nF, w ∈ Ts) (hty : ∀ k, k < nF → parseFieldDescriptor (T k).2.2.1 = some (ty0 k)) (hnm : ∀ a, a < nF → ∀ b, b < nF → a ≠ b → (T a).2.1 ≠ (T b).2.1) (hj : j < nF) (hlink : Cond.fieldLink own index (T j).1 (T j).2.1 (T j).2.2.1 ∈ Ts) (hf : (fk ci)[j]? = some none) (hfin : (T j).2.2.2 = false) (ht : ty0 j = ty) (hn : narrow ty (.int x) = .int x) (hfit : fits ty (.int x) = true) (hd : decode cc pc = .ok (.putfield index, 3)) (kk : AW G R nL (cells, slots, ad, N, β) (pc + 3) lv st (m_up μ k j x)) : AW G R nL (cells, slots, ad, N, β) pc lv (.int x :: .ref k :: st) μ := by
  obtain ⟨p, l, e, s, m, args, below, meth, c, Q, D, cA, sa, A⟩ := G
  obtain ⟨hx, hb, hml, hown, hts, hK, hSt, hlk⟩ := X
  refine fun H locs L hM hA hS hL => va_put (D := D) (ci := ci) (v := .int x) (ty := ty) (C := C) (T := T) (N := nF) hx hb hts hin ty0 hty hnm hown hK hM.1 (hM.D hA.1) hS k (m_ws_at hk |>.trans (by rw [m_pic_obj hs])) hc j hj (hts _ hlink) (fun _ h9 => h9) hfin (by rw [hty j hj, ht]) hn hfit (by rw [m_obj_len]; exact (List.getElem?_eq_some_iff.mp hf).1) hd (fun H1 locs1 h1 h2 h3 => ?_)
  exact kk H1 locs1 L (m_put hs hf hM h1) hA h3 hL
theorem AW.putFI (X : Cx G nL cc own Ts) {k ci j nF index : Nat} {C : String} {T : u_T} {x : Int32} {ty : FieldType} (ty0 : Nat → FieldType) (hin2 : G.2.2.2.2.2.2.2.1.name = "<init>") (hk : k < N) (hs : sh k = .inl ci) (hc : vwCl[ci]? = some (C, T, nF)) (hin : ∀ w ∈ u_ws C T nF, w ∈ Ts) (hty : ∀ k, k < nF → parseFieldDescriptor (T k).2.2.1 = some (ty0 k)) (hnm : ∀ a, a < nF → ∀ b, b < nF → a ≠ b → (T a).2.1 ≠ (T b).2.1) (hj : j < nF) (hlink : Cond.fieldLink own index (T j).1 (T j).2.1 (T j).2.2.1 ∈ Ts) (hf : (fk ci)[j]? = some none) (hfin : (T j).2.2.2 = true) (hdc : (T j).1 = own) (ht : ty0 j = ty) (hn : narrow ty (.int x) = .int x) (hfit : fits ty (.int x) = true) (hd : decode cc pc = .ok (.putfield index, 3)) (kk : AW G R nL (cells, slots, ad, N, β) (pc + 3) lv st (m_up μ k j x)) : AW G R nL (cells, slots, ad, N, β) pc lv (.int x :: .ref k :: st) μ := by
  obtain ⟨p, l, e, s, m, args, below, meth, c, Q, D, cA, sa, A⟩ := G
  obtain ⟨hx, hb, hml, hown, hts, hK, hSt, hlk⟩ := X
  refine fun H locs L hM hA hS hL => va_putF (D := D) (ci := ci) (v := .int x) (ty := ty) (C := C) (T := T) (N := nF) hx hb hts hin ty0 hty hnm hown hK hM.1 (hM.D hA.1) hS k (m_ws_at hk |>.trans (by rw [m_pic_obj hs])) hc j hj (hts _ hlink) (fun _ h9 => h9) hfin hin2 hdc (by rw [hty j hj, ht]) hn hfit (by rw [m_obj_len]; exact (List.getElem?_eq_some_iff.mp hf).1) hd (fun H1 locs1 h1 h2 h3 => ?_)
  exact kk H1 locs1 L (m_put hs hf hM h1) hA h3 hL
def m_bu (β : Nat → Nat → Bool) (k j : Nat) : Nat → Nat → Bool := fun a b => if a = k ∧ b = j then true else β a b
theorem m_bu_row {β : Nat → Nat → Bool} {k j a : Nat} (h : a ≠ k) : m_bu β k j a = β a := funext fun b => if_neg (fun q => h q.1)
theorem m_bu_self {β : Nat → Nat → Bool} {k j : Nat} : m_bu β k j k j = true := if_pos ⟨rfl, rfl⟩
theorem m_bu_ne {β : Nat → Nat → Bool} {k j b : Nat} (h : b ≠ j) : m_bu β k j k b = β k b := if_neg (fun q => h q.2)
theorem m_putS {D : va_G} {cA : Nat → ClassId} {ad : Nat → Nat} {N : Nat} {β : Nat → Nat → Bool} {μ : Mu} {H H1 : Heap} {k ci j o : Nat} (hs : sh k = .inl ci) (hf : (fk ci)[j]? = some (some o)) (ho : k + o < N) (hM : Mem D cA ad N β μ H) (h1 : va_P D vwCl ((m_ws cA ad β μ N).set k (ad k, .inr (ci, (m_obj ad (β k) k (fk ci) (μ k)).set j (.ref (ad (k + o)))))) H1) : Mem D cA ad N (m_bu β k j) μ H1 := by
  rw [m_ws_set (β2 := m_bu β k j) (μ2 := μ) (by rw [m_pic_obj hs]; exact congrArg (fun z => Sum.inr (ci, z)) (m_obj_set hf (by rw [m_bu_self]; rfl) (fun i hi => m_bu_ne hi) (fun _ _ => rfl))) (fun i hi => m_pic_congr (m_bu_row hi) rfl)] at h1
  refine ⟨h1, hM.2.1, hM.2.2.1, fun i ci2 j2 o2 hi hq hf2 hb2 => ?_⟩
  by_cases hik : i = k ∧ j2 = j
  · obtain ⟨rfl, rfl⟩ := hik
    rw [hs] at hq
    cases hq
    rw [hf] at hf2
    cases hf2
    exact ho
  · exact hM.2.2.2 i ci2 j2 o2 hi hq hf2 (by rw [← hb2]; exact (if_neg hik).symm)
theorem AW.putFS (X : Cx G nL cc own Ts) {k k2 ci j nF index o : Nat} {C : String} {T : u_T} {ty : FieldType} {β2 : Nat → Nat → Bool} (ty0 : Nat → FieldType) (hin2 : G.2.2.2.2.2.2.2.1.name = "<init>") (hk : k < N) (hs : sh k = .inl ci) (hc : vwCl[ci]? = some (C, T, nF)) (hin : ∀ w ∈ u_ws C T nF, w ∈ Ts) (hty : ∀ k, k < nF → parseFieldDescriptor (T k).2.2.1 = some (ty0 k)) (hnm : ∀ a, a < nF → ∀ b, b < nF → a ≠ b → (T a).2.1 ≠ (T b).2.1) (hj : j < nF) (hlink : Cond.fieldLink own index (T j).1 (T j).2.1 (T j).2.2.1 ∈ Ts) (hf : (fk ci)[j]? = some (some o)) (hfin : (T j).2.2.2 = true) (hdc : (T j).1 = own) (ht : ty0 j = ty) (hn : ∀ z : Nat, narrow ty (.ref z) = .ref z) (hfit : ∀ z : Nat, fits ty (.ref z) = true) (hk2 : k2 = k + o) (hk3 : k + o < N) (hβ : β2 = m_bu β k j) (hd : decode cc pc = .ok (.putfield index, 3)) (kk : AW G R nL (cells, slots, ad, N, β2) (pc + 3) lv st μ) : AW G R nL (cells, slots, ad, N, β) pc lv (.ref k2 :: .ref k :: st) μ := by
  obtain ⟨p, l, e, s, m, args, below, meth, c, Q, D, cA, sa, A⟩ := G
  obtain ⟨hx, hb, hml, hown, hts, hK, hSt, hlk⟩ := X
  subst hβ
  subst hk2
  refine fun H locs L hM hA hS hL => va_putF (D := D) (ci := ci) (v := .ref (ad (k + o))) (ty := ty) (C := C) (T := T) (N := nF) hx hb hts hin ty0 hty hnm hown hK hM.1 (hM.D hA.1) hS k (m_ws_at hk |>.trans (by rw [m_pic_obj hs])) hc j hj (hts _ hlink) (fun _ h9 => h9) hfin hin2 hdc (by rw [hty j hj, ht]) (hn _) (hfit _) (by rw [m_obj_len]; exact (List.getElem?_eq_some_iff.mp hf).1) hd (fun H1 locs1 h1 h2 h3 => ?_)
  exact kk H1 locs1 L (m_putS hs hf hk3 hM h1) hA h3 hL
theorem AW.iald (X : Cx G nL cc own Ts) {k t n : Nat} {i : Int32} (hk : k < N) (hs : sh k = .inr (t, n, 0)) (ht : m_fts[t]? = some .int) (hin : vp_in i n) (hd : decode cc pc = .ok (.iaload, 1)) (kk : AW G R nL (cells, slots, ad, N, β) (pc + 1) lv (.int (μ k i.toNatClampNeg) :: st) μ) : AW G R nL (cells, slots, ad, N, β) pc lv (.int i :: .ref k :: st) μ := by
  obtain ⟨p, l, e, s, m, args, below, meth, c, Q, D, cA, sa, A⟩ := G
  obtain ⟨hx, hb, hml, hown, hts, hK, hSt, hlk⟩ := X
  exact fun H locs L hM hA hS hL => va_iald hx hb hK hM.1 k t (m_ws_at hk |>.trans (by rw [m_pic_arr hs]; rfl)) (m_tys_at ht) hin hd (kk H locs L hM hA hS hL)
theorem AW.zald (X : Cx G nL cc own Ts) {k t n : Nat} {i : Int32} (hk : k < N) (hs : sh k = .inr (t, n, 0)) (ht : m_fts[t]? = some .boolean) (hin : vp_in i n) (hd : decode cc pc = .ok (.baload, 1)) (kk : AW G R nL (cells, slots, ad, N, β) (pc + 1) lv (.int (μ k i.toNatClampNeg) :: st) μ) : AW G R nL (cells, slots, ad, N, β) pc lv (.int i :: .ref k :: st) μ := by
  obtain ⟨p, l, e, s, m, args, below, meth, c, Q, D, cA, sa, A⟩ := G
  obtain ⟨hx, hb, hml, hown, hts, hK, hSt, hlk⟩ := X
  exact fun H locs L hM hA hS hL => va_zald hx hb hK hM.1 k t (m_ws_at hk |>.trans (by rw [m_pic_arr hs]; rfl)) (m_tys_at ht) hin hd (kk H locs L hM hA hS hL)
theorem AW.bald (X : Cx G nL cc own Ts) {k t n : Nat} {i : Int32} (hk : k < N) (hs : sh k = .inr (t, n, 0)) (ht : m_fts[t]? = some .byte) (hin : vp_in i n) (hd : decode cc pc = .ok (.baload, 1)) (kk : AW G R nL (cells, slots, ad, N, β) (pc + 1) lv (.int (μ k i.toNatClampNeg) :: st) μ) : AW G R nL (cells, slots, ad, N, β) pc lv (.int i :: .ref k :: st) μ := by
  obtain ⟨p, l, e, s, m, args, below, meth, c, Q, D, cA, sa, A⟩ := G
  obtain ⟨hx, hb, hml, hown, hts, hK, hSt, hlk⟩ := X
  exact fun H locs L hM hA hS hL => va_bald hx hb hK hM.1 k t (m_ws_at hk |>.trans (by rw [m_pic_arr hs]; rfl)) (m_tys_at ht) hin hd (kk H locs L hM hA hS hL)
theorem AW.lald (X : Cx G nL cc own Ts) {k t n : Nat} {i : Int32} (hk : k < N) (hs : sh k = .inr (t, n, 1)) (ht : m_fts[t]? = some .long) (hin : vp_in i n) (hd : decode cc pc = .ok (.laload, 1)) (kk : AW G R nL (cells, slots, ad, N, β) (pc + 1) lv (.long (μ k i.toNatClampNeg).toInt64 :: st) μ) : AW G R nL (cells, slots, ad, N, β) pc lv (.int i :: .ref k :: st) μ := by
  obtain ⟨p, l, e, s, m, args, below, meth, c, Q, D, cA, sa, A⟩ := G
  obtain ⟨hx, hb, hml, hown, hts, hK, hSt, hlk⟩ := X
  exact fun H locs L hM hA hS hL => va_lald (f := fun j => (μ k j).toInt64) hx hb hK hM.1 k t (m_ws_at hk |>.trans (by rw [m_pic_arr hs]; rfl)) (m_tys_at ht) hin hd (kk H locs L hM hA hS hL)
theorem AW.aald (X : Cx G nL cc own Ts) {k t n : Nat} {C : String} {i : Int32} {v : Value} (hk : k < N) (hs : sh k = .inr (t, n, 2)) (ht : m_fts[t]? = some (.object C)) (hin : vp_in i n) (hv : m_rv (μ k i.toNatClampNeg) = v) (hd : decode cc pc = .ok (.aaload, 1)) (kk : AW G R nL (cells, slots, ad, N, β) (pc + 1) lv (v :: st) μ) : AW G R nL (cells, slots, ad, N, β) pc lv (.int i :: .ref k :: st) μ := by
  obtain ⟨p, l, e, s, m, args, below, meth, c, Q, D, cA, sa, A⟩ := G
  obtain ⟨hx, hb, hml, hown, hts, hK, hSt, hlk⟩ := X
  subst hv
  refine fun H locs L hM hA hS hL => va_aldq (f := fun j => m_ov ad (μ k j)) (C := C) hx hb hK hM.1 k t (m_ws_at hk |>.trans (by rw [m_pic_arr hs]; rfl)) (m_tys_at ht) hin hd ?_
  rw [← m_cv_rv]
  exact kk H locs L hM hA hS hL
theorem AW.alen (X : Cx G nL cc own Ts) {k t n kd : Nat} {v : Int32} {ty : FieldType} (hk : k < N) (hs : sh k = .inr (t, n, kd)) (ht : m_fts[t]? = some ty) (hv : Int32.ofNat n = v) (hd : decode cc pc = .ok (.arraylength, 1)) (kk : AW G R nL (cells, slots, ad, N, β) (pc + 1) lv (.int v :: st) μ) : AW G R nL (cells, slots, ad, N, β) pc lv (.ref k :: st) μ := by
  obtain ⟨p, l, e, s, m, args, below, meth, c, Q, D, cA, sa, A⟩ := G
  obtain ⟨hx, hb, hml, hown, hts, hK, hSt, hlk⟩ := X
  exact fun H locs L hM hA hS hL => va_alen (x := (n, m_arr ad kd (μ k))) hx hb hK hM.1 k t (m_ws_at hk |>.trans (by rw [m_pic_arr hs])) (m_tys_at ht) hv hd (kk H locs L hM hA hS hL)
theorem m_ast {D : va_G} {cA : Nat → ClassId} {ad : Nat → Nat} {N : Nat} {β : Nat → Nat → Bool} {μ : Mu} {H H1 : Heap} {k t n kd j : Nat} {x : Int32} {y : (Nat → Int32) ⊕ (Nat → Int64) ⊕ (Nat → UInt32) ⊕ (Nat → UInt64) ⊕ (Nat → Option Nat)} (hs : sh k = .inr (t, n, kd)) (hy : m_arr ad kd (upd (μ k) j x) = y) (hw : kd = 2 → x = 0 ∨ x.toNatClampNeg - 1 < N) (hM : Mem D cA ad N β μ H) (h1 : va_P D vwCl ((m_ws cA ad β μ N).set k (ad k, .inl (cA t, n, y))) H1) : Mem D cA ad N β (m_up μ k j x) H1 := by
  rw [m_ws_set (β2 := β) (μ2 := m_up μ k j x) (by rw [m_pic_arr hs, m_up_at, hy]) (fun i hi => m_pic_congr rfl (m_up_row hi))] at h1
  refine ⟨h1, hM.2.1, fun i t2 n2 hi hq i2 => ?_, hM.2.2.2⟩
  by_cases hik : i = k ∧ i2 = j
  · obtain ⟨rfl, rfl⟩ := hik
    rw [m_up_self]
    rw [hs] at hq
    cases hq
    exact hw rfl
  · rw [m_up_ne hik]
    exact hM.2.2.1 i t2 n2 hi hq i2
theorem AW.iast (X : Cx G nL cc own Ts) {k t n : Nat} {i x : Int32} (hk : k < N) (hs : sh k = .inr (t, n, 0)) (ht : m_fts[t]? = some .int) (hin : vp_in i n) (hd : decode cc pc = .ok (.iastore, 1)) (kk : AW G R nL (cells, slots, ad, N, β) (pc + 1) lv st (m_up μ k i.toNatClampNeg x)) : AW G R nL (cells, slots, ad, N, β) pc lv (.int x :: .int i :: .ref k :: st) μ := by
  obtain ⟨p, l, e, s, m, args, below, meth, c, Q, D, cA, sa, A⟩ := G
  obtain ⟨hx, hb, hml, hown, hts, hK, hSt, hlk⟩ := X
  refine fun H locs L hM hA hS hL => va_iast hx hb hK hM.1 (hM.D hA.1) hS k t (m_ws_at hk |>.trans (by rw [m_pic_arr hs]; rfl)) (m_tys_at ht) hin hd (fun H1 locs1 h1 h2 h3 => ?_)
  exact kk H1 locs1 L (m_ast hs rfl (fun h => by cases h) hM h1) hA h3 hL
theorem AW.bast (X : Cx G nL cc own Ts) {k t n : Nat} {i x : Int32} (hk : k < N) (hs : sh k = .inr (t, n, 0)) (ht : m_fts[t]? = some .byte) (hin : vp_in i n) (hnr : vp_nar .byte x = x) (hd : decode cc pc = .ok (.bastore, 1)) (kk : AW G R nL (cells, slots, ad, N, β) (pc + 1) lv st (m_up μ k i.toNatClampNeg x)) : AW G R nL (cells, slots, ad, N, β) pc lv (.int x :: .int i :: .ref k :: st) μ := by
  obtain ⟨p, l, e, s, m, args, below, meth, c, Q, D, cA, sa, A⟩ := G
  obtain ⟨hx, hb, hml, hown, hts, hK, hSt, hlk⟩ := X
  refine fun H locs L hM hA hS hL => va_bast hx hb hK hM.1 (hM.D hA.1) hS k t (m_ws_at hk |>.trans (by rw [m_pic_arr hs]; rfl)) (m_tys_at ht) hin hd (fun H1 locs1 h1 h2 h3 => ?_)
  rw [hnr] at h1
  exact kk H1 locs1 L (m_ast hs rfl (fun h => by cases h) hM h1) hA h3 hL
theorem AW.zast (X : Cx G nL cc own Ts) {k t n : Nat} {i x : Int32} (hk : k < N) (hs : sh k = .inr (t, n, 0)) (ht : m_fts[t]? = some .boolean) (hin : vp_in i n) (hnr : vp_nar .boolean x = x) (hd : decode cc pc = .ok (.bastore, 1)) (kk : AW G R nL (cells, slots, ad, N, β) (pc + 1) lv st (m_up μ k i.toNatClampNeg x)) : AW G R nL (cells, slots, ad, N, β) pc lv (.int x :: .int i :: .ref k :: st) μ := by
  obtain ⟨p, l, e, s, m, args, below, meth, c, Q, D, cA, sa, A⟩ := G
  obtain ⟨hx, hb, hml, hown, hts, hK, hSt, hlk⟩ := X
  refine fun H locs L hM hA hS hL => va_zast hx hb hK hM.1 (hM.D hA.1) hS k t (m_ws_at hk |>.trans (by rw [m_pic_arr hs]; rfl)) (m_tys_at ht) hin hd (fun H1 locs1 h1 h2 h3 => ?_)
  rw [hnr] at h1
  exact kk H1 locs1 L (m_ast hs rfl (fun h => by cases h) hM h1) hA h3 hL
theorem AW.last (X : Cx G nL cc own Ts) {k t n : Nat} {i x : Int32} (hk : k < N) (hs : sh k = .inr (t, n, 1)) (ht : m_fts[t]? = some .long) (hin : vp_in i n) (hd : decode cc pc = .ok (.lastore, 1)) (kk : AW G R nL (cells, slots, ad, N, β) (pc + 1) lv st (m_up μ k i.toNatClampNeg x)) : AW G R nL (cells, slots, ad, N, β) pc lv (.long x.toInt64 :: .int i :: .ref k :: st) μ := by
  obtain ⟨p, l, e, s, m, args, below, meth, c, Q, D, cA, sa, A⟩ := G
  obtain ⟨hx, hb, hml, hown, hts, hK, hSt, hlk⟩ := X
  refine fun H locs L hM hA hS hL => va_last (f := fun j => (μ k j).toInt64) hx hb hK hM.1 (hM.D hA.1) hS k t (m_ws_at hk |>.trans (by rw [m_pic_arr hs]; rfl)) (m_tys_at ht) hin hd (fun H1 locs1 h1 h2 h3 => ?_)
  refine kk H1 locs1 L (m_ast hs ?_ (fun h => by cases h) hM h1) hA h3 hL
  show Sum.inr (Sum.inl _) = _
  congr 2
  funext j
  by_cases hj : j = i.toNatClampNeg
  · subst hj
    simp [upd, vp_updL]
  · simp [upd, vp_updL, hj]
theorem AW.aast (X : Cx G nL cc own Ts) {k v t n ci : Nat} {r : vw_C} {i x : Int32} (hk : k < N) (hv : v < N) (hs : sh k = .inr (t, n, 2)) (ht : m_fts[t]? = some (.object r.1)) (hsv : sh v = .inl ci) (hc : vwCl[ci]? = some r) (hx0 : ¬ x = 0) (hxv : x.toNatClampNeg - 1 = v) (hin : vp_in i n) (hd : decode cc pc = .ok (.aastore, 1)) (kk : AW G R nL (cells, slots, ad, N, β) (pc + 1) lv st (m_up μ k i.toNatClampNeg x)) : AW G R nL (cells, slots, ad, N, β) pc lv (.ref v :: .int i :: .ref k :: st) μ := by
  obtain ⟨p, l, e, s, m, args, below, meth, c, Q, D, cA, sa, A⟩ := G
  obtain ⟨hx, hb, hml, hown, hts, hK, hSt, hlk⟩ := X
  refine fun H locs L hM hA hS hL => va_astq (f := fun j => m_ov ad (μ k j)) (r := r) (vs := m_obj ad (β v) v (fk ci) (μ v)) hx hb hK hM.1 (hM.D hA.1) hS k t v ci (m_ws_at hk |>.trans (by rw [m_pic_arr hs]; rfl)) (m_tys_at ht) (m_ws_at hv |>.trans (by rw [m_pic_obj hsv])) hc hin hd (fun H1 locs1 h1 h2 h3 => ?_)
  refine kk H1 locs1 L (m_ast hs ?_ (fun _ => Or.inr (by rw [hxv]; exact hv)) hM h1) hA h3 hL
  show Sum.inr (Sum.inr (Sum.inr (Sum.inr _))) = _
  congr 4
  funext j
  by_cases hj : j = i.toNatClampNeg
  · subst hj
    simp [upd, va_up, m_ov, hx0, hxv]
  · simp [upd, va_up, hj]
theorem m_rest (ad : Nat → Nat) (v : Option Value) (rest : List Value) : (v.map (m_cv ad)).toList ++ rest.map (m_cv ad) = (v.toList ++ rest).map (m_cv ad) := by cases v <;> rfl
theorem m_cats (ad : Nat → Nat) (rest : List Value) : (rest.map (m_cv ad)).map (fun v => v.category) = rest.map (fun v => v.category) := by
  rw [List.map_map]
  congr 1
  funext v
  exact m_cv_cat ad v
/-- room of a method that makes no cell: d frames may stand above it -/
def rmD (d : Nat) : Room := { frames := d, cells := 0, slots := 0, locals := 28 * d }
def fb : Nat → Nat → Bool := fun _ _ => true
abbrev KTy : Type := Launch × va_G × (Nat → ClassId) × (Nat → Nat) × (Nat → Prop) × (Nat → Nat) × Nat
def kOf (G : GTy) (ad : Nat → Nat) (N : Nat) : KTy := (G.2.1, G.2.2.2.2.2.2.2.2.2.2.1, G.2.2.2.2.2.2.2.2.2.2.2.1, G.2.2.2.2.2.2.2.2.2.2.2.2.1, G.2.2.2.2.2.2.2.2.2.2.2.2.2, ad, N)
def CTp (K : KTy) (av : List Value) (μ : Mu) : Array Value → State → Prop := match K with
  | (l, D, cA, sa, A, ad, N) => fun v U => v = (av.map (m_cv ad)).toArray ∧ Mem D cA ad N fb μ U.heap ∧ va_K D vwCl (m_tys cA) U ∧ m_S sa A U ∧ (∀ k, k < N → A (ad k)) ∧ ∀ i, ad (SB + i) = sa i
def CTq (K : KTy) (Qr : Option Value → Mu → Prop) : Array Value → State → Outcome → State → Prop := match K with
  | (l, D, cA, sa, A, ad, N) => fun _ st oc t => (∃ (v : Option Value) (μ2 : Mu), oc = .returned (v.map (m_cv ad)) ∧ Qr v μ2 ∧ Mem D cA ad N fb μ2 t.heap) ∧ va_F A st t
/-- the contract of a method that makes no cell -/
def CT (K : KTy) (y : MethodName) (ws : List Cond) (d : Nat) (av : List Value) (μ : Mu) (Qr : Option Value → Mu → Prop) : Prop := Met K.1 y ws (rmD d) (CTp K av μ) (CTq K Qr) 0 0 K.2.2.2.2.1
theorem CTp.blind (K : KTy) (av : List Value) (μ : Mu) : FrameBlind (CTp K av μ) := by
  obtain ⟨l, D, cA, sa, A, ad, N⟩ := K
  intro a U g mk q
  obtain ⟨q0, q1, q2, q3, q4⟩ := q
  exact ⟨q0, q1, va_K.moved (u := U) (U := U.calling g mk a) (Vm.Alike.refl U.vm) q2, m_S.calling q3, q4⟩
theorem CTp.pre {l : Launch} {D : va_G} {cA : Nat → ClassId} {sa : Nat → Nat} {A : Nat → Prop} {ad : Nat → Nat} {N : Nat} {μ : Mu} {H : Heap} {s : State} {locs : List Loc} (av : List Value) (hM : Mem D cA ad N fb μ H) (hK : va_K D vwCl (m_tys cA) s) (hSt : m_S sa A s) (hA : (∀ k, k < N → A (ad k)) ∧ ∀ i, ad (SB + i) = sa i) (hS : va_S A s.heap H locs) : ∀ U : State, U.heap = H → s.WarmedH U.vm → CTp (l, D, cA, sa, A, ad, N) av μ (av.map (m_cv ad)).toArray U := fun U hU hW =>
  ⟨rfl, by rw [hU]; exact hM, va_K.moved hW.alike hK, hSt.at_ hS hW hU, hA.1, hA.2⟩
theorem AW.callV (X : Cx G nL cc own Ts) {y : MethodName} {ws ws' : List Cond} {bytes : ByteArray} {maxL d index nA : Nat} {ret : Option FieldType} {b ci nF : Nat} {C : String} {T : u_T} (As rest : List Value) {Qr : Option Value → Mu → Prop} (hC : CT (kOf G ad N) y ws d (.ref b :: As) μ Qr) (hT : GoodIn Ts (wsV own index C y ws)) (hw : ws = Cond.code y bytes maxL ret :: ws') (hdd : y.cls = C ∧ y.cls ≠ "java/lang/invoke/MethodHandle" ∧ y.cls ≠ "java/lang/invoke/VarHandle" ∧ (parseMethodDescriptor y.desc).map (fun d => d.parameters.length) = some nA) (hnA : As.length = nA) (hbN : b < N) (hs : sh b = .inl ci) (hc : vwCl[ci]? = some (C, T, nF)) (hR : (rmD d).frames + 1 ≤ R.frames ∧ 8 + (maxL + 11) + (rmD d).locals ≤ R.locals) (hf : cells ≤ R.cells ∧ slots ≤ R.slots) (hrm : (rest.map fun v => v.category).sum ≤ 8) (hd : decode cc pc = .ok (.invokevirtual index, 3)) (hst : st = As.reverse ++ .ref b :: rest) (kk : ∀ (v : Option Value) (μ2 : Mu), Qr v μ2 → AW G R nL (cells, slots, ad, N, fb) (pc + 3) lv (v.toList ++ rest) μ2) : AW G R nL (cells, slots, ad, N, fb) pc lv st μ := by
  obtain ⟨p, l, e, s, m, args, below, meth, c, Q, D, cA, sa, A⟩ := G
  obtain ⟨hx, hb, hml, hown, hts, hK, hSt, hlk⟩ := X
  subst hst
  intro H locs L hM hA hS hL
  have hrun := va_runV (C := C) (b := ad b) (p := p) (e := e) (R := R) (below := below) (meth := meth) (locs := locs) (cells := cells) (slots := slots) (As := As.map (m_cv ad)) (rest := rest.map (m_cv ad)) (g := F0 m pc L ((As.reverse ++ .ref b :: rest).map (m_cv ad))) ⟨hx, hb, hml, hown, hts⟩ hC (cwV nA hts hT hw rfl rfl hdd hR) ⟨CTp.blind _ _ _, va_recv hK hM.1 hc (m_ws_at hbN |>.trans (by rw [m_pic_obj hs])), CTp.pre (.ref b :: As) hM hK hSt hA hS⟩ rfl (by rw [List.length_map]; exact hnA) hL.1 (by rw [List.map_append, List.map_reverse] <;> rfl) (lv_room (by rw [m_cats]; exact hrm)) hd hf
  intro T hT X
  obtain ⟨v, st₀, t, T', Lx, h0, X', hLx, e1, e2, ⟨⟨v2, μ2, hv, hq, hm⟩, hz, hk⟩, st⟩ := hrun T hT X
  cases hv
  rw [h0] at hz hk
  rw [m_rest] at st
  have hm' : Mem D cA ad N fb μ2 T'.heap := by rw [e1]; exact hm
  have hS' : va_S A s.heap T'.heap (locs ++ Lx) := ⟨Nat.le_trans hS.1 (by rw [e1]; exact hz), fun q h1 h2 => by rw [e1, hk q (Nat.lt_of_lt_of_le h1 hS.1) h2]; exact hS.2.1 q h1 h2, fun q hq => by
      rcases List.mem_append.mp hq with h | h
      · exact hS.2.2 q h
      · exact hLx q h⟩
  obtain ⟨t2, a1, b1⟩ := kk v2 μ2 hq T'.heap (locs ++ Lx) L hm' hA hS' hL T' rfl X'
  exact ⟨t2, st t2 a1, b1⟩
theorem AW.callS (X : Cx G nL cc own Ts) {y : MethodName} {ws ws' : List Cond} {bytes : ByteArray} {maxL d index nA : Nat} {ret : Option FieldType}  (As rest : List Value) {Qr : Option Value → Mu → Prop} (hC : CT (kOf G ad N) y ws d (As) μ Qr) (hT : GoodIn Ts (wsS own index y ws)) (hw : ws = Cond.code y bytes maxL ret :: ws') (hdd : y.cls = own ∧ y.cls ≠ "java/lang/invoke/MethodHandle" ∧ y.cls ≠ "java/lang/invoke/VarHandle" ∧ (parseMethodDescriptor y.desc).map (fun d => d.parameters.length) = some nA) (hnA : As.length = nA) (hR : (rmD d).frames + 1 ≤ R.frames ∧ 8 + (maxL + 11) + (rmD d).locals ≤ R.locals) (hf : cells ≤ R.cells ∧ slots ≤ R.slots) (hrm : (rest.map fun v => v.category).sum ≤ 8) (hd : decode cc pc = .ok (.invokestatic index, 3)) (hst : st = As.reverse ++ rest) (kk : ∀ (v : Option Value) (μ2 : Mu), Qr v μ2 → AW G R nL (cells, slots, ad, N, fb) (pc + 3) lv (v.toList ++ rest) μ2) : AW G R nL (cells, slots, ad, N, fb) pc lv st μ := by
  obtain ⟨p, l, e, s, m, args, below, meth, c, Q, D, cA, sa, A⟩ := G
  obtain ⟨hx, hb, hml, hown, hts, hK, hSt, hlk⟩ := X
  subst hst
  intro H locs L hM hA hS hL
  have hrun := va_runS (p := p) (e := e) (R := R) (below := below) (meth := meth) (locs := locs) (cells := cells) (slots := slots) (As := As.map (m_cv ad)) (rest := rest.map (m_cv ad)) (g := F0 m pc L ((As.reverse ++ rest).map (m_cv ad))) ⟨hx, hb, hml, hown, hts⟩ hC (cwS nA hts hT hw rfl rfl hdd hR) ⟨CTp.blind _ _ _, CTp.pre As hM hK hSt hA hS⟩ rfl (by rw [List.length_map]; exact hnA) hL.1 (by rw [List.map_append, List.map_reverse] <;> rfl) (lv_room (by rw [m_cats]; exact hrm)) hd hf
  intro T hT X
  obtain ⟨v, st₀, t, T', Lx, h0, X', hLx, e1, e2, ⟨⟨v2, μ2, hv, hq, hm⟩, hz, hk⟩, st⟩ := hrun T hT X
  cases hv
  rw [h0] at hz hk
  rw [m_rest] at st
  have hm' : Mem D cA ad N fb μ2 T'.heap := by rw [e1]; exact hm
  have hS' : va_S A s.heap T'.heap (locs ++ Lx) := ⟨Nat.le_trans hS.1 (by rw [e1]; exact hz), fun q h1 h2 => by rw [e1, hk q (Nat.lt_of_lt_of_le h1 hS.1) h2]; exact hS.2.1 q h1 h2, fun q hq => by
      rcases List.mem_append.mp hq with h | h
      · exact hS.2.2 q h
      · exact hLx q h⟩
  obtain ⟨t2, a1, b1⟩ := kk v2 μ2 hq T'.heap (locs ++ Lx) L hm' hA hS' hL T' rfl X'
  exact ⟨t2, st t2 a1, b1⟩
theorem AW.ialdN (X : Cx G nL cc own Ts) {k t n j : Nat} (hk : k < N) (hs : sh k = .inr (t, n, 0)) (ht : m_fts[t]? = some .int) (hj : j < n) (hn : n ≤ 1000) (hd : decode cc pc = .ok (.iaload, 1)) (kk : AW G R nL (cells, slots, ad, N, β) (pc + 1) lv (.int (μ k j) :: st) μ) : AW G R nL (cells, slots, ad, N, β) pc lv (.int (nI j) :: .ref k :: st) μ := by
  refine AW.iald X hk hs ht (vp_in_nI hj (by omega)) hd ?_
  rw [nI_clamp (by omega)]
  exact kk
theorem AW.zaldN (X : Cx G nL cc own Ts) {k t n j : Nat} (hk : k < N) (hs : sh k = .inr (t, n, 0)) (ht : m_fts[t]? = some .boolean) (hj : j < n) (hn : n ≤ 1000) (hd : decode cc pc = .ok (.baload, 1)) (kk : AW G R nL (cells, slots, ad, N, β) (pc + 1) lv (.int (μ k j) :: st) μ) : AW G R nL (cells, slots, ad, N, β) pc lv (.int (nI j) :: .ref k :: st) μ := by
  refine AW.zald X hk hs ht (vp_in_nI hj (by omega)) hd ?_
  rw [nI_clamp (by omega)]
  exact kk
theorem AW.baldN (X : Cx G nL cc own Ts) {k t n j : Nat} (hk : k < N) (hs : sh k = .inr (t, n, 0)) (ht : m_fts[t]? = some .byte) (hj : j < n) (hn : n ≤ 1000) (hd : decode cc pc = .ok (.baload, 1)) (kk : AW G R nL (cells, slots, ad, N, β) (pc + 1) lv (.int (μ k j) :: st) μ) : AW G R nL (cells, slots, ad, N, β) pc lv (.int (nI j) :: .ref k :: st) μ := by
  refine AW.bald X hk hs ht (vp_in_nI hj (by omega)) hd ?_
  rw [nI_clamp (by omega)]
  exact kk
theorem AW.aaldN (X : Cx G nL cc own Ts) {k t n j : Nat} {C : String} {v : Value} (hk : k < N) (hs : sh k = .inr (t, n, 2)) (ht : m_fts[t]? = some (.object C)) (hj : j < n) (hn : n ≤ 1000) (hv : m_rv (μ k j) = v) (hd : decode cc pc = .ok (.aaload, 1)) (kk : AW G R nL (cells, slots, ad, N, β) (pc + 1) lv (v :: st) μ) : AW G R nL (cells, slots, ad, N, β) pc lv (.int (nI j) :: .ref k :: st) μ :=
  AW.aald X hk hs ht (vp_in_nI hj (by omega)) (by rw [nI_clamp (by omega)]; exact hv) hd kk
theorem AW.iastN (X : Cx G nL cc own Ts) {k t n j : Nat} {x : Int32} (hk : k < N) (hs : sh k = .inr (t, n, 0)) (ht : m_fts[t]? = some .int) (hj : j < n) (hn : n ≤ 1000) (hd : decode cc pc = .ok (.iastore, 1)) (kk : AW G R nL (cells, slots, ad, N, β) (pc + 1) lv st (m_up μ k j x)) : AW G R nL (cells, slots, ad, N, β) pc lv (.int x :: .int (nI j) :: .ref k :: st) μ := by
  refine AW.iast X hk hs ht (vp_in_nI hj (by omega)) hd ?_
  rw [nI_clamp (by omega)]
  exact kk
theorem AW.bastN (X : Cx G nL cc own Ts) {k t n j : Nat} {x : Int32} (hk : k < N) (hs : sh k = .inr (t, n, 0)) (ht : m_fts[t]? = some .byte) (hj : j < n) (hn : n ≤ 1000) (hnr : vp_nar .byte x = x) (hd : decode cc pc = .ok (.bastore, 1)) (kk : AW G R nL (cells, slots, ad, N, β) (pc + 1) lv st (m_up μ k j x)) : AW G R nL (cells, slots, ad, N, β) pc lv (.int x :: .int (nI j) :: .ref k :: st) μ := by
  refine AW.bast X hk hs ht (vp_in_nI hj (by omega)) hnr hd ?_
  rw [nI_clamp (by omega)]
  exact kk
theorem AW.zastN (X : Cx G nL cc own Ts) {k t n j : Nat} {x : Int32} (hk : k < N) (hs : sh k = .inr (t, n, 0)) (ht : m_fts[t]? = some .boolean) (hj : j < n) (hn : n ≤ 1000) (hnr : vp_nar .boolean x = x) (hd : decode cc pc = .ok (.bastore, 1)) (kk : AW G R nL (cells, slots, ad, N, β) (pc + 1) lv st (m_up μ k j x)) : AW G R nL (cells, slots, ad, N, β) pc lv (.int x :: .int (nI j) :: .ref k :: st) μ := by
  refine AW.zast X hk hs ht (vp_in_nI hj (by omega)) hnr hd ?_
  rw [nI_clamp (by omega)]
  exact kk
theorem AW.aastN (X : Cx G nL cc own Ts) {k v t n ci j : Nat} {r : vw_C} (hk : k < N) (hv : v < N) (hv2 : v < 100000) (hs : sh k = .inr (t, n, 2)) (ht : m_fts[t]? = some (.object r.1)) (hsv : sh v = .inl ci) (hc : vwCl[ci]? = some r) (hj : j < n) (hn : n ≤ 1000) (hd : decode cc pc = .ok (.aastore, 1)) (kk : AW G R nL (cells, slots, ad, N, β) (pc + 1) lv st (m_up μ k j (nI (v + 1)))) : AW G R nL (cells, slots, ad, N, β) pc lv (.ref v :: .int (nI j) :: .ref k :: st) μ := by
  refine AW.aast X hk hv hs ht hsv hc (nI_ne0 (Nat.succ_pos v) (by omega)) (by rw [nI_clamp (by omega)]; rfl) (vp_in_nI hj (by omega)) hd ?_
  rw [nI_clamp (by omega)]
  exact kk
end AWrows
theorem i_lt {x y : Int32} {a b : Int} (hx : x.toInt = a) (hy : y.toInt = b) : x < y ↔ a < b := by rw [Int32.lt_iff_toInt_lt, hx, hy]
theorem i_le {x y : Int32} {a b : Int} (hx : x.toInt = a) (hy : y.toInt = b) : x ≤ y ↔ a ≤ b := by rw [Int32.le_iff_toInt_le, hx, hy]
theorem i_eq {x y : Int32} {a b : Int} (hx : x.toInt = a) (hy : y.toInt = b) : x = y ↔ a = b := by rw [← Int32.toInt_inj, hx, hy]
def bi (b : Bool) : Int32 := if b = true then 1 else 0
theorem bi_nar (b : Bool) : narrow .boolean (.int (bi b)) = .int (bi b) := by cases b <;> rfl
theorem bi_ne {b : Bool} : ¬ bi b = 0 ↔ b = true := by cases b <;> decide
theorem bi_eq {b : Bool} : bi b = 0 ↔ b = false := by cases b <;> decide
theorem gv_V {k2 : Cond} {own C : String} {index : Nat} {y : MethodName} (h1 : Cond.methodLink own index y ∈ GT) (h2 : Cond.instanceMethod y ∈ GT) (h3 : Cond.selects C y y ∈ GT) (h4 : Cond.initialized C ∈ GT) (h5 : k2 ∈ GT) : GoodIn GT (wsV own index C y (k2 :: GT)) := by
  intro w hw
  have : w ∈ GT := by
    simp only [wsV, List.cons_append, List.nil_append, List.mem_cons] at hw
    rcases hw with rfl | rfl | rfl | rfl | rfl | hw
    · exact h1
    · exact h2
    · exact h3
    · exact h4
    · exact h5
    · exact hw
  exact ⟨this, gt_good this⟩
theorem gv_S {k2 : Cond} {own : String} {index : Nat} {y : MethodName} (h1 : Cond.methodLink own index y ∈ GT) (h2 : Cond.static y ∈ GT) (h4 : Cond.initialized own ∈ GT) (h5 : k2 ∈ GT) : GoodIn GT (wsS own index y (k2 :: GT)) := by
  intro w hw
  have : w ∈ GT := by
    simp only [wsS, List.cons_append, List.nil_append, List.mem_cons] at hw
    rcases hw with rfl | rfl | rfl | rfl | hw
    · exact h1
    · exact h2
    · exact h4
    · exact h5
    · exact hw
  exact ⟨this, gt_good this⟩
theorem lv_args_m (ad : Nat → Nat) : ∀ (vs : List Value) (i : Nat), lv_args i (vs.map (m_cv ad)) = m_lv ad (lv_args i vs)
  | [], _ => rfl
  | v :: vs, i => by
    show (i, m_cv ad v) :: lv_args _ _ = (i, m_cv ad v) :: m_lv ad (lv_args _ vs)
    rw [m_cv_cat, lv_args_m ad vs]
theorem lg_sl_m (ad : Nat → Nat) : ∀ (vs : List Value), (lg_sl (vs.map (m_cv ad))).length = (lg_sl vs).length
  | [] => rfl
  | v :: vs => by
    have ih := lg_sl_m ad vs
    unfold lg_sl at ih ⊢
    rw [List.map_cons, List.flatMap_cons, List.flatMap_cons, List.length_append, List.length_append, ih]
    cases v <;> rfl
/-- a method's body, walked: its contract -/
theorem CT.of {K : KTy} {y : MethodName} {own : String} {ws ws' : List Cond} {d : Nat} {av : List Value} {μ : Mu} {Qr : Option Value → Mu → Prop} {cc : ByteArray} {maxL : Nat} {ret : Option FieldType} (hy : plainName y.cls = true) (ho : y.cls = own) (hw : ws = Cond.code y cc maxL ret :: ws') (hnl : (lg_sl av).length ≤ maxL)
    (body : ∀ (G : GTy) (ad : Nat → Nat) (N : Nat), kOf G ad N = K → Cx G maxL cc own ws' → G.2.2.2.2.2.2.2.1.sig.returnType = ret →
      (∀ (pc : Nat) (lv : List (Nat × Value)) (st : List Value) (v : Option Value) (μ2 : Mu), st = v.toList → ((ret = none ∧ v = none ∧ decode cc pc = .ok (.return_, 1)) ∨ (∃ x : Int32, v = some (.int x) ∧ decode cc pc = .ok (.ireturn, 1) ∧ (ret = some .int ∨ (ret = some .boolean ∧ narrow .boolean (.int x) = .int x) ∨ (ret = some .char ∧ narrow .char (.int x) = .int x) ∨ (ret = some .byte ∧ narrow .byte (.int x) = .int x))) ∨ (∃ x : Int64, v = some (.long x) ∧ decode cc pc = .ok (.lreturn, 1) ∧ ret = some .long) ∨ (∃ r : Value, v = some r ∧ (r = .null ∨ ∃ k, r = .ref k) ∧ decode cc pc = .ok (.areturn, 1) ∧ ∃ n, ret = some (.object n))) → Qr v μ2 → AW G (rmD d) maxL (0, 0, ad, N, fb) pc lv st μ2) →
      AW G (rmD d) maxL (0, 0, ad, N, fb) 0 (lv_args 0 av) [] μ) : CT K y ws d av μ Qr := by
  obtain ⟨l, D, cA, sa, A, ad, N⟩ := K
  refine Met.ofW (cc := cc) (maxL := maxL) (ret := ret) hy hw ?_
  intro p e s m args below meth c s₁ B hml hv
  obtain ⟨rfl, hM, hK, hSt, hA1, hA2⟩ := hv
  have hx := B.exec
  have hb := B.bytes
  have hr := B.returns
  have hts : ∀ w ∈ ws', w.before (av.map (m_cv ad)).toArray s = true := fun w h => atoms_spec (ws := ws) B.pre w (by rw [hw]; exact List.mem_cons_of_mem _ h)
  have hown : s.vm.findClass own = some m.cls := by rw [← ho]; exact findClass_of_methodNamed B.named
  have hlocks := B.notSynchronized
  have hl := lv_entry (av.map (m_cv ad)) (n := maxL) (by rw [lg_sl_m]; exact hnl)
  rw [lv_args_m] at hl
  rw [lg_entry_eq]
  have key := body (p, l, e, s, m, (av.map (m_cv ad)).toArray, below, meth, c, MQ below (CTq (l, D, cA, sa, A, ad, N) Qr) (av.map (m_cv ad)).toArray s 0 0 A, D, cA, sa, A) ad N rfl ⟨hx, hb, hml, hown, hts, hK, hSt, hlocks⟩ hr ?_
  · exact key s.heap [] _ hM ⟨hA1, hA2⟩ va_S.rf hl
  · intro pc lv st v μ2 hst hcase hq H locs L hM2 hA hS hL
    subst hst
    have hend : ∀ (o : Option Value), o = v.map (m_cv ad) → ∀ t : State, t.heap = H → s.WarmedH t.vm → CTq (l, D, cA, sa, A, ad, N) Qr (av.map (m_cv ad)).toArray s (.returned o) t := fun o ho t ht _ => ⟨⟨v, μ2, by rw [ho], hq, by rw [ht]; exact hM2⟩, hS.F ht⟩
    rcases hcase with ⟨h1, rfl, h2⟩ | ⟨x, rfl, h2, h3⟩ | ⟨x, rfl, h2, h3⟩ | ⟨r, rfl, h3, h2, n, h4⟩
    · exact W.vret hx hb (hr.trans h1) (hend none rfl) hS.2.2 h2
    · rcases h3 with h3 | ⟨h3, h4⟩ | ⟨h3, h4⟩ | ⟨h3, h4⟩
      · exact W.iret hx hb (hr.trans h3) (hend _ rfl) hS.2.2 h2
      · exact W.zret hx hb (hr.trans h3) h4 (hend _ rfl) hS.2.2 h2
      · exact W.zret hx hb (hr.trans h3) h4 (hend _ rfl) hS.2.2 h2
      · exact W.zret hx hb (hr.trans h3) h4 (hend _ rfl) hS.2.2 h2
    · exact W.lret hx hb (hr.trans h3) (hend _ rfl) hS.2.2 h2
    · exact W.aret (v := m_cv ad r) hx hb (hr.trans h4) (Or.inl ⟨n, rfl⟩) (by rcases h3 with rfl | ⟨k, rfl⟩; exact Or.inl rfl; exact Or.inr ⟨_, rfl⟩) (hend _ rfl) hS.2.2 h2
theorem CT.int {K : KTy} {y : MethodName} {own : String} {ws ws' : List Cond} {d : Nat} {av : List Value} {μ : Mu} {Qr : Option Value → Mu → Prop} {cc : ByteArray} {maxL : Nat}  (hy : plainName y.cls = true) (ho : y.cls = own) (hw : ws = Cond.code y cc maxL (some .int) :: ws') (hnl : (lg_sl av).length ≤ maxL)
    (body : ∀ (G : GTy) (ad : Nat → Nat) (N : Nat), kOf G ad N = K → Cx G maxL cc own ws' → (∀ (pc : Nat) (lv : List (Nat × Value)) (x : Int32) (μ2 : Mu), decode cc pc = .ok (.ireturn, 1) → Qr (some (.int x)) μ2 → AW G (rmD d) maxL (0, 0, ad, N, fb) pc lv [.int x] μ2) → AW G (rmD d) maxL (0, 0, ad, N, fb) 0 (lv_args 0 av) [] μ) : CT K y ws d av μ Qr :=
  CT.of hy ho hw hnl (fun G ad N hK X _ hret => body G ad N hK X (fun pc lv x μ2 hd hq => hret pc lv _ (some (.int x)) μ2 rfl (Or.inr (Or.inl ⟨x, rfl, hd, Or.inl rfl⟩)) hq))
theorem CT.bool {K : KTy} {y : MethodName} {own : String} {ws ws' : List Cond} {d : Nat} {av : List Value} {μ : Mu} {Qr : Option Value → Mu → Prop} {cc : ByteArray} {maxL : Nat}  (hy : plainName y.cls = true) (ho : y.cls = own) (hw : ws = Cond.code y cc maxL (some .boolean) :: ws') (hnl : (lg_sl av).length ≤ maxL)
    (body : ∀ (G : GTy) (ad : Nat → Nat) (N : Nat), kOf G ad N = K → Cx G maxL cc own ws' → (∀ (pc : Nat) (lv : List (Nat × Value)) (x : Int32) (μ2 : Mu), decode cc pc = .ok (.ireturn, 1) → narrow .boolean (.int x) = .int x → Qr (some (.int x)) μ2 → AW G (rmD d) maxL (0, 0, ad, N, fb) pc lv [.int x] μ2) → AW G (rmD d) maxL (0, 0, ad, N, fb) 0 (lv_args 0 av) [] μ) : CT K y ws d av μ Qr :=
  CT.of hy ho hw hnl (fun G ad N hK X _ hret => body G ad N hK X (fun pc lv x μ2 hd hn hq => hret pc lv _ (some (.int x)) μ2 rfl (Or.inr (Or.inl ⟨x, rfl, hd, Or.inr (Or.inl ⟨rfl, hn⟩)⟩)) hq))
theorem CT.long {K : KTy} {y : MethodName} {own : String} {ws ws' : List Cond} {d : Nat} {av : List Value} {μ : Mu} {Qr : Option Value → Mu → Prop} {cc : ByteArray} {maxL : Nat}  (hy : plainName y.cls = true) (ho : y.cls = own) (hw : ws = Cond.code y cc maxL (some .long) :: ws') (hnl : (lg_sl av).length ≤ maxL)
    (body : ∀ (G : GTy) (ad : Nat → Nat) (N : Nat), kOf G ad N = K → Cx G maxL cc own ws' → (∀ (pc : Nat) (lv : List (Nat × Value)) (x : Int64) (μ2 : Mu), decode cc pc = .ok (.lreturn, 1) → Qr (some (.long x)) μ2 → AW G (rmD d) maxL (0, 0, ad, N, fb) pc lv [.long x] μ2) → AW G (rmD d) maxL (0, 0, ad, N, fb) 0 (lv_args 0 av) [] μ) : CT K y ws d av μ Qr :=
  CT.of hy ho hw hnl (fun G ad N hK X _ hret => body G ad N hK X (fun pc lv x μ2 hd hq => hret pc lv _ (some (.long x)) μ2 rfl (Or.inr (Or.inr (Or.inl ⟨x, rfl, hd, rfl⟩))) hq))
theorem CT.char {K : KTy} {y : MethodName} {own : String} {ws ws' : List Cond} {d : Nat} {av : List Value} {μ : Mu} {Qr : Option Value → Mu → Prop} {cc : ByteArray} {maxL : Nat}  (hy : plainName y.cls = true) (ho : y.cls = own) (hw : ws = Cond.code y cc maxL (some .char) :: ws') (hnl : (lg_sl av).length ≤ maxL)
    (body : ∀ (G : GTy) (ad : Nat → Nat) (N : Nat), kOf G ad N = K → Cx G maxL cc own ws' → (∀ (pc : Nat) (lv : List (Nat × Value)) (x : Int32) (μ2 : Mu), decode cc pc = .ok (.ireturn, 1) → narrow .char (.int x) = .int x → Qr (some (.int x)) μ2 → AW G (rmD d) maxL (0, 0, ad, N, fb) pc lv [.int x] μ2) → AW G (rmD d) maxL (0, 0, ad, N, fb) 0 (lv_args 0 av) [] μ) : CT K y ws d av μ Qr :=
  CT.of hy ho hw hnl (fun G ad N hK X _ hret => body G ad N hK X (fun pc lv x μ2 hd hn hq => hret pc lv _ (some (.int x)) μ2 rfl (Or.inr (Or.inl ⟨x, rfl, hd, Or.inr (Or.inr (Or.inl ⟨rfl, hn⟩))⟩)) hq))
theorem CT.byte {K : KTy} {y : MethodName} {own : String} {ws ws' : List Cond} {d : Nat} {av : List Value} {μ : Mu} {Qr : Option Value → Mu → Prop} {cc : ByteArray} {maxL : Nat}  (hy : plainName y.cls = true) (ho : y.cls = own) (hw : ws = Cond.code y cc maxL (some .byte) :: ws') (hnl : (lg_sl av).length ≤ maxL)
    (body : ∀ (G : GTy) (ad : Nat → Nat) (N : Nat), kOf G ad N = K → Cx G maxL cc own ws' → (∀ (pc : Nat) (lv : List (Nat × Value)) (x : Int32) (μ2 : Mu), decode cc pc = .ok (.ireturn, 1) → narrow .byte (.int x) = .int x → Qr (some (.int x)) μ2 → AW G (rmD d) maxL (0, 0, ad, N, fb) pc lv [.int x] μ2) → AW G (rmD d) maxL (0, 0, ad, N, fb) 0 (lv_args 0 av) [] μ) : CT K y ws d av μ Qr :=
  CT.of hy ho hw hnl (fun G ad N hK X _ hret => body G ad N hK X (fun pc lv x μ2 hd hn hq => hret pc lv _ (some (.int x)) μ2 rfl (Or.inr (Or.inl ⟨x, rfl, hd, Or.inr (Or.inr (Or.inr ⟨rfl, hn⟩))⟩)) hq))
theorem CT.void {K : KTy} {y : MethodName} {own : String} {ws ws' : List Cond} {d : Nat} {av : List Value} {μ : Mu} {Qr : Option Value → Mu → Prop} {cc : ByteArray} {maxL : Nat}  (hy : plainName y.cls = true) (ho : y.cls = own) (hw : ws = Cond.code y cc maxL none :: ws') (hnl : (lg_sl av).length ≤ maxL)
    (body : ∀ (G : GTy) (ad : Nat → Nat) (N : Nat), kOf G ad N = K → Cx G maxL cc own ws' → (∀ (pc : Nat) (lv : List (Nat × Value)) (μ2 : Mu), decode cc pc = .ok (.return_, 1) → Qr none μ2 → AW G (rmD d) maxL (0, 0, ad, N, fb) pc lv [] μ2) → AW G (rmD d) maxL (0, 0, ad, N, fb) 0 (lv_args 0 av) [] μ) : CT K y ws d av μ Qr :=
  CT.of hy ho hw hnl (fun G ad N hK X _ hret => body G ad N hK X (fun pc lv μ2 hd hq => hret pc lv _ none μ2 rfl (Or.inl ⟨rfl, rfl, hd⟩) hq))
theorem CT.ref {K : KTy} {y : MethodName} {own : String} {ws ws' : List Cond} {d : Nat} {av : List Value} {μ : Mu} {Qr : Option Value → Mu → Prop} {cc : ByteArray} {maxL : Nat} {n : String} (hy : plainName y.cls = true) (ho : y.cls = own) (hw : ws = Cond.code y cc maxL (some (.object n)) :: ws') (hnl : (lg_sl av).length ≤ maxL)
    (body : ∀ (G : GTy) (ad : Nat → Nat) (N : Nat), kOf G ad N = K → Cx G maxL cc own ws' → (∀ (pc : Nat) (lv : List (Nat × Value)) (r : Value) (μ2 : Mu), decode cc pc = .ok (.areturn, 1) → (r = .null ∨ ∃ k, r = .ref k) → Qr (some r) μ2 → AW G (rmD d) maxL (0, 0, ad, N, fb) pc lv [r] μ2) → AW G (rmD d) maxL (0, 0, ad, N, fb) 0 (lv_args 0 av) [] μ) : CT K y ws d av μ Qr :=
  CT.of hy ho hw hnl (fun G ad N hK X _ hret => body G ad N hK X (fun pc lv r μ2 hd hn hq => hret pc lv _ (some r) μ2 rfl (Or.inr (Or.inr (Or.inr ⟨r, rfl, hn, hd, n, rfl⟩))) hq))
