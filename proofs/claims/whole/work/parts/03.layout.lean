/-! THE LAYOUT: cells by their codes, in the order in which the law's run makes them; 272 + 3 r is the rule r -/
def m_fts : List FieldType := [.int, .long, .object "RetentionRows$Rule", .object "RetentionRows$Unit", .byte, .boolean]
def sh (k : Nat) : Nat ⊕ (Nat × Nat × Nat) :=
  if k < 5 then (match k with
    | 0 => .inl 4
    | 1 => .inl 2
    | 2 => .inr (0, 40, 0)
    | 3 => .inr (2, 20, 2)
    | _ => .inr (3, 60, 2))
  else if k < 245 then (match (k - 5) % 4 with
    | 0 => .inl 3
    | 1 => .inr (0, 4, 0)
    | 2 => .inr (2, 4, 2)
    | _ => .inr (0, 4, 0))
  else if k < 272 then (match k - 245 with
    | 0 => .inl 0
    | 1 => .inr (0, 60, 0)
    | 2 => .inr (0, 60, 0)
    | 3 => .inr (0, 60, 0)
    | 4 => .inr (0, 60, 0)
    | 5 => .inl 5
    | 6 => .inr (4, 40, 0)
    | 7 => .inr (0, 20, 0)
    | 8 => .inr (0, 20, 0)
    | 9 => .inr (5, 20, 0)
    | 10 => .inr (0, 20, 0)
    | 11 => .inr (0, 120, 0)
    | 12 => .inr (0, 120, 0)
    | 13 => .inr (0, 240, 0)
    | 14 => .inr (0, 240, 0)
    | 15 => .inr (0, 60, 0)
    | 16 => .inr (0, 240, 0)
    | 26 => .inr (1, 1, 1)
    | _ => .inr (0, 60, 0))
  else (match (k - 272) % 3 with
    | 0 => .inl 1
    | _ => .inr (0, 5, 0))
def fk (ci : Nat) : List (Option Nat) := match ci with
  | 0 => [some 1, some 2, some 3, none]
  | 1 => [none, none, none, some 1, some 2, none, none]
  | 2 => [some 1, none, none, none, none, none]
  | 3 => [some 1, some 2, none, some 3, none, none, none, none, none]
  | 4 => [some 1, some 3, none, some 4, some 245, some 249, none]
  | _ => [none, some 1, none, none, none, some 2, some 3, some 4, some 5, some 6, some 7, some 8, some 9, some 10, some 11, some 12, some 13, some 14, some 15, some 16, none, some 17, none, some 18, some 19, some 20]
theorem sh_kd {k t n kd : Nat} (h : sh k = .inr (t, n, kd)) : kd ≤ 2 := by
  unfold sh at h
  split at h
  · split at h <;> first | (cases h; done) | (cases h; decide)
  · split at h
    · split at h <;> first | (cases h; done) | (cases h; decide)
    · split at h
      · split at h <;> first | (cases h; done) | (cases h; decide)
      · split at h <;> first | (cases h; done) | (cases h; decide)
theorem sh_u {i : Nat} (hi : i < 60) : sh (5 + 4 * i) = .inl 3 := by
  unfold sh
  rw [if_neg (by omega), if_pos (by omega), show (5 + 4 * i - 5) % 4 = 0 by omega]
  rfl
theorem sh_ue {i : Nat} (hi : i < 60) : sh (5 + 4 * i + 1) = .inr (0, 4, 0) := by
  unfold sh
  rw [if_neg (by omega), if_pos (by omega), show (5 + 4 * i + 1 - 5) % 4 = 1 by omega]
  rfl
theorem sh_ur {i : Nat} (hi : i < 60) : sh (5 + 4 * i + 2) = .inr (2, 4, 2) := by
  unfold sh
  rw [if_neg (by omega), if_pos (by omega), show (5 + 4 * i + 2 - 5) % 4 = 2 by omega]
  rfl
theorem sh_uh {i : Nat} (hi : i < 60) : sh (5 + 4 * i + 3) = .inr (0, 4, 0) := by
  unfold sh
  rw [if_neg (by omega), if_pos (by omega), show (5 + 4 * i + 3 - 5) % 4 = 3 by omega]
  rfl
theorem sh_r (r : Nat) : sh (272 + 3 * r) = .inl 1 := by
  unfold sh
  rw [if_neg (by omega), if_neg (by omega), if_neg (by omega), show (272 + 3 * r - 272) % 3 = 0 by omega]
  rfl
theorem sh_rd (r : Nat) : sh (272 + 3 * r + 1) = .inr (0, 5, 0) := by
  unfold sh
  rw [if_neg (by omega), if_neg (by omega), if_neg (by omega), show (272 + 3 * r + 1 - 272) % 3 = 1 by omega]
  rfl
theorem sh_ry (r : Nat) : sh (272 + 3 * r + 2) = .inr (0, 5, 0) := by
  unfold sh
  rw [if_neg (by omega), if_neg (by omega), if_neg (by omega), show (272 + 3 * r + 2 - 272) % 3 = 2 by omega]
  rfl
/-! the String constants, the one static that is read, the words that no method's list carries -/
def m_len : List Nat := [4, 4, 6, 5, 7, 8]
def m_byt : List (List Int32) := [[109, 97, 100, 101], [117, 115, 101, 100], [99, 108, 111, 115, 101, 100], [100, 101, 97, 116, 104], [100, 101, 115, 116, 114, 111, 121], [116, 114, 97, 110, 115, 102, 101, 114]]
/-- a static field of a JDK class: where it lies -/
def x_L (C n d : String) (A : Nat → Prop) (U : State) (H : Heap) : Prop := ∃ (a : Nat) (cell : Cell) (c : ClassId) (k : Class) (i : Nat) (f : Field), ¬ A a ∧ H[a]? = some cell ∧ (U.vm.findClass C = some c ∧ U.fieldFound? C n d = some (c, k, i, f)) ∧ f.isStatic = true ∧ k.statics = some a ∧ (cell.vm.isStatics = true ∧ cell.cls = c ∧ f.slot < cell.slots.size) ∧ k.staticTypes[f.slot]? = some f.type
theorem x_L.moved {C n d : String} {A : Nat → Prop} {u U : State} {H : Heap} (hvm : u.vm.Alike U.vm) (h : x_L C n d A u H) : x_L C n d A U H := by
  obtain ⟨a, cell, c, k, i, f, h1, h2, ⟨h3, h4⟩, h5, h6, h7, h8⟩ := h
  obtain ⟨k', hi', he⟩ := State.fieldFound?_setVm hvm h4
  exact ⟨a, cell, c, k', i, f, h1, h2, ⟨by rw [hvm.findClass]; exact h3, hi'⟩, h5, by rw [he]; exact h6, h7, by rw [he]; exact h8⟩
theorem x_L.kept {C n d : String} {A : Nat → Prop} {U : State} {H H1 : Heap} (h : x_L C n d A U H) (hq : ∀ a : Nat, a < H.size → ¬ A a → H1[a]? = H[a]?) : x_L C n d A U H1 := by
  obtain ⟨a, cell, c, k, i, f, h1, h2, h3⟩ := h
  exact ⟨a, cell, c, k, i, f, h1, (hq a (Array.getElem?_eq_some_iff.mp h2).1 h1).trans h2, h3⟩
theorem x_L.word {C n d : String} {A : Nat → Prop} {U : State} {args : Array Value} (h : x_L C n d A U U.heap) : (Cond.laysStatic C n d).before args U = true := by
  obtain ⟨a, cell, c, k, i, f, h1, h2, ⟨h3, h4⟩, h5, h6, ⟨h7, h8, h9⟩, h10⟩ := h
  exact Cond.laysStatic_of (o := none) (idx := []) h3 h4 h5 h6 h2 h7 h8 h9 h10
theorem x_L.of {C n d : String} {A : Nat → Prop} {U : State} {args : Array Value} (h : (Cond.laysStatic C n d).before args U = true) (hA : ∀ a : Nat, a < U.heap.size → ¬ A a) : x_L C n d A U U.heap := by
  obtain ⟨c, k, i, f, a, cell, h1, h2, h3, h4, h5, h6, h7, h8, h9⟩ := Cond.laysStatic_spec h
  exact ⟨a, cell, c, k, i, f, hA a (Array.getElem?_eq_some_iff.mp h5).1, h5, ⟨h1, h2⟩, h3, h4, ⟨h6, h7, h8⟩, h9⟩
def x_Z (C n d : String) (A : Nat → Prop) (U : State) (H : Heap) : Prop := va_Zq C n d A U H ∧ x_L C n d A U H
/-- the other constants: a formatter that is never asked, two statics of Throwable, two messages -/
def m_S2 (sa : Nat → Nat) (A : Nat → Prop) (U : State) : Prop := (va_Z "jdk/internal/util/Preconditions" "SIOOBE_FORMATTER" "Ljava/util/function/BiFunction;" .null A U U.heap ∨ va_Z "jdk/internal/util/Preconditions" "SIOOBE_FORMATTER" "Ljava/util/function/BiFunction;" (.ref (sa 60)) A U U.heap) ∧ x_Z "java/lang/Throwable" "UNASSIGNED_STACK" "[Ljava/lang/StackTraceElement;" A U U.heap ∧ x_Z "java/lang/Throwable" "SUPPRESSED_SENTINEL" "Ljava/util/List;" A U U.heap ∧ vk_R R_C 144 "nothing such is listed" (sa 6) U ∧ vk_R R_C 194 "no such disposal" (sa 7) U
theorem m_S2.calling {sa : Nat → Nat} {A : Nat → Prop} {U : State} {g : JFrame} {mk : MethodId} {a : Array Value} (h : m_S2 sa A U) : m_S2 sa A (U.calling g mk a) := by
  obtain ⟨h1, ⟨h2, h3⟩, ⟨h4, h5⟩, h6, h7⟩ := h
  exact ⟨h1.imp (va_Z.moved (u := U) (Vm.Alike.refl U.vm)) (va_Z.moved (u := U) (Vm.Alike.refl U.vm)), ⟨va_Zq.moved (u := U) (Vm.Alike.refl U.vm) h2, x_L.moved (u := U) (Vm.Alike.refl U.vm) h3⟩, ⟨va_Zq.moved (u := U) (Vm.Alike.refl U.vm) h4, x_L.moved (u := U) (Vm.Alike.refl U.vm) h5⟩, vk_R.same rfl h6, vk_R.same rfl h7⟩
theorem m_S2.at_ {sa : Nat → Nat} {A : Nat → Prop} {s U : State} {H : Heap} {locs : List Loc} (h : m_S2 sa A s) (hS : va_S A s.heap H locs) (hW : s.WarmedH U.vm) (hU : U.heap = H) : m_S2 sa A U := by
  obtain ⟨h1, ⟨h2, h3⟩, ⟨h4, h5⟩, h6, h7⟩ := h
  subst hU
  exact ⟨h1.imp (fun h => va_Z.moved hW.alike (h.kept hS.2.1)) (fun h => va_Z.moved hW.alike (h.kept hS.2.1)), ⟨va_Zq.moved hW.alike (h2.kept hS.2.1), x_L.moved hW.alike (h3.kept hS.2.1)⟩, ⟨va_Zq.moved hW.alike (h4.kept hS.2.1), x_L.moved hW.alike (h5.kept hS.2.1)⟩, h6.warm hW, h7.warm hW⟩
def m_S (sa : Nat → Nat) (A : Nat → Prop) (U : State) : Prop := vk_S 6 m_len m_byt sa (fun i => sa (100 + i)) A U U.heap ∧ (vk_R R_T 68 "made" (sa 0) U ∧ vk_R R_T 70 "used" (sa 1) U ∧ vk_R R_T 72 "closed" (sa 2) U ∧ vk_R R_T 74 "death" (sa 3) U ∧ vk_R R_T 56 "destroy" (sa 4) U ∧ vk_R R_T 58 "transfer" (sa 5) U) ∧ va_Z "java/lang/String" "COMPACT_STRINGS" "Z" (.int 1) A U U.heap ∧ va_AO R_R U ∧ va_AO R_U U ∧ va_Nw (.methodLinkNest R_C 9 y_T_init R_C) U ∧ va_Nw (.methodLinkNest R_C 31 y_L_init R_C) U ∧ m_S2 sa A U
theorem m_S.calling {sa : Nat → Nat} {A : Nat → Prop} {U : State} {g : JFrame} {mk : MethodId} {a : Array Value} (h : m_S sa A U) : m_S sa A (U.calling g mk a) := by
  obtain ⟨h1, ⟨r1, r2, r3, r4, r5, r6⟩, h3, h4, h5, h6, h7, h8⟩ := h
  refine ⟨vk_S.moved (u := U) (Vm.Alike.refl U.vm) h1, ⟨vk_R.same rfl r1, vk_R.same rfl r2, vk_R.same rfl r3, vk_R.same rfl r4, vk_R.same rfl r5, vk_R.same rfl r6⟩, va_Z.moved (u := U) (Vm.Alike.refl U.vm) h3, va_AO.moved (u := U) (Vm.Alike.refl U.vm) h4, va_AO.moved (u := U) (Vm.Alike.refl U.vm) h5, va_Nw.same rfl rfl h6, va_Nw.same rfl rfl h7, h8.calling⟩
theorem m_S.at_ {sa : Nat → Nat} {A : Nat → Prop} {s U : State} {H : Heap} {locs : List Loc} (h : m_S sa A s) (hS : va_S A s.heap H locs) (hW : s.WarmedH U.vm) (hU : U.heap = H) : m_S sa A U := by
  obtain ⟨h1, ⟨r1, r2, r3, r4, r5, r6⟩, h3, h4, h5, h6, h7, h8⟩ := h
  have h9 := h8.at_ hS hW hU
  subst hU
  exact ⟨vk_S.moved hW.alike (h1.kept hS.2.1), ⟨r1.warm hW, r2.warm hW, r3.warm hW, r4.warm hW, r5.warm hW, r6.warm hW⟩, va_Z.moved hW.alike (h3.kept hS.2.1), va_AO.moved hW.alike h4, va_AO.moved hW.alike h5, va_Nw.warmM hW h6, va_Nw.warmM hW h7, h9⟩
