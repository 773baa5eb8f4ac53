section
-- ===== PART A: goes FIRST, ahead of the names: the tables' words, and 'selects' of the private methods out of them =====
/-- a private method of a class that the tables say can be made, by its rows of tables_1 -/
def lw_okq (q : MethodName × Nat) : Prop := (q.1.cls ≠ "java/lang/invoke/MethodHandle" ∧ q.1.cls ≠ "java/lang/invoke/VarHandle") ∧ Cond.instantiable q.1.cls q.2 ∈ tables_1 ∧ Cond.privateMethod q.1 ∈ tables_1 ∧ Cond.instanceMethod q.1 ∈ tables_1
theorem lw_p0 : lw_okq (⟨"RetentionRows$RuleText", "readEvent", "()Z"⟩, 6) := ⟨⟨by decide +kernel, by decide +kernel⟩, List.mem_of_getElem? (i := 24) (by decide +kernel), List.mem_of_getElem? (i := 145) (by decide +kernel), List.mem_of_getElem? (i := 146) (by decide +kernel)⟩
theorem lw_p1 : lw_okq (⟨"RetentionRows$RuleText", "wordEnd", "()I"⟩, 6) := ⟨⟨by decide +kernel, by decide +kernel⟩, List.mem_of_getElem? (i := 24) (by decide +kernel), List.mem_of_getElem? (i := 149) (by decide +kernel), List.mem_of_getElem? (i := 150) (by decide +kernel)⟩
theorem lw_p2 : lw_okq (⟨"RetentionRows$RuleText", "signAt", "(I)I"⟩, 6) := ⟨⟨by decide +kernel, by decide +kernel⟩, List.mem_of_getElem? (i := 24) (by decide +kernel), List.mem_of_getElem? (i := 153) (by decide +kernel), List.mem_of_getElem? (i := 154) (by decide +kernel)⟩
theorem lw_p3 : lw_okq (⟨"RetentionRows$RuleText", "isWord", "(Ljava/lang/String;I)Z"⟩, 6) := ⟨⟨by decide +kernel, by decide +kernel⟩, List.mem_of_getElem? (i := 24) (by decide +kernel), List.mem_of_getElem? (i := 167) (by decide +kernel), List.mem_of_getElem? (i := 168) (by decide +kernel)⟩
theorem lw_p4 : lw_okq (⟨"RetentionRows$RuleText", "readSpace", "()Z"⟩, 6) := ⟨⟨by decide +kernel, by decide +kernel⟩, List.mem_of_getElem? (i := 24) (by decide +kernel), List.mem_of_getElem? (i := 219) (by decide +kernel), List.mem_of_getElem? (i := 220) (by decide +kernel)⟩
theorem lw_p5 : lw_okq (⟨"RetentionRows$RuleText", "readYears", "()Z"⟩, 6) := ⟨⟨by decide +kernel, by decide +kernel⟩, List.mem_of_getElem? (i := 24) (by decide +kernel), List.mem_of_getElem? (i := 223) (by decide +kernel), List.mem_of_getElem? (i := 224) (by decide +kernel)⟩
theorem lw_p6 : lw_okq (⟨"RetentionRows$RuleText", "readAction", "()Z"⟩, 6) := ⟨⟨by decide +kernel, by decide +kernel⟩, List.mem_of_getElem? (i := 24) (by decide +kernel), List.mem_of_getElem? (i := 230) (by decide +kernel), List.mem_of_getElem? (i := 231) (by decide +kernel)⟩
theorem lw_p7 : lw_okq (⟨"RetentionRows", "findRule", "(I)LRetentionRows$Rule;"⟩, 7) := ⟨⟨by decide +kernel, by decide +kernel⟩, List.mem_of_getElem? (i := 16) (by decide +kernel), List.mem_of_getElem? (i := 288) (by decide +kernel), List.mem_of_getElem? (i := 289) (by decide +kernel)⟩
theorem lw_p8 : lw_okq (⟨"RetentionRows", "findUnit", "(I)LRetentionRows$Unit;"⟩, 7) := ⟨⟨by decide +kernel, by decide +kernel⟩, List.mem_of_getElem? (i := 16) (by decide +kernel), List.mem_of_getElem? (i := 320) (by decide +kernel), List.mem_of_getElem? (i := 321) (by decide +kernel)⟩
theorem lw_p9 : lw_okq (⟨"RetentionRows$Unit", "takeApprovalsAway", "()V"⟩, 9) := ⟨⟨by decide +kernel, by decide +kernel⟩, List.mem_of_getElem? (i := 53) (by decide +kernel), List.mem_of_getElem? (i := 332) (by decide +kernel), List.mem_of_getElem? (i := 333) (by decide +kernel)⟩
theorem lw_p10 : lw_okq (⟨"RetentionRows$Unit", "decidingRule", "(I)LRetentionRows$Rule;"⟩, 9) := ⟨⟨by decide +kernel, by decide +kernel⟩, List.mem_of_getElem? (i := 53) (by decide +kernel), List.mem_of_getElem? (i := 381) (by decide +kernel), List.mem_of_getElem? (i := 382) (by decide +kernel)⟩
theorem lw_p11 : lw_okq (⟨"RetentionRows$Rule", "yearsOn", "(I)I"⟩, 7) := ⟨⟨by decide +kernel, by decide +kernel⟩, List.mem_of_getElem? (i := 243) (by decide +kernel), List.mem_of_getElem? (i := 397) (by decide +kernel), List.mem_of_getElem? (i := 398) (by decide +kernel)⟩
theorem lw_p12 : lw_okq (⟨"RetentionRows$DueList", "put", "(IIII)V"⟩, 4) := ⟨⟨by decide +kernel, by decide +kernel⟩, List.mem_of_getElem? (i := 88) (by decide +kernel), List.mem_of_getElem? (i := 427) (by decide +kernel), List.mem_of_getElem? (i := 428) (by decide +kernel)⟩
theorem lw_p13 : lw_okq (⟨"RetentionRows", "obstacleTo", "(LRetentionRows$Unit;II)I"⟩, 7) := ⟨⟨by decide +kernel, by decide +kernel⟩, List.mem_of_getElem? (i := 16) (by decide +kernel), List.mem_of_getElem? (i := 459) (by decide +kernel), List.mem_of_getElem? (i := 460) (by decide +kernel)⟩
theorem lw_p14 : lw_okq (⟨"RetentionRows", "isCertificateMissing", "()Z"⟩, 7) := ⟨⟨by decide +kernel, by decide +kernel⟩, List.mem_of_getElem? (i := 16) (by decide +kernel), List.mem_of_getElem? (i := 463) (by decide +kernel), List.mem_of_getElem? (i := 464) (by decide +kernel)⟩
theorem lw_p15 : lw_okq (⟨"RetentionRows", "keepDisposed", "(I)V"⟩, 7) := ⟨⟨by decide +kernel, by decide +kernel⟩, List.mem_of_getElem? (i := 16) (by decide +kernel), List.mem_of_getElem? (i := 479) (by decide +kernel), List.mem_of_getElem? (i := 480) (by decide +kernel)⟩
def lw_privs_1 : List (MethodName × Nat) := [(⟨"RetentionRows$RuleText", "readEvent", "()Z"⟩, 6), (⟨"RetentionRows$RuleText", "wordEnd", "()I"⟩, 6), (⟨"RetentionRows$RuleText", "signAt", "(I)I"⟩, 6), (⟨"RetentionRows$RuleText", "isWord", "(Ljava/lang/String;I)Z"⟩, 6), (⟨"RetentionRows$RuleText", "readSpace", "()Z"⟩, 6), (⟨"RetentionRows$RuleText", "readYears", "()Z"⟩, 6), (⟨"RetentionRows$RuleText", "readAction", "()Z"⟩, 6), (⟨"RetentionRows", "findRule", "(I)LRetentionRows$Rule;"⟩, 7), (⟨"RetentionRows", "findUnit", "(I)LRetentionRows$Unit;"⟩, 7), (⟨"RetentionRows$Unit", "takeApprovalsAway", "()V"⟩, 9), (⟨"RetentionRows$Unit", "decidingRule", "(I)LRetentionRows$Rule;"⟩, 9), (⟨"RetentionRows$Rule", "yearsOn", "(I)I"⟩, 7), (⟨"RetentionRows$DueList", "put", "(IIII)V"⟩, 4), (⟨"RetentionRows", "obstacleTo", "(LRetentionRows$Unit;II)I"⟩, 7), (⟨"RetentionRows", "isCertificateMissing", "()Z"⟩, 7), (⟨"RetentionRows", "keepDisposed", "(I)V"⟩, 7)]
theorem lw_r1 : ∀ q ∈ lw_privs_1, lw_okq q := List.forall_mem_cons.mpr ⟨lw_p0, List.forall_mem_cons.mpr ⟨lw_p1, List.forall_mem_cons.mpr ⟨lw_p2, List.forall_mem_cons.mpr ⟨lw_p3, List.forall_mem_cons.mpr ⟨lw_p4, List.forall_mem_cons.mpr ⟨lw_p5, List.forall_mem_cons.mpr ⟨lw_p6, List.forall_mem_cons.mpr ⟨lw_p7, List.forall_mem_cons.mpr ⟨lw_p8, List.forall_mem_cons.mpr ⟨lw_p9, List.forall_mem_cons.mpr ⟨lw_p10, List.forall_mem_cons.mpr ⟨lw_p11, List.forall_mem_cons.mpr ⟨lw_p12, List.forall_mem_cons.mpr ⟨lw_p13, List.forall_mem_cons.mpr ⟨lw_p14, List.forall_mem_cons.mpr ⟨lw_p15, fun _ h => absurd h List.not_mem_nil⟩⟩⟩⟩⟩⟩⟩⟩⟩⟩⟩⟩⟩⟩⟩⟩
theorem lw_p16 : lw_okq (⟨"java/lang/Throwable", "fillInStackTrace", "(I)Ljava/lang/Throwable;"⟩, 6) := ⟨⟨by decide +kernel, by decide +kernel⟩, List.mem_of_getElem? (i := 552) (by decide +kernel), List.mem_of_getElem? (i := 550) (by decide +kernel), List.mem_of_getElem? (i := 551) (by decide +kernel)⟩
theorem lw_p17 : lw_okq (⟨"RetentionRowsModel", "reads", "()I"⟩, 26) := ⟨⟨by decide +kernel, by decide +kernel⟩, List.mem_of_getElem? (i := 593) (by decide +kernel), List.mem_of_getElem? (i := 691) (by decide +kernel), List.mem_of_getElem? (i := 692) (by decide +kernel)⟩
theorem lw_p18 : lw_okq (⟨"RetentionRowsModel", "word", "()J"⟩, 26) := ⟨⟨by decide +kernel, by decide +kernel⟩, List.mem_of_getElem? (i := 593) (by decide +kernel), List.mem_of_getElem? (i := 695) (by decide +kernel), List.mem_of_getElem? (i := 696) (by decide +kernel)⟩
theorem lw_p19 : lw_okq (⟨"RetentionRowsModel", "isSmall", "()Z"⟩, 26) := ⟨⟨by decide +kernel, by decide +kernel⟩, List.mem_of_getElem? (i := 593) (by decide +kernel), List.mem_of_getElem? (i := 699) (by decide +kernel), List.mem_of_getElem? (i := 700) (by decide +kernel)⟩
theorem lw_p20 : lw_okq (⟨"RetentionRowsModel", "look", "()I"⟩, 26) := ⟨⟨by decide +kernel, by decide +kernel⟩, List.mem_of_getElem? (i := 593) (by decide +kernel), List.mem_of_getElem? (i := 703) (by decide +kernel), List.mem_of_getElem? (i := 704) (by decide +kernel)⟩
theorem lw_p21 : lw_okq (⟨"RetentionRowsModel", "space", "()Z"⟩, 26) := ⟨⟨by decide +kernel, by decide +kernel⟩, List.mem_of_getElem? (i := 593) (by decide +kernel), List.mem_of_getElem? (i := 719) (by decide +kernel), List.mem_of_getElem? (i := 720) (by decide +kernel)⟩
theorem lw_p22 : lw_okq (⟨"RetentionRowsModel", "digits", "()I"⟩, 26) := ⟨⟨by decide +kernel, by decide +kernel⟩, List.mem_of_getElem? (i := 593) (by decide +kernel), List.mem_of_getElem? (i := 723) (by decide +kernel), List.mem_of_getElem? (i := 724) (by decide +kernel)⟩
theorem lw_p23 : lw_okq (⟨"RetentionRowsModel", "isRule", "(I)Z"⟩, 26) := ⟨⟨by decide +kernel, by decide +kernel⟩, List.mem_of_getElem? (i := 593) (by decide +kernel), List.mem_of_getElem? (i := 739) (by decide +kernel), List.mem_of_getElem? (i := 740) (by decide +kernel)⟩
theorem lw_p24 : lw_okq (⟨"RetentionRowsModel", "dueDay", "(II)I"⟩, 26) := ⟨⟨by decide +kernel, by decide +kernel⟩, List.mem_of_getElem? (i := 593) (by decide +kernel), List.mem_of_getElem? (i := 777) (by decide +kernel), List.mem_of_getElem? (i := 778) (by decide +kernel)⟩
theorem lw_p25 : lw_okq (⟨"RetentionRowsModel", "fails", "(I)Z"⟩, 26) := ⟨⟨by decide +kernel, by decide +kernel⟩, List.mem_of_getElem? (i := 593) (by decide +kernel), List.mem_of_getElem? (i := 781) (by decide +kernel), List.mem_of_getElem? (i := 782) (by decide +kernel)⟩
theorem lw_p26 : lw_okq (⟨"RetentionRowsModel", "dayOf", "(III)I"⟩, 26) := ⟨⟨by decide +kernel, by decide +kernel⟩, List.mem_of_getElem? (i := 593) (by decide +kernel), List.mem_of_getElem? (i := 785) (by decide +kernel), List.mem_of_getElem? (i := 786) (by decide +kernel)⟩
theorem lw_p27 : lw_okq (⟨"RetentionRowsModel", "yearsOn", "(II)I"⟩, 26) := ⟨⟨by decide +kernel, by decide +kernel⟩, List.mem_of_getElem? (i := 593) (by decide +kernel), List.mem_of_getElem? (i := 789) (by decide +kernel), List.mem_of_getElem? (i := 790) (by decide +kernel)⟩
theorem lw_p28 : lw_okq (⟨"RetentionRowsModel", "isDue", "(II)Z"⟩, 26) := ⟨⟨by decide +kernel, by decide +kernel⟩, List.mem_of_getElem? (i := 593) (by decide +kernel), List.mem_of_getElem? (i := 797) (by decide +kernel), List.mem_of_getElem? (i := 798) (by decide +kernel)⟩
theorem lw_p29 : lw_okq (⟨"RetentionRowsModel", "actionOf", "(II)I"⟩, 26) := ⟨⟨by decide +kernel, by decide +kernel⟩, List.mem_of_getElem? (i := 593) (by decide +kernel), List.mem_of_getElem? (i := 801) (by decide +kernel), List.mem_of_getElem? (i := 802) (by decide +kernel)⟩
theorem lw_p30 : lw_okq (⟨"RetentionRowsModel", "against", "(III)I"⟩, 26) := ⟨⟨by decide +kernel, by decide +kernel⟩, List.mem_of_getElem? (i := 593) (by decide +kernel), List.mem_of_getElem? (i := 817) (by decide +kernel), List.mem_of_getElem? (i := 818) (by decide +kernel)⟩
theorem lw_p31 : lw_okq (⟨"RetentionRowsModel", "isHeld", "(II)Z"⟩, 26) := ⟨⟨by decide +kernel, by decide +kernel⟩, List.mem_of_getElem? (i := 593) (by decide +kernel), List.mem_of_getElem? (i := 821) (by decide +kernel), List.mem_of_getElem? (i := 822) (by decide +kernel)⟩
def lw_privs_2 : List (MethodName × Nat) := [(⟨"java/lang/Throwable", "fillInStackTrace", "(I)Ljava/lang/Throwable;"⟩, 6), (⟨"RetentionRowsModel", "reads", "()I"⟩, 26), (⟨"RetentionRowsModel", "word", "()J"⟩, 26), (⟨"RetentionRowsModel", "isSmall", "()Z"⟩, 26), (⟨"RetentionRowsModel", "look", "()I"⟩, 26), (⟨"RetentionRowsModel", "space", "()Z"⟩, 26), (⟨"RetentionRowsModel", "digits", "()I"⟩, 26), (⟨"RetentionRowsModel", "isRule", "(I)Z"⟩, 26), (⟨"RetentionRowsModel", "dueDay", "(II)I"⟩, 26), (⟨"RetentionRowsModel", "fails", "(I)Z"⟩, 26), (⟨"RetentionRowsModel", "dayOf", "(III)I"⟩, 26), (⟨"RetentionRowsModel", "yearsOn", "(II)I"⟩, 26), (⟨"RetentionRowsModel", "isDue", "(II)Z"⟩, 26), (⟨"RetentionRowsModel", "actionOf", "(II)I"⟩, 26), (⟨"RetentionRowsModel", "against", "(III)I"⟩, 26), (⟨"RetentionRowsModel", "isHeld", "(II)Z"⟩, 26)]
theorem lw_r2 : ∀ q ∈ lw_privs_2, lw_okq q := List.forall_mem_cons.mpr ⟨lw_p16, List.forall_mem_cons.mpr ⟨lw_p17, List.forall_mem_cons.mpr ⟨lw_p18, List.forall_mem_cons.mpr ⟨lw_p19, List.forall_mem_cons.mpr ⟨lw_p20, List.forall_mem_cons.mpr ⟨lw_p21, List.forall_mem_cons.mpr ⟨lw_p22, List.forall_mem_cons.mpr ⟨lw_p23, List.forall_mem_cons.mpr ⟨lw_p24, List.forall_mem_cons.mpr ⟨lw_p25, List.forall_mem_cons.mpr ⟨lw_p26, List.forall_mem_cons.mpr ⟨lw_p27, List.forall_mem_cons.mpr ⟨lw_p28, List.forall_mem_cons.mpr ⟨lw_p29, List.forall_mem_cons.mpr ⟨lw_p30, List.forall_mem_cons.mpr ⟨lw_p31, fun _ h => absurd h List.not_mem_nil⟩⟩⟩⟩⟩⟩⟩⟩⟩⟩⟩⟩⟩⟩⟩⟩
def lw_privs : List (MethodName × Nat) := lw_privs_1 ++ (lw_privs_2)
def lw_tbl : List Cond := k2_sels lw_privs ++ tables_1
theorem lw_privs_ok : ∀ q ∈ lw_privs, lw_okq q := by
  show ∀ q ∈ lw_privs_1 ++ (lw_privs_2), lw_okq q
  exact List.forall_mem_append.mpr ⟨lw_r1, lw_r2⟩
/-- the good words of the tables: every method is proved over them all -/
def GT : List Cond := lw_tbl.filter goodWord
theorem gt_i {w : Cond} (i : Nat) (h : lw_tbl[i]? = some w) (hg : goodWord w = true) : w ∈ GT := List.mem_filter.mpr ⟨List.mem_of_getElem? h, hg⟩
theorem gt_r {ws : List Cond} (ps : List Nat) (hp : ws = ps.filterMap (fun i => lw_tbl[i]?)) (hg : ws.all goodWord = true) : ∀ w ∈ ws, w ∈ GT := by
  intro w hw
  have h1 := List.all_eq_true.mp hg w hw
  rw [hp] at hw
  obtain ⟨i, -, hi⟩ := List.mem_filterMap.mp hw
  exact gt_i i hi h1
theorem gt_good {w : Cond} (h : w ∈ GT) : (w.onTables && w.keeps) = true ∨ ∃ ty, w = .arrayClass ty := good_of_word (List.mem_filter.mp h).2
theorem gt_V {k k2 : Cond} {own C : String} {index : Nat} {y : MethodName} (h1 : Cond.methodLink own index y ∈ GT) (h2 : Cond.instanceMethod y ∈ GT) (h3 : Cond.selects C y y ∈ GT) (h4 : Cond.initialized C ∈ GT) (h5 : k2 ∈ GT) : GoodIn (k :: GT) (wsV own index C y (k2 :: GT)) := by
  intro w hw
  have : w ∈ GT := by
    simp only [wsV, List.cons_append, List.nil_append, List.mem_cons] at hw
    rcases hw with rfl | rfl | rfl | rfl | rfl | hw
    · exact h1
    · exact h2
    · exact h3
    · exact h4
    · exact h5
    · exact hw
  exact ⟨List.mem_cons_of_mem _ this, gt_good this⟩
theorem gt_S {k k2 : Cond} {own : String} {index : Nat} {y : MethodName} (h1 : Cond.methodLink own index y ∈ GT) (h2 : Cond.static y ∈ GT) (h4 : Cond.initialized own ∈ GT) (h5 : k2 ∈ GT) : GoodIn (k :: GT) (wsS own index y (k2 :: GT)) := by
  intro w hw
  have : w ∈ GT := by
    simp only [wsS, List.cons_append, List.nil_append, List.mem_cons] at hw
    rcases hw with rfl | rfl | rfl | rfl | hw
    · exact h1
    · exact h2
    · exact h4
    · exact h5
    · exact hw
  exact ⟨List.mem_cons_of_mem _ this, gt_good this⟩
theorem gt_I {k k2 : Cond} (h5 : k2 ∈ GT) : GoodIn (k :: GT) (k2 :: GT) := by
  intro w hw
  have : w ∈ GT := by
    rcases List.mem_cons.mp hw with rfl | hw
    · exact h5
    · exact hw
  exact ⟨List.mem_cons_of_mem _ this, gt_good this⟩
def R_L : String := "RetentionRows$DueList"
def R_R : String := "RetentionRows$Rule"
def R_T : String := "RetentionRows$RuleText"
def R_U : String := "RetentionRows$Unit"
def R_C : String := "RetentionRows"
def R_M : String := "RetentionRowsModel"
def R_W : String := "RetentionRowsLaw"
def R_S : String := "java/lang/String"
def R_J : String := "java/lang/StringLatin1"
def R_P : String := "jdk/internal/util/Preconditions"
def R_O : String := "java/lang/Object"
def F_L : u_T := fun k => match k with
  | 0 => ("RetentionRows$DueList", "units", "[I", true)
  | 1 => ("RetentionRows$DueList", "days", "[I", true)
  | 2 => ("RetentionRows$DueList", "actions", "[I", true)
  | _ => ("RetentionRows$DueList", "size", "I", false)
def ft_L : Nat → FieldType := fun k => match k with
  | 0 => .array .int
  | 1 => .array .int
  | 2 => .array .int
  | _ => .int
theorem n_L : ∀ a, a < 4 → ∀ b, b < 4 → a ≠ b → (F_L a).2.1 ≠ (F_L b).2.1 := by decide +kernel
theorem ft_L_ok : ∀ k, k < 4 → parseFieldDescriptor (F_L k).2.2.1 = some (ft_L k) := by decide +kernel
theorem in_L : ∀ w ∈ u_ws R_L F_L 4, w ∈ GT := gt_r [129, 131, 133, 135] (by decide +kernel) (by decide +kernel)
def F_R : u_T := fun k => match k with
  | 0 => ("RetentionRows$Rule", "eventKind", "I", true)
  | 1 => ("RetentionRows$Rule", "firstYears", "I", true)
  | 2 => ("RetentionRows$Rule", "action", "I", true)
  | 3 => ("RetentionRows$Rule", "changeDays", "[I", true)
  | 4 => ("RetentionRows$Rule", "changeYears", "[I", true)
  | 5 => ("RetentionRows$Rule", "changeCount", "I", false)
  | _ => ("RetentionRows$Rule", "broken", "Z", false)
def ft_R : Nat → FieldType := fun k => match k with
  | 0 => .int
  | 1 => .int
  | 2 => .int
  | 3 => .array .int
  | 4 => .array .int
  | 5 => .int
  | _ => .boolean
theorem n_R : ∀ a, a < 7 → ∀ b, b < 7 → a ≠ b → (F_R a).2.1 ≠ (F_R b).2.1 := by decide +kernel
theorem ft_R_ok : ∀ k, k < 7 → parseFieldDescriptor (F_R k).2.2.1 = some (ft_R k) := by decide +kernel
theorem in_R : ∀ w ∈ u_ws R_R F_R 7, w ∈ GT := gt_r [299, 301, 303, 305, 307, 309, 311] (by decide +kernel) (by decide +kernel)
def F_T : u_T := fun k => match k with
  | 0 => ("RetentionRows$RuleText", "signs", "[I", true)
  | 1 => ("RetentionRows$RuleText", "length", "I", false)
  | 2 => ("RetentionRows$RuleText", "place", "I", false)
  | 3 => ("RetentionRows$RuleText", "eventKind", "I", false)
  | 4 => ("RetentionRows$RuleText", "years", "I", false)
  | _ => ("RetentionRows$RuleText", "action", "I", false)
def ft_T : Nat → FieldType := fun k => match k with
  | 0 => .array .int
  | 1 => .int
  | 2 => .int
  | 3 => .int
  | 4 => .int
  | _ => .int
theorem n_T : ∀ a, a < 6 → ∀ b, b < 6 → a ≠ b → (F_T a).2.1 ≠ (F_T b).2.1 := by decide +kernel
theorem ft_T_ok : ∀ k, k < 6 → parseFieldDescriptor (F_T k).2.2.1 = some (ft_T k) := by decide +kernel
theorem in_T : ∀ w ∈ u_ws R_T F_T 6, w ∈ GT := gt_r [67, 69, 71, 73, 75, 77] (by decide +kernel) (by decide +kernel)
def F_U : u_T := fun k => match k with
  | 0 => ("RetentionRows$Unit", "eventDays", "[I", true)
  | 1 => ("RetentionRows$Unit", "row", "[LRetentionRows$Rule;", true)
  | 2 => ("RetentionRows$Unit", "ruleCount", "I", false)
  | 3 => ("RetentionRows$Unit", "holds", "[I", true)
  | 4 => ("RetentionRows$Unit", "exceptionUntil", "I", false)
  | 5 => ("RetentionRows$Unit", "approvals", "I", false)
  | 6 => ("RetentionRows$Unit", "firstPerson", "I", false)
  | 7 => ("RetentionRows$Unit", "disposalDay", "I", false)
  | _ => ("RetentionRows$Unit", "certificate", "I", false)
def ft_U : Nat → FieldType := fun k => match k with
  | 0 => .array .int
  | 1 => .array (.object "RetentionRows$Rule")
  | 2 => .int
  | 3 => .array .int
  | 4 => .int
  | 5 => .int
  | 6 => .int
  | 7 => .int
  | _ => .int
theorem n_U : ∀ a, a < 9 → ∀ b, b < 9 → a ≠ b → (F_U a).2.1 ≠ (F_U b).2.1 := by decide +kernel
theorem ft_U_ok : ∀ k, k < 9 → parseFieldDescriptor (F_U k).2.2.1 = some (ft_U k) := by decide +kernel
theorem in_U : ∀ w ∈ u_ws R_U F_U 9, w ∈ GT := gt_r [100, 102, 104, 106, 108, 110, 112, 114, 116] (by decide +kernel) (by decide +kernel)
def F_C : u_T := fun k => match k with
  | 0 => ("RetentionRows", "text", "LRetentionRows$RuleText;", true)
  | 1 => ("RetentionRows", "rules", "[LRetentionRows$Rule;", true)
  | 2 => ("RetentionRows", "ruleCount", "I", false)
  | 3 => ("RetentionRows", "units", "[LRetentionRows$Unit;", true)
  | 4 => ("RetentionRows", "list", "LRetentionRows$DueList;", true)
  | 5 => ("RetentionRows", "disposed", "[I", true)
  | _ => ("RetentionRows", "disposedCount", "I", false)
def ft_C : Nat → FieldType := fun k => match k with
  | 0 => .object "RetentionRows$RuleText"
  | 1 => .array (.object "RetentionRows$Rule")
  | 2 => .int
  | 3 => .array (.object "RetentionRows$Unit")
  | 4 => .object "RetentionRows$DueList"
  | 5 => .array .int
  | _ => .int
theorem n_C : ∀ a, a < 7 → ∀ b, b < 7 → a ≠ b → (F_C a).2.1 ≠ (F_C b).2.1 := by decide +kernel
theorem ft_C_ok : ∀ k, k < 7 → parseFieldDescriptor (F_C k).2.2.1 = some (ft_C k) := by decide +kernel
theorem in_C : ∀ w ∈ u_ws R_C F_C 7, w ∈ GT := gt_r [145, 147, 149, 151, 153, 155, 157] (by decide +kernel) (by decide +kernel)
def F_M : u_T := fun k => match k with
  | 0 => ("RetentionRowsModel", "thrown", "I", false)
  | 1 => ("RetentionRowsModel", "text", "[B", true)
  | 2 => ("RetentionRowsModel", "size", "I", false)
  | 3 => ("RetentionRowsModel", "at", "I", false)
  | 4 => ("RetentionRowsModel", "rules", "I", false)
  | 5 => ("RetentionRowsModel", "ofEvent", "[I", true)
  | 6 => ("RetentionRowsModel", "action", "[I", true)
  | 7 => ("RetentionRowsModel", "broken", "[Z", true)
  | 8 => ("RetentionRowsModel", "changes", "[I", true)
  | 9 => ("RetentionRowsModel", "years", "[I", true)
  | 10 => ("RetentionRowsModel", "since", "[I", true)
  | 11 => ("RetentionRowsModel", "events", "[I", true)
  | 12 => ("RetentionRowsModel", "schedule", "[I", true)
  | 13 => ("RetentionRowsModel", "scheduled", "[I", true)
  | 14 => ("RetentionRowsModel", "holds", "[I", true)
  | 15 => ("RetentionRowsModel", "except", "[I", true)
  | 16 => ("RetentionRowsModel", "approvals", "[I", true)
  | 17 => ("RetentionRowsModel", "firstBy", "[I", true)
  | 18 => ("RetentionRowsModel", "disposed", "[I", true)
  | 19 => ("RetentionRowsModel", "certificate", "[I", true)
  | 20 => ("RetentionRowsModel", "gone", "I", false)
  | 21 => ("RetentionRowsModel", "history", "[I", true)
  | 22 => ("RetentionRowsModel", "listed", "I", false)
  | 23 => ("RetentionRowsModel", "listUnit", "[I", true)
  | 24 => ("RetentionRowsModel", "listDay", "[I", true)
  | _ => ("RetentionRowsModel", "listAction", "[I", true)
def ft_M : Nat → FieldType := fun k => match k with
  | 0 => .int
  | 1 => .array .byte
  | 2 => .int
  | 3 => .int
  | 4 => .int
  | 5 => .array .int
  | 6 => .array .int
  | 7 => .array .boolean
  | 8 => .array .int
  | 9 => .array .int
  | 10 => .array .int
  | 11 => .array .int
  | 12 => .array .int
  | 13 => .array .int
  | 14 => .array .int
  | 15 => .array .int
  | 16 => .array .int
  | 17 => .array .int
  | 18 => .array .int
  | 19 => .array .int
  | 20 => .int
  | 21 => .array .int
  | 22 => .int
  | 23 => .array .int
  | 24 => .array .int
  | _ => .array .int
theorem n_M : ∀ a, a < 26 → ∀ b, b < 26 → a ≠ b → (F_M a).2.1 ≠ (F_M b).2.1 := by decide +kernel
theorem ft_M_ok : ∀ k, k < 26 → parseFieldDescriptor (F_M k).2.2.1 = some (ft_M k) := by decide +kernel
theorem in_M : ∀ w ∈ u_ws R_M F_M 26, w ∈ GT := gt_r [656, 658, 660, 662, 664, 666, 668, 670, 672, 674, 676, 678, 680, 682, 684, 686, 688, 690, 692, 694, 696, 698, 700, 702, 704, 706] (by decide +kernel) (by decide +kernel)
abbrev vwCl : List vw_C := [(R_L, F_L, 4), (R_R, F_R, 7), (R_T, F_T, 6), (R_U, F_U, 9), (R_C, F_C, 7), (R_M, F_M, 26)]
abbrev b_C_about : ByteArray := prog_1_method_16_code
def y_C_about : MethodName := ⟨R_C, "about", "(II)I"⟩
abbrev k_C_about : Cond := .code y_C_about b_C_about 4 (some .int)
theorem kw_C_about : k_C_about ∈ GT := gt_i 525 (by decide +kernel) rfl
abbrev b_C_approve : ByteArray := prog_1_method_13_code
def y_C_approve : MethodName := ⟨R_C, "approve", "(II)I"⟩
abbrev k_C_approve : Cond := .code y_C_approve b_C_approve 4 (some .int)
theorem kw_C_approve : k_C_approve ∈ GT := gt_i 469 (by decide +kernel) rfl
abbrev b_C_at : ByteArray := prog_1_method_12_code
def y_C_at : MethodName := ⟨R_C, "at", "(II)I"⟩
abbrev k_C_at : Cond := .code y_C_at b_C_at 3 (some .int)
theorem kw_C_at : k_C_at ∈ GT := gt_i 542 (by decide +kernel) rfl
abbrev b_C_breaks : ByteArray := prog_1_method_5_code
def y_C_breaks : MethodName := ⟨R_C, "breaks", "(IZ)Z"⟩
abbrev k_C_breaks : Cond := .code y_C_breaks b_C_breaks 5 (some .boolean)
theorem kw_C_breaks : k_C_breaks ∈ GT := gt_i 338 (by decide +kernel) rfl
abbrev b_C_certificate : ByteArray := prog_1_method_15_code
def y_C_certificate : MethodName := ⟨R_C, "certificate", "(II)I"⟩
abbrev k_C_certificate : Cond := .code y_C_certificate b_C_certificate 4 (some .int)
theorem kw_C_certificate : k_C_certificate ∈ GT := gt_i 517 (by decide +kernel) rfl
abbrev b_C_change : ByteArray := prog_1_method_4_code
def y_C_change : MethodName := ⟨R_C, "change", "(III)I"⟩
abbrev k_C_change : Cond := .code y_C_change b_C_change 5 (some .int)
theorem kw_C_change : k_C_change ∈ GT := gt_i 318 (by decide +kernel) rfl
abbrev b_C_day : ByteArray := prog_1_method_10_code
def y_C_day : MethodName := ⟨R_C, "day", "(II)I"⟩
abbrev k_C_day : Cond := .code y_C_day b_C_day 4 (some .int)
theorem kw_C_day : k_C_day ∈ GT := gt_i 402 (by decide +kernel) rfl
abbrev b_C_dispose : ByteArray := prog_1_method_14_code
def y_C_dispose : MethodName := ⟨R_C, "dispose", "(III)I"⟩
abbrev k_C_dispose : Cond := .code y_C_dispose b_C_dispose 6 (some .int)
theorem kw_C_dispose : k_C_dispose ∈ GT := gt_i 489 (by decide +kernel) rfl
abbrev b_C_due : ByteArray := prog_1_method_11_code
def y_C_due : MethodName := ⟨R_C, "due", "(I)I"⟩
abbrev k_C_due : Cond := .code y_C_due b_C_due 4 (some .int)
theorem kw_C_due : k_C_due ∈ GT := gt_i 435 (by decide +kernel) rfl
abbrev b_C_event : ByteArray := prog_1_method_6_code
def y_C_event : MethodName := ⟨R_C, "event", "(III)I"⟩
abbrev k_C_event : Cond := .code y_C_event b_C_event 5 (some .int)
theorem kw_C_event : k_C_event ∈ GT := gt_i 350 (by decide +kernel) rfl
abbrev b_C_except : ByteArray := prog_1_method_9_code
def y_C_except : MethodName := ⟨R_C, "except", "(II)I"⟩
abbrev k_C_except : Cond := .code y_C_except b_C_except 4 (some .int)
theorem kw_C_except : k_C_except ∈ GT := gt_i 394 (by decide +kernel) rfl
abbrev b_C_findRule : ByteArray := prog_1_method_19_code
def y_C_findRule : MethodName := ⟨R_C, "findRule", "(I)LRetentionRows$Rule;"⟩
abbrev k_C_findRule : Cond := .code y_C_findRule b_C_findRule 2 (some (.object "RetentionRows$Rule"))
theorem kw_C_findRule : k_C_findRule ∈ GT := gt_i 322 (by decide +kernel) rfl
abbrev b_C_findUnit : ByteArray := prog_1_method_18_code
def y_C_findUnit : MethodName := ⟨R_C, "findUnit", "(I)LRetentionRows$Unit;"⟩
abbrev k_C_findUnit : Cond := .code y_C_findUnit b_C_findUnit 2 (some (.object "RetentionRows$Unit"))
theorem kw_C_findUnit : k_C_findUnit ∈ GT := gt_i 354 (by decide +kernel) rfl
abbrev b_C_history : ByteArray := prog_1_method_17_code
def y_C_history : MethodName := ⟨R_C, "history", "(I)I"⟩
abbrev k_C_history : Cond := .code y_C_history b_C_history 2 (some .int)
theorem kw_C_history : k_C_history ∈ GT := gt_i 622 (by decide +kernel) rfl
abbrev b_C_hold : ByteArray := prog_1_method_8_code
def y_C_hold : MethodName := ⟨R_C, "hold", "(III)I"⟩
abbrev k_C_hold : Cond := .code y_C_hold b_C_hold 5 (some .int)
theorem kw_C_hold : k_C_hold ∈ GT := gt_i 386 (by decide +kernel) rfl
abbrev b_C_init : ByteArray := prog_1_method_1_code
def y_C_init : MethodName := ⟨R_C, "<init>", "()V"⟩
abbrev k_C_init : Cond := .code y_C_init b_C_init 2 none
theorem kw_C_init : k_C_init ∈ GT := gt_i 51 (by decide +kernel) rfl
abbrev b_C_isCertificateMissing : ByteArray := prog_1_method_22_code
def y_C_isCertificateMissing : MethodName := ⟨R_C, "isCertificateMissing", "()Z"⟩
abbrev k_C_isCertificateMissing : Cond := .code y_C_isCertificateMissing b_C_isCertificateMissing 3 (some .boolean)
theorem kw_C_isCertificateMissing : k_C_isCertificateMissing ∈ GT := gt_i 497 (by decide +kernel) rfl
abbrev b_C_isDay : ByteArray := prog_1_method_20_code
def y_C_isDay : MethodName := ⟨R_C, "isDay", "(I)Z"⟩
abbrev k_C_isDay : Cond := .code y_C_isDay b_C_isDay 1 (some .boolean)
theorem kw_C_isDay : k_C_isDay ∈ GT := gt_i 325 (by decide +kernel) rfl
abbrev b_C_keepDisposed : ByteArray := prog_1_method_23_code
def y_C_keepDisposed : MethodName := ⟨R_C, "keepDisposed", "(I)V"⟩
abbrev k_C_keepDisposed : Cond := .code y_C_keepDisposed b_C_keepDisposed 2 none
theorem kw_C_keepDisposed : k_C_keepDisposed ∈ GT := gt_i 513 (by decide +kernel) rfl
abbrev b_C_obstacleTo : ByteArray := prog_1_method_21_code
def y_C_obstacleTo : MethodName := ⟨R_C, "obstacleTo", "(LRetentionRows$Unit;II)I"⟩
abbrev k_C_obstacleTo : Cond := .code y_C_obstacleTo b_C_obstacleTo 4 (some .int)
theorem kw_C_obstacleTo : k_C_obstacleTo ∈ GT := gt_i 493 (by decide +kernel) rfl
abbrev b_C_rule : ByteArray := prog_1_method_3_code
def y_C_rule : MethodName := ⟨R_C, "rule", "()I"⟩
abbrev k_C_rule : Cond := .code y_C_rule b_C_rule 2 (some .int)
theorem kw_C_rule : k_C_rule ∈ GT := gt_i 171 (by decide +kernel) rfl
abbrev b_C_schedule : ByteArray := prog_1_method_7_code
def y_C_schedule : MethodName := ⟨R_C, "schedule", "(II)I"⟩
abbrev k_C_schedule : Cond := .code y_C_schedule b_C_schedule 5 (some .int)
theorem kw_C_schedule : k_C_schedule ∈ GT := gt_i 370 (by decide +kernel) rfl
abbrev b_C_sign : ByteArray := prog_1_method_2_code
def y_C_sign : MethodName := ⟨R_C, "sign", "(I)V"⟩
abbrev k_C_sign : Cond := .code y_C_sign b_C_sign 2 none
theorem kw_C_sign : k_C_sign ∈ GT := gt_i 163 (by decide +kernel) rfl
abbrev b_J_charAt : ByteArray := prog_11_method_2_code
def y_J_charAt : MethodName := ⟨R_J, "charAt", "([BI)C"⟩
abbrev k_J_charAt : Cond := .code y_J_charAt b_J_charAt 2 (some .char)
theorem kw_J_charAt : k_J_charAt ∈ GT := gt_i 222 (by decide +kernel) rfl
abbrev b_L_clear : ByteArray := prog_2_method_2_code
def y_L_clear : MethodName := ⟨R_L, "clear", "()V"⟩
abbrev k_L_clear : Cond := .code y_L_clear b_L_clear 1 none
theorem kw_L_clear : k_L_clear ∈ GT := gt_i 439 (by decide +kernel) rfl
abbrev b_L_has : ByteArray := prog_2_method_4_code
def y_L_has : MethodName := ⟨R_L, "has", "(I)Z"⟩
abbrev k_L_has : Cond := .code y_L_has b_L_has 2 (some .boolean)
theorem kw_L_has : k_L_has ∈ GT := gt_i 546 (by decide +kernel) rfl
abbrev b_L_init : ByteArray := prog_2_method_1_code
def y_L_init : MethodName := ⟨R_L, "<init>", "()V"⟩
abbrev k_L_init : Cond := .code y_L_init b_L_init 1 none
theorem kw_L_init : k_L_init ∈ GT := gt_i 123 (by decide +kernel) rfl
abbrev b_L_insert : ByteArray := prog_2_method_5_code
def y_L_insert : MethodName := ⟨R_L, "insert", "(III)V"⟩
abbrev k_L_insert : Cond := .code y_L_insert b_L_insert 5 none
theorem kw_L_insert : k_L_insert ∈ GT := gt_i 457 (by decide +kernel) rfl
abbrev b_L_put : ByteArray := prog_2_method_7_code
def y_L_put : MethodName := ⟨R_L, "put", "(IIII)V"⟩
abbrev k_L_put : Cond := .code y_L_put b_L_put 5 none
theorem kw_L_put : k_L_put ∈ GT := gt_i 461 (by decide +kernel) rfl
abbrev b_L_size : ByteArray := prog_2_method_3_code
def y_L_size : MethodName := ⟨R_L, "size", "()I"⟩
abbrev k_L_size : Cond := .code y_L_size b_L_size 1 (some .int)
theorem kw_L_size : k_L_size ∈ GT := gt_i 465 (by decide +kernel) rfl
abbrev b_L_told : ByteArray := prog_2_method_6_code
def y_L_told : MethodName := ⟨R_L, "told", "(II)I"⟩
abbrev k_L_told : Cond := .code y_L_told b_L_told 3 (some .int)
theorem kw_L_told : k_L_told ∈ GT := gt_i 615 (by decide +kernel) rfl
abbrev b_M_about : ByteArray := prog_7_method_38_code
def y_M_about : MethodName := ⟨R_M, "about", "(II)I"⟩
abbrev k_M_about : Cond := .code y_M_about b_M_about 3 (some .int)
theorem kw_M_about : k_M_about ∈ GT := gt_i 863 (by decide +kernel) rfl
abbrev b_M_actionJ : ByteArray := prog_7_method_13_code
def y_M_actionJ : MethodName := ⟨R_M, "action", "(J)I"⟩
abbrev k_M_actionJ : Cond := .code y_M_actionJ b_M_actionJ 2 (some .int)
theorem kw_M_actionJ : k_M_actionJ ∈ GT := gt_i 760 (by decide +kernel) rfl
abbrev b_M_actionOf : ByteArray := prog_7_method_30_code
def y_M_actionOf : MethodName := ⟨R_M, "actionOf", "(II)I"⟩
abbrev k_M_actionOf : Cond := .code y_M_actionOf b_M_actionOf 7 (some .int)
theorem kw_M_actionOf : k_M_actionOf ∈ GT := gt_i 835 (by decide +kernel) rfl
abbrev b_M_against : ByteArray := prog_7_method_35_code
def y_M_against : MethodName := ⟨R_M, "against", "(III)I"⟩
abbrev k_M_against : Cond := .code y_M_against b_M_against 4 (some .int)
theorem kw_M_against : k_M_against ∈ GT := gt_i 851 (by decide +kernel) rfl
abbrev b_M_approve : ByteArray := prog_7_method_33_code
def y_M_approve : MethodName := ⟨R_M, "approve", "(II)I"⟩
abbrev k_M_approve : Cond := .code y_M_approve b_M_approve 3 (some .int)
theorem kw_M_approve : k_M_approve ∈ GT := gt_i 843 (by decide +kernel) rfl
abbrev b_M_at : ByteArray := prog_7_method_32_code
def y_M_at : MethodName := ⟨R_M, "at", "(II)I"⟩
abbrev k_M_at : Cond := .code y_M_at b_M_at 3 (some .int)
theorem kw_M_at : k_M_at ∈ GT := gt_i 839 (by decide +kernel) rfl
abbrev b_M_breaks : ByteArray := prog_7_method_19_code
def y_M_breaks : MethodName := ⟨R_M, "breaks", "(IZ)Z"⟩
abbrev k_M_breaks : Cond := .code y_M_breaks b_M_breaks 4 (some .boolean)
theorem kw_M_breaks : k_M_breaks ∈ GT := gt_i 784 (by decide +kernel) rfl
abbrev b_M_certificate : ByteArray := prog_7_method_37_code
def y_M_certificate : MethodName := ⟨R_M, "certificate", "(II)I"⟩
abbrev k_M_certificate : Cond := .code y_M_certificate b_M_certificate 3 (some .int)
theorem kw_M_certificate : k_M_certificate ∈ GT := gt_i 859 (by decide +kernel) rfl
abbrev b_M_change : ByteArray := prog_7_method_18_code
def y_M_change : MethodName := ⟨R_M, "change", "(III)I"⟩
abbrev k_M_change : Cond := .code y_M_change b_M_change 4 (some .int)
theorem kw_M_change : k_M_change ∈ GT := gt_i 769 (by decide +kernel) rfl
abbrev b_M_day : ByteArray := prog_7_method_28_code
def y_M_day : MethodName := ⟨R_M, "day", "(II)I"⟩
abbrev k_M_day : Cond := .code y_M_day b_M_day 3 (some .int)
theorem kw_M_day : k_M_day ∈ GT := gt_i 807 (by decide +kernel) rfl
abbrev b_M_dayOf : ByteArray := prog_7_method_25_code
def y_M_dayOf : MethodName := ⟨R_M, "dayOf", "(III)I"⟩
abbrev k_M_dayOf : Cond := .code y_M_dayOf b_M_dayOf 5 (some .int)
theorem kw_M_dayOf : k_M_dayOf ∈ GT := gt_i 819 (by decide +kernel) rfl
abbrev b_M_digits : ByteArray := prog_7_method_15_code
def y_M_digits : MethodName := ⟨R_M, "digits", "()I"⟩
abbrev k_M_digits : Cond := .code y_M_digits b_M_digits 3 (some .int)
theorem kw_M_digits : k_M_digits ∈ GT := gt_i 757 (by decide +kernel) rfl
abbrev b_M_dispose : ByteArray := prog_7_method_36_code
def y_M_dispose : MethodName := ⟨R_M, "dispose", "(III)I"⟩
abbrev k_M_dispose : Cond := .code y_M_dispose b_M_dispose 5 (some .int)
theorem kw_M_dispose : k_M_dispose ∈ GT := gt_i 847 (by decide +kernel) rfl
abbrev b_M_due : ByteArray := prog_7_method_31_code
def y_M_due : MethodName := ⟨R_M, "due", "(I)I"⟩
abbrev k_M_due : Cond := .code y_M_due b_M_due 5 (some .int)
theorem kw_M_due : k_M_due ∈ GT := gt_i 827 (by decide +kernel) rfl
abbrev b_M_dueDay : ByteArray := prog_7_method_27_code
def y_M_dueDay : MethodName := ⟨R_M, "dueDay", "(II)I"⟩
abbrev k_M_dueDay : Cond := .code y_M_dueDay b_M_dueDay 6 (some .int)
theorem kw_M_dueDay : k_M_dueDay ∈ GT := gt_i 811 (by decide +kernel) rfl
abbrev b_M_event : ByteArray := prog_7_method_20_code
def y_M_event : MethodName := ⟨R_M, "event", "(III)I"⟩
abbrev k_M_event : Cond := .code y_M_event b_M_event 4 (some .int)
theorem kw_M_event : k_M_event ∈ GT := gt_i 788 (by decide +kernel) rfl
abbrev b_M_eventJ : ByteArray := prog_7_method_12_code
def y_M_eventJ : MethodName := ⟨R_M, "event", "(J)I"⟩
abbrev k_M_eventJ : Cond := .code y_M_eventJ b_M_eventJ 2 (some .int)
theorem kw_M_eventJ : k_M_eventJ ∈ GT := gt_i 743 (by decide +kernel) rfl
abbrev b_M_except : ByteArray := prog_7_method_23_code
def y_M_except : MethodName := ⟨R_M, "except", "(II)I"⟩
abbrev k_M_except : Cond := .code y_M_except b_M_except 3 (some .int)
theorem kw_M_except : k_M_except ∈ GT := gt_i 803 (by decide +kernel) rfl
abbrev b_M_fails : ByteArray := prog_7_method_26_code
def y_M_fails : MethodName := ⟨R_M, "fails", "(I)Z"⟩
abbrev k_M_fails : Cond := .code y_M_fails b_M_fails 4 (some .boolean)
theorem kw_M_fails : k_M_fails ∈ GT := gt_i 815 (by decide +kernel) rfl
abbrev b_M_history : ByteArray := prog_7_method_39_code
def y_M_history : MethodName := ⟨R_M, "history", "(I)I"⟩
abbrev k_M_history : Cond := .code y_M_history b_M_history 2 (some .int)
theorem kw_M_history : k_M_history ∈ GT := gt_i 867 (by decide +kernel) rfl
abbrev b_M_hold : ByteArray := prog_7_method_22_code
def y_M_hold : MethodName := ⟨R_M, "hold", "(III)I"⟩
abbrev k_M_hold : Cond := .code y_M_hold b_M_hold 4 (some .int)
theorem kw_M_hold : k_M_hold ∈ GT := gt_i 799 (by decide +kernel) rfl
abbrev b_M_in : ByteArray := prog_7_method_3_code
def y_M_in : MethodName := ⟨R_M, "in", "(III)Z"⟩
abbrev k_M_in : Cond := .code y_M_in b_M_in 3 (some .boolean)
theorem kw_M_in : k_M_in ∈ GT := gt_i 776 (by decide +kernel) rfl
abbrev b_M_init : ByteArray := prog_7_method_1_code
def y_M_init : MethodName := ⟨R_M, "<init>", "()V"⟩
abbrev k_M_init : Cond := .code y_M_init b_M_init 2 none
theorem kw_M_init : k_M_init ∈ GT := gt_i 628 (by decide +kernel) rfl
abbrev b_M_isDay : ByteArray := prog_7_method_5_code
def y_M_isDay : MethodName := ⟨R_M, "isDay", "(I)Z"⟩
abbrev k_M_isDay : Cond := .code y_M_isDay b_M_isDay 1 (some .boolean)
theorem kw_M_isDay : k_M_isDay ∈ GT := gt_i 779 (by decide +kernel) rfl
abbrev b_M_isDue : ByteArray := prog_7_method_29_code
def y_M_isDue : MethodName := ⟨R_M, "isDue", "(II)Z"⟩
abbrev k_M_isDue : Cond := .code y_M_isDue b_M_isDue 4 (some .boolean)
theorem kw_M_isDue : k_M_isDue ∈ GT := gt_i 831 (by decide +kernel) rfl
abbrev b_M_isHeld : ByteArray := prog_7_method_34_code
def y_M_isHeld : MethodName := ⟨R_M, "isHeld", "(II)Z"⟩
abbrev k_M_isHeld : Cond := .code y_M_isHeld b_M_isHeld 5 (some .boolean)
theorem kw_M_isHeld : k_M_isHeld ∈ GT := gt_i 855 (by decide +kernel) rfl
abbrev b_M_isRule : ByteArray := prog_7_method_6_code
def y_M_isRule : MethodName := ⟨R_M, "isRule", "(I)Z"⟩
abbrev k_M_isRule : Cond := .code y_M_isRule b_M_isRule 2 (some .boolean)
theorem kw_M_isRule : k_M_isRule ∈ GT := gt_i 773 (by decide +kernel) rfl
abbrev b_M_isSmall : ByteArray := prog_7_method_9_code
def y_M_isSmall : MethodName := ⟨R_M, "isSmall", "()Z"⟩
abbrev k_M_isSmall : Cond := .code y_M_isSmall b_M_isSmall 1 (some .boolean)
theorem kw_M_isSmall : k_M_isSmall ∈ GT := gt_i 733 (by decide +kernel) rfl
abbrev b_M_isUnit : ByteArray := prog_7_method_4_code
def y_M_isUnit : MethodName := ⟨R_M, "isUnit", "(I)Z"⟩
abbrev k_M_isUnit : Cond := .code y_M_isUnit b_M_isUnit 1 (some .boolean)
theorem kw_M_isUnit : k_M_isUnit ∈ GT := gt_i 791 (by decide +kernel) rfl
abbrev b_M_look : ByteArray := prog_7_method_8_code
def y_M_look : MethodName := ⟨R_M, "look", "()I"⟩
abbrev k_M_look : Cond := .code y_M_look b_M_look 1 (some .int)
theorem kw_M_look : k_M_look ∈ GT := gt_i 737 (by decide +kernel) rfl
abbrev b_M_reads : ByteArray := prog_7_method_16_code
def y_M_reads : MethodName := ⟨R_M, "reads", "()I"⟩
abbrev k_M_reads : Cond := .code y_M_reads b_M_reads 5 (some .int)
theorem kw_M_reads : k_M_reads ∈ GT := gt_i 725 (by decide +kernel) rfl
abbrev b_M_rule : ByteArray := prog_7_method_17_code
def y_M_rule : MethodName := ⟨R_M, "rule", "()I"⟩
abbrev k_M_rule : Cond := .code y_M_rule b_M_rule 2 (some .int)
theorem kw_M_rule : k_M_rule ∈ GT := gt_i 721 (by decide +kernel) rfl
abbrev b_M_schedule : ByteArray := prog_7_method_21_code
def y_M_schedule : MethodName := ⟨R_M, "schedule", "(II)I"⟩
abbrev k_M_schedule : Cond := .code y_M_schedule b_M_schedule 5 (some .int)
theorem kw_M_schedule : k_M_schedule ∈ GT := gt_i 795 (by decide +kernel) rfl
abbrev b_M_sign : ByteArray := prog_7_method_7_code
def y_M_sign : MethodName := ⟨R_M, "sign", "(I)V"⟩
abbrev k_M_sign : Cond := .code y_M_sign b_M_sign 2 none
theorem kw_M_sign : k_M_sign ∈ GT := gt_i 717 (by decide +kernel) rfl
abbrev b_M_space : ByteArray := prog_7_method_14_code
def y_M_space : MethodName := ⟨R_M, "space", "()Z"⟩
abbrev k_M_space : Cond := .code y_M_space b_M_space 1 (some .boolean)
theorem kw_M_space : k_M_space ∈ GT := gt_i 753 (by decide +kernel) rfl
abbrev b_M_thrown : ByteArray := prog_7_method_2_code
def y_M_thrown : MethodName := ⟨R_M, "thrown", "()I"⟩
abbrev k_M_thrown : Cond := .code y_M_thrown b_M_thrown 1 (some .int)
theorem kw_M_thrown : k_M_thrown ∈ GT := gt_i 713 (by decide +kernel) rfl
abbrev b_M_word : ByteArray := prog_7_method_10_code
def y_M_word : MethodName := ⟨R_M, "word", "()J"⟩
abbrev k_M_word : Cond := .code y_M_word b_M_word 4 (some .long)
theorem kw_M_word : k_M_word ∈ GT := gt_i 729 (by decide +kernel) rfl
abbrev b_M_word4 : ByteArray := prog_7_method_11_code
def y_M_word4 : MethodName := ⟨R_M, "word", "(IIII)J"⟩
abbrev k_M_word4 : Cond := .code y_M_word4 b_M_word4 4 (some .long)
theorem kw_M_word4 : k_M_word4 ∈ GT := gt_i 746 (by decide +kernel) rfl
abbrev b_M_yearsOn : ByteArray := prog_7_method_24_code
def y_M_yearsOn : MethodName := ⟨R_M, "yearsOn", "(II)I"⟩
abbrev k_M_yearsOn : Cond := .code y_M_yearsOn b_M_yearsOn 5 (some .int)
theorem kw_M_yearsOn : k_M_yearsOn ∈ GT := gt_i 823 (by decide +kernel) rfl
abbrev b_R_action : ByteArray := prog_3_method_3_code
def y_R_action : MethodName := ⟨R_R, "action", "()I"⟩
abbrev k_R_action : Cond := .code y_R_action b_R_action 1 (some .int)
theorem kw_R_action : k_R_action ∈ GT := gt_i 453 (by decide +kernel) rfl
abbrev b_R_addChange : ByteArray := prog_3_method_7_code
def y_R_addChange : MethodName := ⟨R_R, "addChange", "(II)Z"⟩
abbrev k_R_addChange : Cond := .code y_R_addChange b_R_addChange 4 (some .boolean)
theorem kw_R_addChange : k_R_addChange ∈ GT := gt_i 334 (by decide +kernel) rfl
abbrev b_R_dueDay : ByteArray := prog_3_method_8_code
def y_R_dueDay : MethodName := ⟨R_R, "dueDay", "(II)I"⟩
abbrev k_R_dueDay : Cond := .code y_R_dueDay b_R_dueDay 3 (some .int)
theorem kw_R_dueDay : k_R_dueDay ∈ GT := gt_i 427 (by decide +kernel) rfl
abbrev b_R_eventKind : ByteArray := prog_3_method_2_code
def y_R_eventKind : MethodName := ⟨R_R, "eventKind", "()I"⟩
abbrev k_R_eventKind : Cond := .code y_R_eventKind b_R_eventKind 1 (some .int)
theorem kw_R_eventKind : k_R_eventKind ∈ GT := gt_i 419 (by decide +kernel) rfl
abbrev b_R_init : ByteArray := prog_3_method_1_code
def y_R_init : MethodName := ⟨R_R, "<init>", "(III)V"⟩
abbrev k_R_init : Cond := .code y_R_init b_R_init 4 none
theorem kw_R_init : k_R_init ∈ GT := gt_i 290 (by decide +kernel) rfl
abbrev b_R_isBroken : ByteArray := prog_3_method_4_code
def y_R_isBroken : MethodName := ⟨R_R, "isBroken", "()Z"⟩
abbrev k_R_isBroken : Cond := .code y_R_isBroken b_R_isBroken 1 (some .boolean)
theorem kw_R_isBroken : k_R_isBroken ∈ GT := gt_i 342 (by decide +kernel) rfl
abbrev b_R_isChangedFrom : ByteArray := prog_3_method_6_code
def y_R_isChangedFrom : MethodName := ⟨R_R, "isChangedFrom", "(I)Z"⟩
abbrev k_R_isChangedFrom : Cond := .code y_R_isChangedFrom b_R_isChangedFrom 3 (some .boolean)
theorem kw_R_isChangedFrom : k_R_isChangedFrom ∈ GT := gt_i 330 (by decide +kernel) rfl
abbrev b_R_setBroken : ByteArray := prog_3_method_5_code
def y_R_setBroken : MethodName := ⟨R_R, "setBroken", "(Z)V"⟩
abbrev k_R_setBroken : Cond := .code y_R_setBroken b_R_setBroken 2 none
theorem kw_R_setBroken : k_R_setBroken ∈ GT := gt_i 346 (by decide +kernel) rfl
abbrev b_R_yearsOn : ByteArray := prog_3_method_9_code
def y_R_yearsOn : MethodName := ⟨R_R, "yearsOn", "(I)I"⟩
abbrev k_R_yearsOn : Cond := .code y_R_yearsOn b_R_yearsOn 4 (some .int)
theorem kw_R_yearsOn : k_R_yearsOn ∈ GT := gt_i 431 (by decide +kernel) rfl
abbrev b_S_charAt : ByteArray := prog_10_method_56_code
def y_S_charAt : MethodName := ⟨R_S, "charAt", "(I)C"⟩
abbrev k_S_charAt : Cond := .code y_S_charAt b_S_charAt 2 (some .char)
theorem kw_S_charAt : k_S_charAt ∈ GT := gt_i 215 (by decide +kernel) rfl
abbrev b_S_coder : ByteArray := prog_10_method_152_code
def y_S_coder : MethodName := ⟨R_S, "coder", "()B"⟩
abbrev k_S_coder : Cond := .code y_S_coder b_S_coder 1 (some .byte)
theorem kw_S_coder : k_S_coder ∈ GT := gt_i 209 (by decide +kernel) rfl
abbrev b_S_isLatin1 : ByteArray := prog_10_method_154_code
def y_S_isLatin1 : MethodName := ⟨R_S, "isLatin1", "()Z"⟩
abbrev k_S_isLatin1 : Cond := .code y_S_isLatin1 b_S_isLatin1 1 (some .boolean)
theorem kw_S_isLatin1 : k_S_isLatin1 ∈ GT := gt_i 219 (by decide +kernel) rfl
abbrev b_S_length : ByteArray := prog_10_method_54_code
def y_S_length : MethodName := ⟨R_S, "length", "()I"⟩
abbrev k_S_length : Cond := .code y_S_length b_S_length 1 (some .int)
theorem kw_S_length : k_S_length ∈ GT := gt_i 205 (by decide +kernel) rfl
abbrev b_T_action : ByteArray := prog_4_method_8_code
def y_T_action : MethodName := ⟨R_T, "action", "()I"⟩
abbrev k_T_action : Cond := .code y_T_action b_T_action 1 (some .int)
theorem kw_T_action : k_T_action ∈ GT := gt_i 287 (by decide +kernel) rfl
abbrev b_T_clear : ByteArray := prog_4_method_3_code
def y_T_clear : MethodName := ⟨R_T, "clear", "()V"⟩
abbrev k_T_clear : Cond := .code y_T_clear b_T_clear 1 none
theorem kw_T_clear : k_T_clear ∈ GT := gt_i 270 (by decide +kernel) rfl
abbrev b_T_collect : ByteArray := prog_4_method_2_code
def y_T_collect : MethodName := ⟨R_T, "collect", "(I)V"⟩
abbrev k_T_collect : Cond := .code y_T_collect b_T_collect 2 none
theorem kw_T_collect : k_T_collect ∈ GT := gt_i 167 (by decide +kernel) rfl
abbrev b_T_eventKind : ByteArray := prog_4_method_6_code
def y_T_eventKind : MethodName := ⟨R_T, "eventKind", "()I"⟩
abbrev k_T_eventKind : Cond := .code y_T_eventKind b_T_eventKind 1 (some .int)
theorem kw_T_eventKind : k_T_eventKind ∈ GT := gt_i 279 (by decide +kernel) rfl
abbrev b_T_eventWord : ByteArray := prog_4_method_13_code
def y_T_eventWord : MethodName := ⟨R_T, "eventWord", "(I)Ljava/lang/String;"⟩
abbrev k_T_eventWord : Cond := .code y_T_eventWord b_T_eventWord 1 (some (.object "java/lang/String"))
theorem kw_T_eventWord : k_T_eventWord ∈ GT := gt_i 193 (by decide +kernel) rfl
abbrev b_T_init : ByteArray := prog_4_method_1_code
def y_T_init : MethodName := ⟨R_T, "<init>", "()V"⟩
abbrev k_T_init : Cond := .code y_T_init b_T_init 1 none
theorem kw_T_init : k_T_init ∈ GT := gt_i 59 (by decide +kernel) rfl
abbrev b_T_isDigit : ByteArray := prog_4_method_18_code
def y_T_isDigit : MethodName := ⟨R_T, "isDigit", "(I)Z"⟩
abbrev k_T_isDigit : Cond := .code y_T_isDigit b_T_isDigit 1 (some .boolean)
theorem kw_T_isDigit : k_T_isDigit ∈ GT := gt_i 260 (by decide +kernel) rfl
abbrev b_T_isSmallLetter : ByteArray := prog_4_method_17_code
def y_T_isSmallLetter : MethodName := ⟨R_T, "isSmallLetter", "(I)Z"⟩
abbrev k_T_isSmallLetter : Cond := .code y_T_isSmallLetter b_T_isSmallLetter 1 (some .boolean)
theorem kw_T_isSmallLetter : k_T_isSmallLetter ∈ GT := gt_i 190 (by decide +kernel) rfl
abbrev b_T_isWord : ByteArray := prog_4_method_15_code
def y_T_isWord : MethodName := ⟨R_T, "isWord", "(Ljava/lang/String;I)Z"⟩
abbrev k_T_isWord : Cond := .code y_T_isWord b_T_isWord 4 (some .boolean)
theorem kw_T_isWord : k_T_isWord ∈ GT := gt_i 201 (by decide +kernel) rfl
abbrev b_T_place : ByteArray := prog_4_method_5_code
def y_T_place : MethodName := ⟨R_T, "place", "()I"⟩
abbrev k_T_place : Cond := .code y_T_place b_T_place 1 (some .int)
theorem kw_T_place : k_T_place ∈ GT := gt_i 274 (by decide +kernel) rfl
abbrev b_T_read : ByteArray := prog_4_method_4_code
def y_T_read : MethodName := ⟨R_T, "read", "()Z"⟩
abbrev k_T_read : Cond := .code y_T_read b_T_read 1 (some .boolean)
theorem kw_T_read : k_T_read ∈ GT := gt_i 175 (by decide +kernel) rfl
abbrev b_T_readAction : ByteArray := prog_4_method_10_code
def y_T_readAction : MethodName := ⟨R_T, "readAction", "()Z"⟩
abbrev k_T_readAction : Cond := .code y_T_readAction b_T_readAction 2 (some .boolean)
theorem kw_T_readAction : k_T_readAction ∈ GT := gt_i 264 (by decide +kernel) rfl
abbrev b_T_readEvent : ByteArray := prog_4_method_9_code
def y_T_readEvent : MethodName := ⟨R_T, "readEvent", "()Z"⟩
abbrev k_T_readEvent : Cond := .code y_T_readEvent b_T_readEvent 3 (some .boolean)
theorem kw_T_readEvent : k_T_readEvent ∈ GT := gt_i 179 (by decide +kernel) rfl
abbrev b_T_readSpace : ByteArray := prog_4_method_11_code
def y_T_readSpace : MethodName := ⟨R_T, "readSpace", "()Z"⟩
abbrev k_T_readSpace : Cond := .code y_T_readSpace b_T_readSpace 1 (some .boolean)
theorem kw_T_readSpace : k_T_readSpace ∈ GT := gt_i 253 (by decide +kernel) rfl
abbrev b_T_readYears : ByteArray := prog_4_method_12_code
def y_T_readYears : MethodName := ⟨R_T, "readYears", "()Z"⟩
abbrev k_T_readYears : Cond := .code y_T_readYears b_T_readYears 2 (some .boolean)
theorem kw_T_readYears : k_T_readYears ∈ GT := gt_i 257 (by decide +kernel) rfl
abbrev b_T_signAt : ByteArray := prog_4_method_16_code
def y_T_signAt : MethodName := ⟨R_T, "signAt", "(I)I"⟩
abbrev k_T_signAt : Cond := .code y_T_signAt b_T_signAt 2 (some .int)
theorem kw_T_signAt : k_T_signAt ∈ GT := gt_i 187 (by decide +kernel) rfl
abbrev b_T_wordEnd : ByteArray := prog_4_method_14_code
def y_T_wordEnd : MethodName := ⟨R_T, "wordEnd", "()I"⟩
abbrev k_T_wordEnd : Cond := .code y_T_wordEnd b_T_wordEnd 2 (some .int)
theorem kw_T_wordEnd : k_T_wordEnd ∈ GT := gt_i 183 (by decide +kernel) rfl
abbrev b_T_years : ByteArray := prog_4_method_7_code
def y_T_years : MethodName := ⟨R_T, "years", "()I"⟩
abbrev k_T_years : Cond := .code y_T_years b_T_years 1 (some .int)
theorem kw_T_years : k_T_years ∈ GT := gt_i 283 (by decide +kernel) rfl
abbrev b_U_addApproval : ByteArray := prog_5_method_14_code
def y_U_addApproval : MethodName := ⟨R_U, "addApproval", "(I)V"⟩
abbrev k_U_addApproval : Cond := .code y_U_addApproval b_U_addApproval 2 none
theorem kw_U_addApproval : k_U_addApproval ∈ GT := gt_i 481 (by decide +kernel) rfl
abbrev b_U_addRule : ByteArray := prog_5_method_4_code
def y_U_addRule : MethodName := ⟨R_U, "addRule", "(LRetentionRows$Rule;)Z"⟩
abbrev k_U_addRule : Cond := .code y_U_addRule b_U_addRule 2 (some .boolean)
theorem kw_U_addRule : k_U_addRule ∈ GT := gt_i 378 (by decide +kernel) rfl
abbrev b_U_approvalCount : ByteArray := prog_5_method_15_code
def y_U_approvalCount : MethodName := ⟨R_U, "approvalCount", "()I"⟩
abbrev k_U_approvalCount : Cond := .code y_U_approvalCount b_U_approvalCount 1 (some .int)
theorem kw_U_approvalCount : k_U_approvalCount ∈ GT := gt_i 485 (by decide +kernel) rfl
abbrev b_U_certificateNumber : ByteArray := prog_5_method_23_code
def y_U_certificateNumber : MethodName := ⟨R_U, "certificateNumber", "()I"⟩
abbrev k_U_certificateNumber : Cond := .code y_U_certificateNumber b_U_certificateNumber 1 (some .int)
theorem kw_U_certificateNumber : k_U_certificateNumber ∈ GT := gt_i 533 (by decide +kernel) rfl
abbrev b_U_decidingRule : ByteArray := prog_5_method_25_code
def y_U_decidingRule : MethodName := ⟨R_U, "decidingRule", "(I)LRetentionRows$Rule;"⟩
abbrev k_U_decidingRule : Cond := .code y_U_decidingRule b_U_decidingRule 7 (some (.object "RetentionRows$Rule"))
theorem kw_U_decidingRule : k_U_decidingRule ∈ GT := gt_i 415 (by decide +kernel) rfl
abbrev b_U_disposalDay : ByteArray := prog_5_method_20_code
def y_U_disposalDay : MethodName := ⟨R_U, "disposalDay", "()I"⟩
abbrev k_U_disposalDay : Cond := .code y_U_disposalDay b_U_disposalDay 1 (some .int)
theorem kw_U_disposalDay : k_U_disposalDay ∈ GT := gt_i 529 (by decide +kernel) rfl
abbrev b_U_dueAction : ByteArray := prog_5_method_12_code
def y_U_dueAction : MethodName := ⟨R_U, "dueAction", "(I)I"⟩
abbrev k_U_dueAction : Cond := .code y_U_dueAction b_U_dueAction 3 (some .int)
theorem kw_U_dueAction : k_U_dueAction ∈ GT := gt_i 449 (by decide +kernel) rfl
abbrev b_U_dueDay : ByteArray := prog_5_method_11_code
def y_U_dueDay : MethodName := ⟨R_U, "dueDay", "(I)I"⟩
abbrev k_U_dueDay : Cond := .code y_U_dueDay b_U_dueDay 3 (some .int)
theorem kw_U_dueDay : k_U_dueDay ∈ GT := gt_i 411 (by decide +kernel) rfl
abbrev b_U_eventDay : ByteArray := prog_5_method_3_code
def y_U_eventDay : MethodName := ⟨R_U, "eventDay", "(I)I"⟩
abbrev k_U_eventDay : Cond := .code y_U_eventDay b_U_eventDay 2 (some .int)
theorem kw_U_eventDay : k_U_eventDay ∈ GT := gt_i 423 (by decide +kernel) rfl
abbrev b_U_hasBrokenRule : ByteArray := prog_5_method_7_code
def y_U_hasBrokenRule : MethodName := ⟨R_U, "hasBrokenRule", "()Z"⟩
abbrev k_U_hasBrokenRule : Cond := .code y_U_hasBrokenRule b_U_hasBrokenRule 3 (some .boolean)
theorem kw_U_hasBrokenRule : k_U_hasBrokenRule ∈ GT := gt_i 406 (by decide +kernel) rfl
abbrev b_U_hasCertificate : ByteArray := prog_5_method_22_code
def y_U_hasCertificate : MethodName := ⟨R_U, "hasCertificate", "()Z"⟩
abbrev k_U_hasCertificate : Cond := .code y_U_hasCertificate b_U_hasCertificate 1 (some .boolean)
theorem kw_U_hasCertificate : k_U_hasCertificate ∈ GT := gt_i 501 (by decide +kernel) rfl
abbrev b_U_hasRule : ByteArray := prog_5_method_6_code
def y_U_hasRule : MethodName := ⟨R_U, "hasRule", "(LRetentionRows$Rule;)Z"⟩
abbrev k_U_hasRule : Cond := .code y_U_hasRule b_U_hasRule 3 (some .boolean)
theorem kw_U_hasRule : k_U_hasRule ∈ GT := gt_i 374 (by decide +kernel) rfl
abbrev b_U_init : ByteArray := prog_5_method_1_code
def y_U_init : MethodName := ⟨R_U, "<init>", "()V"⟩
abbrev k_U_init : Cond := .code y_U_init b_U_init 2 none
theorem kw_U_init : k_U_init ∈ GT := gt_i 88 (by decide +kernel) rfl
abbrev b_U_isApproved : ByteArray := prog_5_method_16_code
def y_U_isApproved : MethodName := ⟨R_U, "isApproved", "()Z"⟩
abbrev k_U_isApproved : Cond := .code y_U_isApproved b_U_isApproved 1 (some .boolean)
theorem kw_U_isApproved : k_U_isApproved ∈ GT := gt_i 473 (by decide +kernel) rfl
abbrev b_U_isApprovedBy : ByteArray := prog_5_method_17_code
def y_U_isApprovedBy : MethodName := ⟨R_U, "isApprovedBy", "(I)Z"⟩
abbrev k_U_isApprovedBy : Cond := .code y_U_isApprovedBy b_U_isApprovedBy 2 (some .boolean)
theorem kw_U_isApprovedBy : k_U_isApprovedBy ∈ GT := gt_i 477 (by decide +kernel) rfl
abbrev b_U_isDisposed : ByteArray := prog_5_method_19_code
def y_U_isDisposed : MethodName := ⟨R_U, "isDisposed", "()Z"⟩
abbrev k_U_isDisposed : Cond := .code y_U_isDisposed b_U_isDisposed 1 (some .boolean)
theorem kw_U_isDisposed : k_U_isDisposed ∈ GT := gt_i 358 (by decide +kernel) rfl
abbrev b_U_isDue : ByteArray := prog_5_method_13_code
def y_U_isDue : MethodName := ⟨R_U, "isDue", "(I)Z"⟩
abbrev k_U_isDue : Cond := .code y_U_isDue b_U_isDue 3 (some .boolean)
theorem kw_U_isDue : k_U_isDue ∈ GT := gt_i 443 (by decide +kernel) rfl
abbrev b_U_isHeld : ByteArray := prog_5_method_9_code
def y_U_isHeld : MethodName := ⟨R_U, "isHeld", "(I)Z"⟩
abbrev k_U_isHeld : Cond := .code y_U_isHeld b_U_isHeld 3 (some .boolean)
theorem kw_U_isHeld : k_U_isHeld ∈ GT := gt_i 505 (by decide +kernel) rfl
abbrev b_U_ruleCount : ByteArray := prog_5_method_5_code
def y_U_ruleCount : MethodName := ⟨R_U, "ruleCount", "()I"⟩
abbrev k_U_ruleCount : Cond := .code y_U_ruleCount b_U_ruleCount 1 (some .int)
theorem kw_U_ruleCount : k_U_ruleCount ∈ GT := gt_i 382 (by decide +kernel) rfl
abbrev b_U_setCertificate : ByteArray := prog_5_method_21_code
def y_U_setCertificate : MethodName := ⟨R_U, "setCertificate", "(I)V"⟩
abbrev k_U_setCertificate : Cond := .code y_U_setCertificate b_U_setCertificate 2 none
theorem kw_U_setCertificate : k_U_setCertificate ∈ GT := gt_i 521 (by decide +kernel) rfl
abbrev b_U_setDisposed : ByteArray := prog_5_method_18_code
def y_U_setDisposed : MethodName := ⟨R_U, "setDisposed", "(I)V"⟩
abbrev k_U_setDisposed : Cond := .code y_U_setDisposed b_U_setDisposed 2 none
theorem kw_U_setDisposed : k_U_setDisposed ∈ GT := gt_i 509 (by decide +kernel) rfl
abbrev b_U_setEvent : ByteArray := prog_5_method_2_code
def y_U_setEvent : MethodName := ⟨R_U, "setEvent", "(II)V"⟩
abbrev k_U_setEvent : Cond := .code y_U_setEvent b_U_setEvent 3 none
theorem kw_U_setEvent : k_U_setEvent ∈ GT := gt_i 362 (by decide +kernel) rfl
abbrev b_U_setException : ByteArray := prog_5_method_10_code
def y_U_setException : MethodName := ⟨R_U, "setException", "(I)V"⟩
abbrev k_U_setException : Cond := .code y_U_setException b_U_setException 2 none
theorem kw_U_setException : k_U_setException ∈ GT := gt_i 398 (by decide +kernel) rfl
abbrev b_U_setHold : ByteArray := prog_5_method_8_code
def y_U_setHold : MethodName := ⟨R_U, "setHold", "(II)V"⟩
abbrev k_U_setHold : Cond := .code y_U_setHold b_U_setHold 3 none
theorem kw_U_setHold : k_U_setHold ∈ GT := gt_i 390 (by decide +kernel) rfl
abbrev b_U_takeApprovalsAway : ByteArray := prog_5_method_24_code
def y_U_takeApprovalsAway : MethodName := ⟨R_U, "takeApprovalsAway", "()V"⟩
abbrev k_U_takeApprovalsAway : Cond := .code y_U_takeApprovalsAway b_U_takeApprovalsAway 1 none
theorem kw_U_takeApprovalsAway : k_U_takeApprovalsAway ∈ GT := gt_i 366 (by decide +kernel) rfl
abbrev b_W_law : ByteArray := code
def y_W_law : MethodName := ⟨R_W, "law", "([I)Z"⟩
theorem wn_W : Cond.initialized R_W ∈ GT := gt_i 32 (by decide +kernel) rfl
theorem wn_C : Cond.initialized R_C ∈ GT := gt_i 33 (by decide +kernel) rfl
theorem wn_T : Cond.initialized R_T ∈ GT := gt_i 34 (by decide +kernel) rfl
theorem wn_U : Cond.initialized R_U ∈ GT := gt_i 35 (by decide +kernel) rfl
theorem wn_L : Cond.initialized R_L ∈ GT := gt_i 36 (by decide +kernel) rfl
theorem wn_M : Cond.initialized R_M ∈ GT := gt_i 37 (by decide +kernel) rfl
theorem wn_S : Cond.initialized R_S ∈ GT := gt_i 38 (by decide +kernel) rfl
theorem wn_J : Cond.initialized R_J ∈ GT := gt_i 39 (by decide +kernel) rfl
theorem wn_P : Cond.initialized R_P ∈ GT := gt_i 40 (by decide +kernel) rfl
theorem wn_R : Cond.initialized R_R ∈ GT := gt_i 42 (by decide +kernel) rfl
theorem wk_W_8 : Cond.classLink R_W 8 R_C ∈ GT := gt_i 47 (by decide +kernel) rfl
theorem wb_C : Cond.instantiable R_C 7 ∈ GT := gt_i 48 (by decide +kernel) rfl
theorem wm_W_19 : Cond.methodLink R_W 19 y_C_init ∈ GT := gt_i 49 (by decide +kernel) rfl
theorem wi_C_init : Cond.instanceMethod y_C_init ∈ GT := gt_i 50 (by decide +kernel) rfl
theorem wk_C_7 : Cond.classLink R_C 7 R_T ∈ GT := gt_i 55 (by decide +kernel) rfl
theorem wb_T : Cond.instantiable R_T 6 ∈ GT := gt_i 56 (by decide +kernel) rfl
theorem wi_T_init : Cond.instanceMethod y_T_init ∈ GT := gt_i 58 (by decide +kernel) rfl
theorem wf_T_9 : Cond.fieldLink R_T 9 (F_T 0).1 (F_T 0).2.1 (F_T 0).2.2.1 ∈ GT := gt_i 61 (by decide +kernel) rfl
theorem wf_T_15 : Cond.fieldLink R_T 15 (F_T 1).1 (F_T 1).2.1 (F_T 1).2.2.1 ∈ GT := gt_i 62 (by decide +kernel) rfl
theorem wf_T_19 : Cond.fieldLink R_T 19 (F_T 2).1 (F_T 2).2.1 (F_T 2).2.2.1 ∈ GT := gt_i 63 (by decide +kernel) rfl
theorem wf_T_35 : Cond.fieldLink R_T 35 (F_T 3).1 (F_T 3).2.1 (F_T 3).2.2.1 ∈ GT := gt_i 64 (by decide +kernel) rfl
theorem wf_T_38 : Cond.fieldLink R_T 38 (F_T 4).1 (F_T 4).2.1 (F_T 4).2.2.1 ∈ GT := gt_i 65 (by decide +kernel) rfl
theorem wf_T_41 : Cond.fieldLink R_T 41 (F_T 5).1 (F_T 5).2.1 (F_T 5).2.2.1 ∈ GT := gt_i 66 (by decide +kernel) rfl
theorem wa_int : Cond.arrayClass .int ∈ GT := gt_i 80 (by decide +kernel) rfl
theorem wk_C_16 : Cond.classLink R_C 16 R_R ∈ GT := gt_i 81 (by decide +kernel) rfl
theorem wk_C_22 : Cond.classLink R_C 22 R_U ∈ GT := gt_i 83 (by decide +kernel) rfl
theorem wb_U : Cond.instantiable R_U 9 ∈ GT := gt_i 85 (by decide +kernel) rfl
theorem wm_C_28 : Cond.methodLink R_C 28 y_U_init ∈ GT := gt_i 86 (by decide +kernel) rfl
theorem wi_U_init : Cond.instanceMethod y_U_init ∈ GT := gt_i 87 (by decide +kernel) rfl
theorem wk_U_15 : Cond.classLink R_U 15 R_R ∈ GT := gt_i 90 (by decide +kernel) rfl
theorem wf_U_9 : Cond.fieldLink R_U 9 (F_U 0).1 (F_U 0).2.1 (F_U 0).2.2.1 ∈ GT := gt_i 91 (by decide +kernel) rfl
theorem wf_U_17 : Cond.fieldLink R_U 17 (F_U 1).1 (F_U 1).2.1 (F_U 1).2.2.1 ∈ GT := gt_i 92 (by decide +kernel) rfl
theorem wf_U_40 : Cond.fieldLink R_U 40 (F_U 2).1 (F_U 2).2.1 (F_U 2).2.2.1 ∈ GT := gt_i 93 (by decide +kernel) rfl
theorem wf_U_21 : Cond.fieldLink R_U 21 (F_U 3).1 (F_U 3).2.1 (F_U 3).2.2.1 ∈ GT := gt_i 94 (by decide +kernel) rfl
theorem wf_U_24 : Cond.fieldLink R_U 24 (F_U 4).1 (F_U 4).2.1 (F_U 4).2.2.1 ∈ GT := gt_i 95 (by decide +kernel) rfl
theorem wf_U_71 : Cond.fieldLink R_U 71 (F_U 5).1 (F_U 5).2.1 (F_U 5).2.2.1 ∈ GT := gt_i 96 (by decide +kernel) rfl
theorem wf_U_28 : Cond.fieldLink R_U 28 (F_U 6).1 (F_U 6).2.1 (F_U 6).2.2.1 ∈ GT := gt_i 97 (by decide +kernel) rfl
theorem wf_U_31 : Cond.fieldLink R_U 31 (F_U 7).1 (F_U 7).2.1 (F_U 7).2.2.1 ∈ GT := gt_i 98 (by decide +kernel) rfl
theorem wf_U_34 : Cond.fieldLink R_U 34 (F_U 8).1 (F_U 8).2.1 (F_U 8).2.2.1 ∈ GT := gt_i 99 (by decide +kernel) rfl
theorem wk_C_29 : Cond.classLink R_C 29 R_L ∈ GT := gt_i 119 (by decide +kernel) rfl
theorem wb_L : Cond.instantiable R_L 4 ∈ GT := gt_i 120 (by decide +kernel) rfl
theorem wi_L_init : Cond.instanceMethod y_L_init ∈ GT := gt_i 122 (by decide +kernel) rfl
theorem wf_L_9 : Cond.fieldLink R_L 9 (F_L 0).1 (F_L 0).2.1 (F_L 0).2.2.1 ∈ GT := gt_i 125 (by decide +kernel) rfl
theorem wf_L_15 : Cond.fieldLink R_L 15 (F_L 1).1 (F_L 1).2.1 (F_L 1).2.2.1 ∈ GT := gt_i 126 (by decide +kernel) rfl
theorem wf_L_18 : Cond.fieldLink R_L 18 (F_L 2).1 (F_L 2).2.1 (F_L 2).2.2.1 ∈ GT := gt_i 127 (by decide +kernel) rfl
theorem wf_L_21 : Cond.fieldLink R_L 21 (F_L 3).1 (F_L 3).2.1 (F_L 3).2.2.1 ∈ GT := gt_i 128 (by decide +kernel) rfl
theorem wf_C_10 : Cond.fieldLink R_C 10 (F_C 0).1 (F_C 0).2.1 (F_C 0).2.2.1 ∈ GT := gt_i 138 (by decide +kernel) rfl
theorem wf_C_18 : Cond.fieldLink R_C 18 (F_C 1).1 (F_C 1).2.1 (F_C 1).2.2.1 ∈ GT := gt_i 139 (by decide +kernel) rfl
theorem wf_C_55 : Cond.fieldLink R_C 55 (F_C 2).1 (F_C 2).2.1 (F_C 2).2.2.1 ∈ GT := gt_i 140 (by decide +kernel) rfl
theorem wf_C_24 : Cond.fieldLink R_C 24 (F_C 3).1 (F_C 3).2.1 (F_C 3).2.2.1 ∈ GT := gt_i 141 (by decide +kernel) rfl
theorem wf_C_32 : Cond.fieldLink R_C 32 (F_C 4).1 (F_C 4).2.1 (F_C 4).2.2.1 ∈ GT := gt_i 142 (by decide +kernel) rfl
theorem wf_C_36 : Cond.fieldLink R_C 36 (F_C 5).1 (F_C 5).2.1 (F_C 5).2.2.1 ∈ GT := gt_i 143 (by decide +kernel) rfl
theorem wf_C_191 : Cond.fieldLink R_C 191 (F_C 6).1 (F_C 6).2.1 (F_C 6).2.2.1 ∈ GT := gt_i 144 (by decide +kernel) rfl
theorem wm_W_23 : Cond.methodLink R_W 23 y_C_sign ∈ GT := gt_i 160 (by decide +kernel) rfl
theorem wi_C_sign : Cond.instanceMethod y_C_sign ∈ GT := gt_i 161 (by decide +kernel) rfl
theorem wl_C_sign : Cond.selects R_C y_C_sign y_C_sign ∈ GT := gt_i 162 (by decide +kernel) rfl
theorem wm_C_40 : Cond.methodLink R_C 40 y_T_collect ∈ GT := gt_i 164 (by decide +kernel) rfl
theorem wi_T_collect : Cond.instanceMethod y_T_collect ∈ GT := gt_i 165 (by decide +kernel) rfl
theorem wl_T_collect : Cond.selects R_T y_T_collect y_T_collect ∈ GT := gt_i 166 (by decide +kernel) rfl
theorem wm_W_28 : Cond.methodLink R_W 28 y_C_rule ∈ GT := gt_i 168 (by decide +kernel) rfl
theorem wi_C_rule : Cond.instanceMethod y_C_rule ∈ GT := gt_i 169 (by decide +kernel) rfl
theorem wl_C_rule : Cond.selects R_C y_C_rule y_C_rule ∈ GT := gt_i 170 (by decide +kernel) rfl
theorem wm_C_44 : Cond.methodLink R_C 44 y_T_read ∈ GT := gt_i 172 (by decide +kernel) rfl
theorem wi_T_read : Cond.instanceMethod y_T_read ∈ GT := gt_i 173 (by decide +kernel) rfl
theorem wl_T_read : Cond.selects R_T y_T_read y_T_read ∈ GT := gt_i 174 (by decide +kernel) rfl
theorem wm_T_22 : Cond.methodLink R_T 22 y_T_readEvent ∈ GT := gt_i 176 (by decide +kernel) rfl
theorem wi_T_readEvent : Cond.instanceMethod y_T_readEvent ∈ GT := gt_i 178 (by decide +kernel) rfl
theorem wm_T_44 : Cond.methodLink R_T 44 y_T_wordEnd ∈ GT := gt_i 180 (by decide +kernel) rfl
theorem wi_T_wordEnd : Cond.instanceMethod y_T_wordEnd ∈ GT := gt_i 182 (by decide +kernel) rfl
theorem wm_T_60 : Cond.methodLink R_T 60 y_T_signAt ∈ GT := gt_i 184 (by decide +kernel) rfl
theorem wi_T_signAt : Cond.instanceMethod y_T_signAt ∈ GT := gt_i 186 (by decide +kernel) rfl
theorem wm_T_76 : Cond.methodLink R_T 76 y_T_isSmallLetter ∈ GT := gt_i 188 (by decide +kernel) rfl
theorem ws_T_isSmallLetter : Cond.static y_T_isSmallLetter ∈ GT := gt_i 189 (by decide +kernel) rfl
theorem wm_T_48 : Cond.methodLink R_T 48 y_T_eventWord ∈ GT := gt_i 191 (by decide +kernel) rfl
theorem ws_T_eventWord : Cond.static y_T_eventWord ∈ GT := gt_i 192 (by decide +kernel) rfl
theorem wm_T_52 : Cond.methodLink R_T 52 y_T_isWord ∈ GT := gt_i 198 (by decide +kernel) rfl
theorem wi_T_isWord : Cond.instanceMethod y_T_isWord ∈ GT := gt_i 200 (by decide +kernel) rfl
theorem wm_T_79 : Cond.methodLink R_T 79 y_S_length ∈ GT := gt_i 202 (by decide +kernel) rfl
theorem wi_S_length : Cond.instanceMethod y_S_length ∈ GT := gt_i 203 (by decide +kernel) rfl
theorem wl_S_length : Cond.selects R_S y_S_length y_S_length ∈ GT := gt_i 204 (by decide +kernel) rfl
theorem wm_S_335 : Cond.methodLink R_S 335 y_S_coder ∈ GT := gt_i 206 (by decide +kernel) rfl
theorem wi_S_coder : Cond.instanceMethod y_S_coder ∈ GT := gt_i 207 (by decide +kernel) rfl
theorem wl_S_coder : Cond.selects R_S y_S_coder y_S_coder ∈ GT := gt_i 208 (by decide +kernel) rfl
theorem wf_S_38 : Cond.fieldLink R_S 38 "java/lang/String" "COMPACT_STRINGS" "Z" ∈ GT := gt_i 210 (by decide +kernel) rfl
theorem wm_T_83 : Cond.methodLink R_T 83 y_S_charAt ∈ GT := gt_i 212 (by decide +kernel) rfl
theorem wi_S_charAt : Cond.instanceMethod y_S_charAt ∈ GT := gt_i 213 (by decide +kernel) rfl
theorem wl_S_charAt : Cond.selects R_S y_S_charAt y_S_charAt ∈ GT := gt_i 214 (by decide +kernel) rfl
theorem wm_S_492 : Cond.methodLink R_S 492 y_S_isLatin1 ∈ GT := gt_i 216 (by decide +kernel) rfl
theorem wi_S_isLatin1 : Cond.instanceMethod y_S_isLatin1 ∈ GT := gt_i 217 (by decide +kernel) rfl
theorem wl_S_isLatin1 : Cond.selects R_S y_S_isLatin1 y_S_isLatin1 ∈ GT := gt_i 218 (by decide +kernel) rfl
theorem wm_S_495 : Cond.methodLink R_S 495 y_J_charAt ∈ GT := gt_i 220 (by decide +kernel) rfl
theorem ws_J_charAt : Cond.static y_J_charAt ∈ GT := gt_i 221 (by decide +kernel) rfl
theorem wf_S_1053 : Cond.fieldLink R_S 1053 "jdk/internal/util/Preconditions" "SIOOBE_FORMATTER" "Ljava/util/function/BiFunction;" ∈ GT := gt_i 226 (by decide +kernel) rfl
theorem wm_T_26 : Cond.methodLink R_T 26 y_T_readSpace ∈ GT := gt_i 250 (by decide +kernel) rfl
theorem wi_T_readSpace : Cond.instanceMethod y_T_readSpace ∈ GT := gt_i 252 (by decide +kernel) rfl
theorem wm_T_29 : Cond.methodLink R_T 29 y_T_readYears ∈ GT := gt_i 254 (by decide +kernel) rfl
theorem wi_T_readYears : Cond.instanceMethod y_T_readYears ∈ GT := gt_i 256 (by decide +kernel) rfl
theorem wm_T_64 : Cond.methodLink R_T 64 y_T_isDigit ∈ GT := gt_i 258 (by decide +kernel) rfl
theorem ws_T_isDigit : Cond.static y_T_isDigit ∈ GT := gt_i 259 (by decide +kernel) rfl
theorem wm_T_32 : Cond.methodLink R_T 32 y_T_readAction ∈ GT := gt_i 261 (by decide +kernel) rfl
theorem wi_T_readAction : Cond.instanceMethod y_T_readAction ∈ GT := gt_i 263 (by decide +kernel) rfl
theorem wm_C_48 : Cond.methodLink R_C 48 y_T_clear ∈ GT := gt_i 267 (by decide +kernel) rfl
theorem wi_T_clear : Cond.instanceMethod y_T_clear ∈ GT := gt_i 268 (by decide +kernel) rfl
theorem wl_T_clear : Cond.selects R_T y_T_clear y_T_clear ∈ GT := gt_i 269 (by decide +kernel) rfl
theorem wm_C_51 : Cond.methodLink R_C 51 y_T_place ∈ GT := gt_i 271 (by decide +kernel) rfl
theorem wi_T_place : Cond.instanceMethod y_T_place ∈ GT := gt_i 272 (by decide +kernel) rfl
theorem wl_T_place : Cond.selects R_T y_T_place y_T_place ∈ GT := gt_i 273 (by decide +kernel) rfl
theorem wb_R : Cond.instantiable R_R 7 ∈ GT := gt_i 275 (by decide +kernel) rfl
theorem wm_C_59 : Cond.methodLink R_C 59 y_T_eventKind ∈ GT := gt_i 276 (by decide +kernel) rfl
theorem wi_T_eventKind : Cond.instanceMethod y_T_eventKind ∈ GT := gt_i 277 (by decide +kernel) rfl
theorem wl_T_eventKind : Cond.selects R_T y_T_eventKind y_T_eventKind ∈ GT := gt_i 278 (by decide +kernel) rfl
theorem wm_C_62 : Cond.methodLink R_C 62 y_T_years ∈ GT := gt_i 280 (by decide +kernel) rfl
theorem wi_T_years : Cond.instanceMethod y_T_years ∈ GT := gt_i 281 (by decide +kernel) rfl
theorem wl_T_years : Cond.selects R_T y_T_years y_T_years ∈ GT := gt_i 282 (by decide +kernel) rfl
theorem wm_C_65 : Cond.methodLink R_C 65 y_T_action ∈ GT := gt_i 284 (by decide +kernel) rfl
theorem wi_T_action : Cond.instanceMethod y_T_action ∈ GT := gt_i 285 (by decide +kernel) rfl
theorem wl_T_action : Cond.selects R_T y_T_action y_T_action ∈ GT := gt_i 286 (by decide +kernel) rfl
theorem wm_C_68 : Cond.methodLink R_C 68 y_R_init ∈ GT := gt_i 288 (by decide +kernel) rfl
theorem wi_R_init : Cond.instanceMethod y_R_init ∈ GT := gt_i 289 (by decide +kernel) rfl
theorem wf_R_18 : Cond.fieldLink R_R 18 (F_R 0).1 (F_R 0).2.1 (F_R 0).2.2.1 ∈ GT := gt_i 292 (by decide +kernel) rfl
theorem wf_R_22 : Cond.fieldLink R_R 22 (F_R 1).1 (F_R 1).2.1 (F_R 1).2.2.1 ∈ GT := gt_i 293 (by decide +kernel) rfl
theorem wf_R_25 : Cond.fieldLink R_R 25 (F_R 2).1 (F_R 2).2.1 (F_R 2).2.2.1 ∈ GT := gt_i 294 (by decide +kernel) rfl
theorem wf_R_9 : Cond.fieldLink R_R 9 (F_R 3).1 (F_R 3).2.1 (F_R 3).2.2.1 ∈ GT := gt_i 295 (by decide +kernel) rfl
theorem wf_R_15 : Cond.fieldLink R_R 15 (F_R 4).1 (F_R 4).2.1 (F_R 4).2.2.1 ∈ GT := gt_i 296 (by decide +kernel) rfl
theorem wf_R_32 : Cond.fieldLink R_R 32 (F_R 5).1 (F_R 5).2.1 (F_R 5).2.2.1 ∈ GT := gt_i 297 (by decide +kernel) rfl
theorem wf_R_28 : Cond.fieldLink R_R 28 (F_R 6).1 (F_R 6).2.1 (F_R 6).2.2.1 ∈ GT := gt_i 298 (by decide +kernel) rfl
theorem wa_byte : Cond.arrayClass .byte ∈ GT := gt_i 314 (by decide +kernel) rfl
theorem wm_W_33 : Cond.methodLink R_W 33 y_C_change ∈ GT := gt_i 315 (by decide +kernel) rfl
theorem wi_C_change : Cond.instanceMethod y_C_change ∈ GT := gt_i 316 (by decide +kernel) rfl
theorem wl_C_change : Cond.selects R_C y_C_change y_C_change ∈ GT := gt_i 317 (by decide +kernel) rfl
theorem wm_C_71 : Cond.methodLink R_C 71 y_C_findRule ∈ GT := gt_i 319 (by decide +kernel) rfl
theorem wi_C_findRule : Cond.instanceMethod y_C_findRule ∈ GT := gt_i 321 (by decide +kernel) rfl
theorem wm_C_75 : Cond.methodLink R_C 75 y_C_isDay ∈ GT := gt_i 323 (by decide +kernel) rfl
theorem ws_C_isDay : Cond.static y_C_isDay ∈ GT := gt_i 324 (by decide +kernel) rfl
theorem wc_C_175 : Cond.constant R_C 175 1000000 ∈ GT := gt_i 326 (by decide +kernel) rfl
theorem wm_C_79 : Cond.methodLink R_C 79 y_R_isChangedFrom ∈ GT := gt_i 327 (by decide +kernel) rfl
theorem wi_R_isChangedFrom : Cond.instanceMethod y_R_isChangedFrom ∈ GT := gt_i 328 (by decide +kernel) rfl
theorem wl_R_isChangedFrom : Cond.selects R_R y_R_isChangedFrom y_R_isChangedFrom ∈ GT := gt_i 329 (by decide +kernel) rfl
theorem wm_C_82 : Cond.methodLink R_C 82 y_R_addChange ∈ GT := gt_i 331 (by decide +kernel) rfl
theorem wi_R_addChange : Cond.instanceMethod y_R_addChange ∈ GT := gt_i 332 (by decide +kernel) rfl
theorem wl_R_addChange : Cond.selects R_R y_R_addChange y_R_addChange ∈ GT := gt_i 333 (by decide +kernel) rfl
theorem wm_W_38 : Cond.methodLink R_W 38 y_C_breaks ∈ GT := gt_i 335 (by decide +kernel) rfl
theorem wi_C_breaks : Cond.instanceMethod y_C_breaks ∈ GT := gt_i 336 (by decide +kernel) rfl
theorem wl_C_breaks : Cond.selects R_C y_C_breaks y_C_breaks ∈ GT := gt_i 337 (by decide +kernel) rfl
theorem wm_C_86 : Cond.methodLink R_C 86 y_R_isBroken ∈ GT := gt_i 339 (by decide +kernel) rfl
theorem wi_R_isBroken : Cond.instanceMethod y_R_isBroken ∈ GT := gt_i 340 (by decide +kernel) rfl
theorem wl_R_isBroken : Cond.selects R_R y_R_isBroken y_R_isBroken ∈ GT := gt_i 341 (by decide +kernel) rfl
theorem wm_C_89 : Cond.methodLink R_C 89 y_R_setBroken ∈ GT := gt_i 343 (by decide +kernel) rfl
theorem wi_R_setBroken : Cond.instanceMethod y_R_setBroken ∈ GT := gt_i 344 (by decide +kernel) rfl
theorem wl_R_setBroken : Cond.selects R_R y_R_setBroken y_R_setBroken ∈ GT := gt_i 345 (by decide +kernel) rfl
theorem wm_W_43 : Cond.methodLink R_W 43 y_C_event ∈ GT := gt_i 347 (by decide +kernel) rfl
theorem wi_C_event : Cond.instanceMethod y_C_event ∈ GT := gt_i 348 (by decide +kernel) rfl
theorem wl_C_event : Cond.selects R_C y_C_event y_C_event ∈ GT := gt_i 349 (by decide +kernel) rfl
theorem wm_C_93 : Cond.methodLink R_C 93 y_C_findUnit ∈ GT := gt_i 351 (by decide +kernel) rfl
theorem wi_C_findUnit : Cond.instanceMethod y_C_findUnit ∈ GT := gt_i 353 (by decide +kernel) rfl
theorem wm_C_97 : Cond.methodLink R_C 97 y_U_isDisposed ∈ GT := gt_i 355 (by decide +kernel) rfl
theorem wi_U_isDisposed : Cond.instanceMethod y_U_isDisposed ∈ GT := gt_i 356 (by decide +kernel) rfl
theorem wl_U_isDisposed : Cond.selects R_U y_U_isDisposed y_U_isDisposed ∈ GT := gt_i 357 (by decide +kernel) rfl
theorem wm_C_100 : Cond.methodLink R_C 100 y_U_setEvent ∈ GT := gt_i 359 (by decide +kernel) rfl
theorem wi_U_setEvent : Cond.instanceMethod y_U_setEvent ∈ GT := gt_i 360 (by decide +kernel) rfl
theorem wl_U_setEvent : Cond.selects R_U y_U_setEvent y_U_setEvent ∈ GT := gt_i 361 (by decide +kernel) rfl
theorem wm_U_37 : Cond.methodLink R_U 37 y_U_takeApprovalsAway ∈ GT := gt_i 363 (by decide +kernel) rfl
theorem wi_U_takeApprovalsAway : Cond.instanceMethod y_U_takeApprovalsAway ∈ GT := gt_i 365 (by decide +kernel) rfl
theorem wm_W_47 : Cond.methodLink R_W 47 y_C_schedule ∈ GT := gt_i 367 (by decide +kernel) rfl
theorem wi_C_schedule : Cond.instanceMethod y_C_schedule ∈ GT := gt_i 368 (by decide +kernel) rfl
theorem wl_C_schedule : Cond.selects R_C y_C_schedule y_C_schedule ∈ GT := gt_i 369 (by decide +kernel) rfl
theorem wm_C_104 : Cond.methodLink R_C 104 y_U_hasRule ∈ GT := gt_i 371 (by decide +kernel) rfl
theorem wi_U_hasRule : Cond.instanceMethod y_U_hasRule ∈ GT := gt_i 372 (by decide +kernel) rfl
theorem wl_U_hasRule : Cond.selects R_U y_U_hasRule y_U_hasRule ∈ GT := gt_i 373 (by decide +kernel) rfl
theorem wm_C_108 : Cond.methodLink R_C 108 y_U_addRule ∈ GT := gt_i 375 (by decide +kernel) rfl
theorem wi_U_addRule : Cond.instanceMethod y_U_addRule ∈ GT := gt_i 376 (by decide +kernel) rfl
theorem wl_U_addRule : Cond.selects R_U y_U_addRule y_U_addRule ∈ GT := gt_i 377 (by decide +kernel) rfl
theorem wm_C_111 : Cond.methodLink R_C 111 y_U_ruleCount ∈ GT := gt_i 379 (by decide +kernel) rfl
theorem wi_U_ruleCount : Cond.instanceMethod y_U_ruleCount ∈ GT := gt_i 380 (by decide +kernel) rfl
theorem wl_U_ruleCount : Cond.selects R_U y_U_ruleCount y_U_ruleCount ∈ GT := gt_i 381 (by decide +kernel) rfl
theorem wm_W_51 : Cond.methodLink R_W 51 y_C_hold ∈ GT := gt_i 383 (by decide +kernel) rfl
theorem wi_C_hold : Cond.instanceMethod y_C_hold ∈ GT := gt_i 384 (by decide +kernel) rfl
theorem wl_C_hold : Cond.selects R_C y_C_hold y_C_hold ∈ GT := gt_i 385 (by decide +kernel) rfl
theorem wm_C_113 : Cond.methodLink R_C 113 y_U_setHold ∈ GT := gt_i 387 (by decide +kernel) rfl
theorem wi_U_setHold : Cond.instanceMethod y_U_setHold ∈ GT := gt_i 388 (by decide +kernel) rfl
theorem wl_U_setHold : Cond.selects R_U y_U_setHold y_U_setHold ∈ GT := gt_i 389 (by decide +kernel) rfl
theorem wm_W_55 : Cond.methodLink R_W 55 y_C_except ∈ GT := gt_i 391 (by decide +kernel) rfl
theorem wi_C_except : Cond.instanceMethod y_C_except ∈ GT := gt_i 392 (by decide +kernel) rfl
theorem wl_C_except : Cond.selects R_C y_C_except y_C_except ∈ GT := gt_i 393 (by decide +kernel) rfl
theorem wm_C_116 : Cond.methodLink R_C 116 y_U_setException ∈ GT := gt_i 395 (by decide +kernel) rfl
theorem wi_U_setException : Cond.instanceMethod y_U_setException ∈ GT := gt_i 396 (by decide +kernel) rfl
theorem wl_U_setException : Cond.selects R_U y_U_setException y_U_setException ∈ GT := gt_i 397 (by decide +kernel) rfl
theorem wm_W_59 : Cond.methodLink R_W 59 y_C_day ∈ GT := gt_i 399 (by decide +kernel) rfl
theorem wi_C_day : Cond.instanceMethod y_C_day ∈ GT := gt_i 400 (by decide +kernel) rfl
theorem wl_C_day : Cond.selects R_C y_C_day y_C_day ∈ GT := gt_i 401 (by decide +kernel) rfl
theorem wm_C_119 : Cond.methodLink R_C 119 y_U_hasBrokenRule ∈ GT := gt_i 403 (by decide +kernel) rfl
theorem wi_U_hasBrokenRule : Cond.instanceMethod y_U_hasBrokenRule ∈ GT := gt_i 404 (by decide +kernel) rfl
theorem wl_U_hasBrokenRule : Cond.selects R_U y_U_hasBrokenRule y_U_hasBrokenRule ∈ GT := gt_i 405 (by decide +kernel) rfl
theorem wm_U_43 : Cond.methodLink R_U 43 y_R_isBroken ∈ GT := gt_i 407 (by decide +kernel) rfl
theorem wm_C_122 : Cond.methodLink R_C 122 y_U_dueDay ∈ GT := gt_i 408 (by decide +kernel) rfl
theorem wi_U_dueDay : Cond.instanceMethod y_U_dueDay ∈ GT := gt_i 409 (by decide +kernel) rfl
theorem wl_U_dueDay : Cond.selects R_U y_U_dueDay y_U_dueDay ∈ GT := gt_i 410 (by decide +kernel) rfl
theorem wm_U_47 : Cond.methodLink R_U 47 y_U_decidingRule ∈ GT := gt_i 412 (by decide +kernel) rfl
theorem wi_U_decidingRule : Cond.instanceMethod y_U_decidingRule ∈ GT := gt_i 414 (by decide +kernel) rfl
theorem wm_U_51 : Cond.methodLink R_U 51 y_R_eventKind ∈ GT := gt_i 416 (by decide +kernel) rfl
theorem wi_R_eventKind : Cond.instanceMethod y_R_eventKind ∈ GT := gt_i 417 (by decide +kernel) rfl
theorem wl_R_eventKind : Cond.selects R_R y_R_eventKind y_R_eventKind ∈ GT := gt_i 418 (by decide +kernel) rfl
theorem wm_U_55 : Cond.methodLink R_U 55 y_U_eventDay ∈ GT := gt_i 420 (by decide +kernel) rfl
theorem wi_U_eventDay : Cond.instanceMethod y_U_eventDay ∈ GT := gt_i 421 (by decide +kernel) rfl
theorem wl_U_eventDay : Cond.selects R_U y_U_eventDay y_U_eventDay ∈ GT := gt_i 422 (by decide +kernel) rfl
theorem wm_U_59 : Cond.methodLink R_U 59 y_R_dueDay ∈ GT := gt_i 424 (by decide +kernel) rfl
theorem wi_R_dueDay : Cond.instanceMethod y_R_dueDay ∈ GT := gt_i 425 (by decide +kernel) rfl
theorem wl_R_dueDay : Cond.selects R_R y_R_dueDay y_R_dueDay ∈ GT := gt_i 426 (by decide +kernel) rfl
theorem wm_R_35 : Cond.methodLink R_R 35 y_R_yearsOn ∈ GT := gt_i 428 (by decide +kernel) rfl
theorem wi_R_yearsOn : Cond.instanceMethod y_R_yearsOn ∈ GT := gt_i 430 (by decide +kernel) rfl
theorem wm_W_63 : Cond.methodLink R_W 63 y_C_due ∈ GT := gt_i 432 (by decide +kernel) rfl
theorem wi_C_due : Cond.instanceMethod y_C_due ∈ GT := gt_i 433 (by decide +kernel) rfl
theorem wl_C_due : Cond.selects R_C y_C_due y_C_due ∈ GT := gt_i 434 (by decide +kernel) rfl
theorem wm_C_126 : Cond.methodLink R_C 126 y_L_clear ∈ GT := gt_i 436 (by decide +kernel) rfl
theorem wi_L_clear : Cond.instanceMethod y_L_clear ∈ GT := gt_i 437 (by decide +kernel) rfl
theorem wl_L_clear : Cond.selects R_L y_L_clear y_L_clear ∈ GT := gt_i 438 (by decide +kernel) rfl
theorem wm_C_127 : Cond.methodLink R_C 127 y_U_isDue ∈ GT := gt_i 440 (by decide +kernel) rfl
theorem wi_U_isDue : Cond.instanceMethod y_U_isDue ∈ GT := gt_i 441 (by decide +kernel) rfl
theorem wl_U_isDue : Cond.selects R_U y_U_isDue y_U_isDue ∈ GT := gt_i 442 (by decide +kernel) rfl
theorem wm_U_66 : Cond.methodLink R_U 66 y_U_isDisposed ∈ GT := gt_i 444 (by decide +kernel) rfl
theorem wm_U_69 : Cond.methodLink R_U 69 y_U_dueDay ∈ GT := gt_i 445 (by decide +kernel) rfl
theorem wm_C_130 : Cond.methodLink R_C 130 y_U_dueAction ∈ GT := gt_i 446 (by decide +kernel) rfl
theorem wi_U_dueAction : Cond.instanceMethod y_U_dueAction ∈ GT := gt_i 447 (by decide +kernel) rfl
theorem wl_U_dueAction : Cond.selects R_U y_U_dueAction y_U_dueAction ∈ GT := gt_i 448 (by decide +kernel) rfl
theorem wm_U_63 : Cond.methodLink R_U 63 y_R_action ∈ GT := gt_i 450 (by decide +kernel) rfl
theorem wi_R_action : Cond.instanceMethod y_R_action ∈ GT := gt_i 451 (by decide +kernel) rfl
theorem wl_R_action : Cond.selects R_R y_R_action y_R_action ∈ GT := gt_i 452 (by decide +kernel) rfl
theorem wm_C_133 : Cond.methodLink R_C 133 y_L_insert ∈ GT := gt_i 454 (by decide +kernel) rfl
theorem wi_L_insert : Cond.instanceMethod y_L_insert ∈ GT := gt_i 455 (by decide +kernel) rfl
theorem wl_L_insert : Cond.selects R_L y_L_insert y_L_insert ∈ GT := gt_i 456 (by decide +kernel) rfl
theorem wm_L_25 : Cond.methodLink R_L 25 y_L_put ∈ GT := gt_i 458 (by decide +kernel) rfl
theorem wi_L_put : Cond.instanceMethod y_L_put ∈ GT := gt_i 460 (by decide +kernel) rfl
theorem wm_C_136 : Cond.methodLink R_C 136 y_L_size ∈ GT := gt_i 462 (by decide +kernel) rfl
theorem wi_L_size : Cond.instanceMethod y_L_size ∈ GT := gt_i 463 (by decide +kernel) rfl
theorem wl_L_size : Cond.selects R_L y_L_size y_L_size ∈ GT := gt_i 464 (by decide +kernel) rfl
theorem wm_W_76 : Cond.methodLink R_W 76 y_C_approve ∈ GT := gt_i 466 (by decide +kernel) rfl
theorem wi_C_approve : Cond.instanceMethod y_C_approve ∈ GT := gt_i 467 (by decide +kernel) rfl
theorem wl_C_approve : Cond.selects R_C y_C_approve y_C_approve ∈ GT := gt_i 468 (by decide +kernel) rfl
theorem wm_C_153 : Cond.methodLink R_C 153 y_U_isApproved ∈ GT := gt_i 470 (by decide +kernel) rfl
theorem wi_U_isApproved : Cond.instanceMethod y_U_isApproved ∈ GT := gt_i 471 (by decide +kernel) rfl
theorem wl_U_isApproved : Cond.selects R_U y_U_isApproved y_U_isApproved ∈ GT := gt_i 472 (by decide +kernel) rfl
theorem wm_C_156 : Cond.methodLink R_C 156 y_U_isApprovedBy ∈ GT := gt_i 474 (by decide +kernel) rfl
theorem wi_U_isApprovedBy : Cond.instanceMethod y_U_isApprovedBy ∈ GT := gt_i 475 (by decide +kernel) rfl
theorem wl_U_isApprovedBy : Cond.selects R_U y_U_isApprovedBy y_U_isApprovedBy ∈ GT := gt_i 476 (by decide +kernel) rfl
theorem wm_C_159 : Cond.methodLink R_C 159 y_U_addApproval ∈ GT := gt_i 478 (by decide +kernel) rfl
theorem wi_U_addApproval : Cond.instanceMethod y_U_addApproval ∈ GT := gt_i 479 (by decide +kernel) rfl
theorem wl_U_addApproval : Cond.selects R_U y_U_addApproval y_U_addApproval ∈ GT := gt_i 480 (by decide +kernel) rfl
theorem wm_C_162 : Cond.methodLink R_C 162 y_U_approvalCount ∈ GT := gt_i 482 (by decide +kernel) rfl
theorem wi_U_approvalCount : Cond.instanceMethod y_U_approvalCount ∈ GT := gt_i 483 (by decide +kernel) rfl
theorem wl_U_approvalCount : Cond.selects R_U y_U_approvalCount y_U_approvalCount ∈ GT := gt_i 484 (by decide +kernel) rfl
theorem wm_W_80 : Cond.methodLink R_W 80 y_C_dispose ∈ GT := gt_i 486 (by decide +kernel) rfl
theorem wi_C_dispose : Cond.instanceMethod y_C_dispose ∈ GT := gt_i 487 (by decide +kernel) rfl
theorem wl_C_dispose : Cond.selects R_C y_C_dispose y_C_dispose ∈ GT := gt_i 488 (by decide +kernel) rfl
theorem wm_C_165 : Cond.methodLink R_C 165 y_C_obstacleTo ∈ GT := gt_i 490 (by decide +kernel) rfl
theorem wi_C_obstacleTo : Cond.instanceMethod y_C_obstacleTo ∈ GT := gt_i 492 (by decide +kernel) rfl
theorem wm_C_196 : Cond.methodLink R_C 196 y_C_isCertificateMissing ∈ GT := gt_i 494 (by decide +kernel) rfl
theorem wi_C_isCertificateMissing : Cond.instanceMethod y_C_isCertificateMissing ∈ GT := gt_i 496 (by decide +kernel) rfl
theorem wm_C_176 : Cond.methodLink R_C 176 y_U_hasCertificate ∈ GT := gt_i 498 (by decide +kernel) rfl
theorem wi_U_hasCertificate : Cond.instanceMethod y_U_hasCertificate ∈ GT := gt_i 499 (by decide +kernel) rfl
theorem wl_U_hasCertificate : Cond.selects R_U y_U_hasCertificate y_U_hasCertificate ∈ GT := gt_i 500 (by decide +kernel) rfl
theorem wm_C_199 : Cond.methodLink R_C 199 y_U_isHeld ∈ GT := gt_i 502 (by decide +kernel) rfl
theorem wi_U_isHeld : Cond.instanceMethod y_U_isHeld ∈ GT := gt_i 503 (by decide +kernel) rfl
theorem wl_U_isHeld : Cond.selects R_U y_U_isHeld y_U_isHeld ∈ GT := gt_i 504 (by decide +kernel) rfl
theorem wm_C_169 : Cond.methodLink R_C 169 y_U_setDisposed ∈ GT := gt_i 506 (by decide +kernel) rfl
theorem wi_U_setDisposed : Cond.instanceMethod y_U_setDisposed ∈ GT := gt_i 507 (by decide +kernel) rfl
theorem wl_U_setDisposed : Cond.selects R_U y_U_setDisposed y_U_setDisposed ∈ GT := gt_i 508 (by decide +kernel) rfl
theorem wm_C_172 : Cond.methodLink R_C 172 y_C_keepDisposed ∈ GT := gt_i 510 (by decide +kernel) rfl
theorem wi_C_keepDisposed : Cond.instanceMethod y_C_keepDisposed ∈ GT := gt_i 512 (by decide +kernel) rfl
theorem wm_W_84 : Cond.methodLink R_W 84 y_C_certificate ∈ GT := gt_i 514 (by decide +kernel) rfl
theorem wi_C_certificate : Cond.instanceMethod y_C_certificate ∈ GT := gt_i 515 (by decide +kernel) rfl
theorem wl_C_certificate : Cond.selects R_C y_C_certificate y_C_certificate ∈ GT := gt_i 516 (by decide +kernel) rfl
theorem wm_C_179 : Cond.methodLink R_C 179 y_U_setCertificate ∈ GT := gt_i 518 (by decide +kernel) rfl
theorem wi_U_setCertificate : Cond.instanceMethod y_U_setCertificate ∈ GT := gt_i 519 (by decide +kernel) rfl
theorem wl_U_setCertificate : Cond.selects R_U y_U_setCertificate y_U_setCertificate ∈ GT := gt_i 520 (by decide +kernel) rfl
theorem wm_W_88 : Cond.methodLink R_W 88 y_C_about ∈ GT := gt_i 522 (by decide +kernel) rfl
theorem wi_C_about : Cond.instanceMethod y_C_about ∈ GT := gt_i 523 (by decide +kernel) rfl
theorem wl_C_about : Cond.selects R_C y_C_about y_C_about ∈ GT := gt_i 524 (by decide +kernel) rfl
theorem wm_C_182 : Cond.methodLink R_C 182 y_U_disposalDay ∈ GT := gt_i 526 (by decide +kernel) rfl
theorem wi_U_disposalDay : Cond.instanceMethod y_U_disposalDay ∈ GT := gt_i 527 (by decide +kernel) rfl
theorem wl_U_disposalDay : Cond.selects R_U y_U_disposalDay y_U_disposalDay ∈ GT := gt_i 528 (by decide +kernel) rfl
theorem wm_C_185 : Cond.methodLink R_C 185 y_U_certificateNumber ∈ GT := gt_i 530 (by decide +kernel) rfl
theorem wi_U_certificateNumber : Cond.instanceMethod y_U_certificateNumber ∈ GT := gt_i 531 (by decide +kernel) rfl
theorem wl_U_certificateNumber : Cond.selects R_U y_U_certificateNumber y_U_certificateNumber ∈ GT := gt_i 532 (by decide +kernel) rfl
theorem wm_C_188 : Cond.methodLink R_C 188 y_U_eventDay ∈ GT := gt_i 534 (by decide +kernel) rfl
theorem wm_W_7 : Cond.methodLink R_W 7 y_C_at ∈ GT := gt_i 539 (by decide +kernel) rfl
theorem wi_C_at : Cond.instanceMethod y_C_at ∈ GT := gt_i 540 (by decide +kernel) rfl
theorem wl_C_at : Cond.selects R_C y_C_at y_C_at ∈ GT := gt_i 541 (by decide +kernel) rfl
theorem wm_C_139 : Cond.methodLink R_C 139 y_L_has ∈ GT := gt_i 543 (by decide +kernel) rfl
theorem wi_L_has : Cond.instanceMethod y_L_has ∈ GT := gt_i 544 (by decide +kernel) rfl
theorem wl_L_has : Cond.selects R_L y_L_has y_L_has ∈ GT := gt_i 545 (by decide +kernel) rfl
theorem wm_C_149 : Cond.methodLink R_C 149 y_L_told ∈ GT := gt_i 612 (by decide +kernel) rfl
theorem wi_L_told : Cond.instanceMethod y_L_told ∈ GT := gt_i 613 (by decide +kernel) rfl
theorem wl_L_told : Cond.selects R_L y_L_told y_L_told ∈ GT := gt_i 614 (by decide +kernel) rfl
theorem wm_W_15 : Cond.methodLink R_W 15 y_C_history ∈ GT := gt_i 619 (by decide +kernel) rfl
theorem wi_C_history : Cond.instanceMethod y_C_history ∈ GT := gt_i 620 (by decide +kernel) rfl
theorem wl_C_history : Cond.selects R_C y_C_history y_C_history ∈ GT := gt_i 621 (by decide +kernel) rfl
theorem wk_W_20 : Cond.classLink R_W 20 R_M ∈ GT := gt_i 624 (by decide +kernel) rfl
theorem wb_M : Cond.instantiable R_M 26 ∈ GT := gt_i 625 (by decide +kernel) rfl
theorem wm_W_22 : Cond.methodLink R_W 22 y_M_init ∈ GT := gt_i 626 (by decide +kernel) rfl
theorem wi_M_init : Cond.instanceMethod y_M_init ∈ GT := gt_i 627 (by decide +kernel) rfl
theorem wf_M_72 : Cond.fieldLink R_M 72 (F_M 0).1 (F_M 0).2.1 (F_M 0).2.2.1 ∈ GT := gt_i 630 (by decide +kernel) rfl
theorem wf_M_7 : Cond.fieldLink R_M 7 (F_M 1).1 (F_M 1).2.1 (F_M 1).2.2.1 ∈ GT := gt_i 631 (by decide +kernel) rfl
theorem wf_M_84 : Cond.fieldLink R_M 84 (F_M 2).1 (F_M 2).2.1 (F_M 2).2.2.1 ∈ GT := gt_i 632 (by decide +kernel) rfl
theorem wf_M_87 : Cond.fieldLink R_M 87 (F_M 3).1 (F_M 3).2.1 (F_M 3).2.2.1 ∈ GT := gt_i 633 (by decide +kernel) rfl
theorem wf_M_81 : Cond.fieldLink R_M 81 (F_M 4).1 (F_M 4).2.1 (F_M 4).2.2.1 ∈ GT := gt_i 634 (by decide +kernel) rfl
theorem wf_M_13 : Cond.fieldLink R_M 13 (F_M 5).1 (F_M 5).2.1 (F_M 5).2.2.1 ∈ GT := gt_i 635 (by decide +kernel) rfl
theorem wf_M_17 : Cond.fieldLink R_M 17 (F_M 6).1 (F_M 6).2.1 (F_M 6).2.2.1 ∈ GT := gt_i 636 (by decide +kernel) rfl
theorem wf_M_20 : Cond.fieldLink R_M 20 (F_M 7).1 (F_M 7).2.1 (F_M 7).2.2.1 ∈ GT := gt_i 637 (by decide +kernel) rfl
theorem wf_M_24 : Cond.fieldLink R_M 24 (F_M 8).1 (F_M 8).2.1 (F_M 8).2.2.1 ∈ GT := gt_i 638 (by decide +kernel) rfl
theorem wf_M_27 : Cond.fieldLink R_M 27 (F_M 9).1 (F_M 9).2.1 (F_M 9).2.2.1 ∈ GT := gt_i 639 (by decide +kernel) rfl
theorem wf_M_30 : Cond.fieldLink R_M 30 (F_M 10).1 (F_M 10).2.1 (F_M 10).2.2.1 ∈ GT := gt_i 640 (by decide +kernel) rfl
theorem wf_M_33 : Cond.fieldLink R_M 33 (F_M 11).1 (F_M 11).2.1 (F_M 11).2.2.1 ∈ GT := gt_i 641 (by decide +kernel) rfl
theorem wf_M_36 : Cond.fieldLink R_M 36 (F_M 12).1 (F_M 12).2.1 (F_M 12).2.2.1 ∈ GT := gt_i 642 (by decide +kernel) rfl
theorem wf_M_39 : Cond.fieldLink R_M 39 (F_M 13).1 (F_M 13).2.1 (F_M 13).2.2.1 ∈ GT := gt_i 643 (by decide +kernel) rfl
theorem wf_M_42 : Cond.fieldLink R_M 42 (F_M 14).1 (F_M 14).2.1 (F_M 14).2.2.1 ∈ GT := gt_i 644 (by decide +kernel) rfl
theorem wf_M_45 : Cond.fieldLink R_M 45 (F_M 15).1 (F_M 15).2.1 (F_M 15).2.2.1 ∈ GT := gt_i 645 (by decide +kernel) rfl
theorem wf_M_48 : Cond.fieldLink R_M 48 (F_M 16).1 (F_M 16).2.1 (F_M 16).2.2.1 ∈ GT := gt_i 646 (by decide +kernel) rfl
theorem wf_M_51 : Cond.fieldLink R_M 51 (F_M 17).1 (F_M 17).2.1 (F_M 17).2.2.1 ∈ GT := gt_i 647 (by decide +kernel) rfl
theorem wf_M_54 : Cond.fieldLink R_M 54 (F_M 18).1 (F_M 18).2.1 (F_M 18).2.2.1 ∈ GT := gt_i 648 (by decide +kernel) rfl
theorem wf_M_57 : Cond.fieldLink R_M 57 (F_M 19).1 (F_M 19).2.1 (F_M 19).2.2.1 ∈ GT := gt_i 649 (by decide +kernel) rfl
theorem wf_M_176 : Cond.fieldLink R_M 176 (F_M 20).1 (F_M 20).2.1 (F_M 20).2.2.1 ∈ GT := gt_i 650 (by decide +kernel) rfl
theorem wf_M_60 : Cond.fieldLink R_M 60 (F_M 21).1 (F_M 21).2.1 (F_M 21).2.2.1 ∈ GT := gt_i 651 (by decide +kernel) rfl
theorem wf_M_166 : Cond.fieldLink R_M 166 (F_M 22).1 (F_M 22).2.1 (F_M 22).2.2.1 ∈ GT := gt_i 652 (by decide +kernel) rfl
theorem wf_M_63 : Cond.fieldLink R_M 63 (F_M 23).1 (F_M 23).2.1 (F_M 23).2.2.1 ∈ GT := gt_i 653 (by decide +kernel) rfl
theorem wf_M_66 : Cond.fieldLink R_M 66 (F_M 24).1 (F_M 24).2.1 (F_M 24).2.2.1 ∈ GT := gt_i 654 (by decide +kernel) rfl
theorem wf_M_69 : Cond.fieldLink R_M 69 (F_M 25).1 (F_M 25).2.1 (F_M 25).2.2.1 ∈ GT := gt_i 655 (by decide +kernel) rfl
theorem wa_boolean : Cond.arrayClass .boolean ∈ GT := gt_i 709 (by decide +kernel) rfl
theorem wm_W_73 : Cond.methodLink R_W 73 y_M_thrown ∈ GT := gt_i 710 (by decide +kernel) rfl
theorem wi_M_thrown : Cond.instanceMethod y_M_thrown ∈ GT := gt_i 711 (by decide +kernel) rfl
theorem wl_M_thrown : Cond.selects R_M y_M_thrown y_M_thrown ∈ GT := gt_i 712 (by decide +kernel) rfl
theorem wm_W_27 : Cond.methodLink R_W 27 y_M_sign ∈ GT := gt_i 714 (by decide +kernel) rfl
theorem wi_M_sign : Cond.instanceMethod y_M_sign ∈ GT := gt_i 715 (by decide +kernel) rfl
theorem wl_M_sign : Cond.selects R_M y_M_sign y_M_sign ∈ GT := gt_i 716 (by decide +kernel) rfl
theorem wm_W_32 : Cond.methodLink R_W 32 y_M_rule ∈ GT := gt_i 718 (by decide +kernel) rfl
theorem wi_M_rule : Cond.instanceMethod y_M_rule ∈ GT := gt_i 719 (by decide +kernel) rfl
theorem wl_M_rule : Cond.selects R_M y_M_rule y_M_rule ∈ GT := gt_i 720 (by decide +kernel) rfl
theorem wm_M_139 : Cond.methodLink R_M 139 y_M_reads ∈ GT := gt_i 722 (by decide +kernel) rfl
theorem wi_M_reads : Cond.instanceMethod y_M_reads ∈ GT := gt_i 724 (by decide +kernel) rfl
theorem wm_M_124 : Cond.methodLink R_M 124 y_M_word ∈ GT := gt_i 726 (by decide +kernel) rfl
theorem wi_M_word : Cond.instanceMethod y_M_word ∈ GT := gt_i 728 (by decide +kernel) rfl
theorem wm_M_94 : Cond.methodLink R_M 94 y_M_isSmall ∈ GT := gt_i 730 (by decide +kernel) rfl
theorem wi_M_isSmall : Cond.instanceMethod y_M_isSmall ∈ GT := gt_i 732 (by decide +kernel) rfl
theorem wm_M_90 : Cond.methodLink R_M 90 y_M_look ∈ GT := gt_i 734 (by decide +kernel) rfl
theorem wi_M_look : Cond.instanceMethod y_M_look ∈ GT := gt_i 736 (by decide +kernel) rfl
theorem wc_M_98 : Cond.constantLong R_M 98 27 ∈ GT := gt_i 738 (by decide +kernel) rfl
theorem wc_M_100 : Cond.constantLong R_M 100 97 ∈ GT := gt_i 739 (by decide +kernel) rfl
theorem wc_M_102 : Cond.constantLong R_M 102 (-1) ∈ GT := gt_i 740 (by decide +kernel) rfl
theorem wm_M_127 : Cond.methodLink R_M 127 y_M_eventJ ∈ GT := gt_i 741 (by decide +kernel) rfl
theorem ws_M_eventJ : Cond.static y_M_eventJ ∈ GT := gt_i 742 (by decide +kernel) rfl
theorem wm_M_104 : Cond.methodLink R_M 104 y_M_word4 ∈ GT := gt_i 744 (by decide +kernel) rfl
theorem ws_M_word4 : Cond.static y_M_word4 ∈ GT := gt_i 745 (by decide +kernel) rfl
theorem wc_M_108 : Cond.constantLong R_M 108 5 ∈ GT := gt_i 747 (by decide +kernel) rfl
theorem wc_M_110 : Cond.constantLong R_M 110 4 ∈ GT := gt_i 748 (by decide +kernel) rfl
theorem wc_M_112 : Cond.constantLong R_M 112 8 ∈ GT := gt_i 749 (by decide +kernel) rfl
theorem wm_M_131 : Cond.methodLink R_M 131 y_M_space ∈ GT := gt_i 750 (by decide +kernel) rfl
theorem wi_M_space : Cond.instanceMethod y_M_space ∈ GT := gt_i 752 (by decide +kernel) rfl
theorem wm_M_134 : Cond.methodLink R_M 134 y_M_digits ∈ GT := gt_i 754 (by decide +kernel) rfl
theorem wi_M_digits : Cond.instanceMethod y_M_digits ∈ GT := gt_i 756 (by decide +kernel) rfl
theorem wm_M_137 : Cond.methodLink R_M 137 y_M_actionJ ∈ GT := gt_i 758 (by decide +kernel) rfl
theorem ws_M_actionJ : Cond.static y_M_actionJ ∈ GT := gt_i 759 (by decide +kernel) rfl
theorem wc_M_114 : Cond.constantLong R_M 114 18 ∈ GT := gt_i 761 (by decide +kernel) rfl
theorem wc_M_116 : Cond.constantLong R_M 116 15 ∈ GT := gt_i 762 (by decide +kernel) rfl
theorem wc_M_118 : Cond.constantLong R_M 118 25 ∈ GT := gt_i 763 (by decide +kernel) rfl
theorem wc_M_120 : Cond.constantLong R_M 120 19 ∈ GT := gt_i 764 (by decide +kernel) rfl
theorem wc_M_122 : Cond.constantLong R_M 122 6 ∈ GT := gt_i 765 (by decide +kernel) rfl
theorem wm_W_37 : Cond.methodLink R_W 37 y_M_change ∈ GT := gt_i 766 (by decide +kernel) rfl
theorem wi_M_change : Cond.instanceMethod y_M_change ∈ GT := gt_i 767 (by decide +kernel) rfl
theorem wl_M_change : Cond.selects R_M y_M_change y_M_change ∈ GT := gt_i 768 (by decide +kernel) rfl
theorem wm_M_142 : Cond.methodLink R_M 142 y_M_isRule ∈ GT := gt_i 770 (by decide +kernel) rfl
theorem wi_M_isRule : Cond.instanceMethod y_M_isRule ∈ GT := gt_i 772 (by decide +kernel) rfl
theorem wm_M_76 : Cond.methodLink R_M 76 y_M_in ∈ GT := gt_i 774 (by decide +kernel) rfl
theorem ws_M_in : Cond.static y_M_in ∈ GT := gt_i 775 (by decide +kernel) rfl
theorem wm_M_146 : Cond.methodLink R_M 146 y_M_isDay ∈ GT := gt_i 777 (by decide +kernel) rfl
theorem ws_M_isDay : Cond.static y_M_isDay ∈ GT := gt_i 778 (by decide +kernel) rfl
theorem wc_M_80 : Cond.constant R_M 80 1000000 ∈ GT := gt_i 780 (by decide +kernel) rfl
theorem wm_W_42 : Cond.methodLink R_W 42 y_M_breaks ∈ GT := gt_i 781 (by decide +kernel) rfl
theorem wi_M_breaks : Cond.instanceMethod y_M_breaks ∈ GT := gt_i 782 (by decide +kernel) rfl
theorem wl_M_breaks : Cond.selects R_M y_M_breaks y_M_breaks ∈ GT := gt_i 783 (by decide +kernel) rfl
theorem wm_W_46 : Cond.methodLink R_W 46 y_M_event ∈ GT := gt_i 785 (by decide +kernel) rfl
theorem wi_M_event : Cond.instanceMethod y_M_event ∈ GT := gt_i 786 (by decide +kernel) rfl
theorem wl_M_event : Cond.selects R_M y_M_event y_M_event ∈ GT := gt_i 787 (by decide +kernel) rfl
theorem wm_M_149 : Cond.methodLink R_M 149 y_M_isUnit ∈ GT := gt_i 789 (by decide +kernel) rfl
theorem ws_M_isUnit : Cond.static y_M_isUnit ∈ GT := gt_i 790 (by decide +kernel) rfl
theorem wm_W_50 : Cond.methodLink R_W 50 y_M_schedule ∈ GT := gt_i 792 (by decide +kernel) rfl
theorem wi_M_schedule : Cond.instanceMethod y_M_schedule ∈ GT := gt_i 793 (by decide +kernel) rfl
theorem wl_M_schedule : Cond.selects R_M y_M_schedule y_M_schedule ∈ GT := gt_i 794 (by decide +kernel) rfl
theorem wm_W_54 : Cond.methodLink R_W 54 y_M_hold ∈ GT := gt_i 796 (by decide +kernel) rfl
theorem wi_M_hold : Cond.instanceMethod y_M_hold ∈ GT := gt_i 797 (by decide +kernel) rfl
theorem wl_M_hold : Cond.selects R_M y_M_hold y_M_hold ∈ GT := gt_i 798 (by decide +kernel) rfl
theorem wm_W_58 : Cond.methodLink R_W 58 y_M_except ∈ GT := gt_i 800 (by decide +kernel) rfl
theorem wi_M_except : Cond.instanceMethod y_M_except ∈ GT := gt_i 801 (by decide +kernel) rfl
theorem wl_M_except : Cond.selects R_M y_M_except y_M_except ∈ GT := gt_i 802 (by decide +kernel) rfl
theorem wm_W_62 : Cond.methodLink R_W 62 y_M_day ∈ GT := gt_i 804 (by decide +kernel) rfl
theorem wi_M_day : Cond.instanceMethod y_M_day ∈ GT := gt_i 805 (by decide +kernel) rfl
theorem wl_M_day : Cond.selects R_M y_M_day y_M_day ∈ GT := gt_i 806 (by decide +kernel) rfl
theorem wm_M_163 : Cond.methodLink R_M 163 y_M_dueDay ∈ GT := gt_i 808 (by decide +kernel) rfl
theorem wi_M_dueDay : Cond.instanceMethod y_M_dueDay ∈ GT := gt_i 810 (by decide +kernel) rfl
theorem wm_M_156 : Cond.methodLink R_M 156 y_M_fails ∈ GT := gt_i 812 (by decide +kernel) rfl
theorem wi_M_fails : Cond.instanceMethod y_M_fails ∈ GT := gt_i 814 (by decide +kernel) rfl
theorem wm_M_159 : Cond.methodLink R_M 159 y_M_dayOf ∈ GT := gt_i 816 (by decide +kernel) rfl
theorem wi_M_dayOf : Cond.instanceMethod y_M_dayOf ∈ GT := gt_i 818 (by decide +kernel) rfl
theorem wm_M_152 : Cond.methodLink R_M 152 y_M_yearsOn ∈ GT := gt_i 820 (by decide +kernel) rfl
theorem wi_M_yearsOn : Cond.instanceMethod y_M_yearsOn ∈ GT := gt_i 822 (by decide +kernel) rfl
theorem wm_W_66 : Cond.methodLink R_W 66 y_M_due ∈ GT := gt_i 824 (by decide +kernel) rfl
theorem wi_M_due : Cond.instanceMethod y_M_due ∈ GT := gt_i 825 (by decide +kernel) rfl
theorem wl_M_due : Cond.selects R_M y_M_due y_M_due ∈ GT := gt_i 826 (by decide +kernel) rfl
theorem wm_M_169 : Cond.methodLink R_M 169 y_M_isDue ∈ GT := gt_i 828 (by decide +kernel) rfl
theorem wi_M_isDue : Cond.instanceMethod y_M_isDue ∈ GT := gt_i 830 (by decide +kernel) rfl
theorem wm_M_173 : Cond.methodLink R_M 173 y_M_actionOf ∈ GT := gt_i 832 (by decide +kernel) rfl
theorem wi_M_actionOf : Cond.instanceMethod y_M_actionOf ∈ GT := gt_i 834 (by decide +kernel) rfl
theorem wm_W_72 : Cond.methodLink R_W 72 y_M_at ∈ GT := gt_i 836 (by decide +kernel) rfl
theorem wi_M_at : Cond.instanceMethod y_M_at ∈ GT := gt_i 837 (by decide +kernel) rfl
theorem wl_M_at : Cond.selects R_M y_M_at y_M_at ∈ GT := gt_i 838 (by decide +kernel) rfl
theorem wm_W_79 : Cond.methodLink R_W 79 y_M_approve ∈ GT := gt_i 840 (by decide +kernel) rfl
theorem wi_M_approve : Cond.instanceMethod y_M_approve ∈ GT := gt_i 841 (by decide +kernel) rfl
theorem wl_M_approve : Cond.selects R_M y_M_approve y_M_approve ∈ GT := gt_i 842 (by decide +kernel) rfl
theorem wm_W_83 : Cond.methodLink R_W 83 y_M_dispose ∈ GT := gt_i 844 (by decide +kernel) rfl
theorem wi_M_dispose : Cond.instanceMethod y_M_dispose ∈ GT := gt_i 845 (by decide +kernel) rfl
theorem wl_M_dispose : Cond.selects R_M y_M_dispose y_M_dispose ∈ GT := gt_i 846 (by decide +kernel) rfl
theorem wm_M_182 : Cond.methodLink R_M 182 y_M_against ∈ GT := gt_i 848 (by decide +kernel) rfl
theorem wi_M_against : Cond.instanceMethod y_M_against ∈ GT := gt_i 850 (by decide +kernel) rfl
theorem wm_M_179 : Cond.methodLink R_M 179 y_M_isHeld ∈ GT := gt_i 852 (by decide +kernel) rfl
theorem wi_M_isHeld : Cond.instanceMethod y_M_isHeld ∈ GT := gt_i 854 (by decide +kernel) rfl
theorem wm_W_87 : Cond.methodLink R_W 87 y_M_certificate ∈ GT := gt_i 856 (by decide +kernel) rfl
theorem wi_M_certificate : Cond.instanceMethod y_M_certificate ∈ GT := gt_i 857 (by decide +kernel) rfl
theorem wl_M_certificate : Cond.selects R_M y_M_certificate y_M_certificate ∈ GT := gt_i 858 (by decide +kernel) rfl
theorem wm_W_91 : Cond.methodLink R_W 91 y_M_about ∈ GT := gt_i 860 (by decide +kernel) rfl
theorem wi_M_about : Cond.instanceMethod y_M_about ∈ GT := gt_i 861 (by decide +kernel) rfl
theorem wl_M_about : Cond.selects R_M y_M_about y_M_about ∈ GT := gt_i 862 (by decide +kernel) rfl
theorem wm_W_95 : Cond.methodLink R_W 95 y_M_history ∈ GT := gt_i 864 (by decide +kernel) rfl
theorem wi_M_history : Cond.instanceMethod y_M_history ∈ GT := gt_i 865 (by decide +kernel) rfl
theorem wl_M_history : Cond.selects R_M y_M_history y_M_history ∈ GT := gt_i 866 (by decide +kernel) rfl
theorem wa_long : Cond.arrayClass .long ∈ GT := gt_i 868 (by decide +kernel) rfl
theorem wf_S_9 : Cond.fieldLink R_S 9 "java/lang/String" "value" "[B" ∈ GT := gt_i 870 (by decide +kernel) rfl
theorem wf_S_15 : Cond.fieldLink R_S 15 "java/lang/String" "coder" "B" ∈ GT := gt_i 871 (by decide +kernel) rfl
theorem wl_T_readEvent : Cond.selects R_T y_T_readEvent y_T_readEvent ∈ GT := gt_i 0 (by decide +kernel) rfl
theorem wl_T_wordEnd : Cond.selects R_T y_T_wordEnd y_T_wordEnd ∈ GT := gt_i 1 (by decide +kernel) rfl
theorem wl_T_signAt : Cond.selects R_T y_T_signAt y_T_signAt ∈ GT := gt_i 2 (by decide +kernel) rfl
theorem wl_T_isWord : Cond.selects R_T y_T_isWord y_T_isWord ∈ GT := gt_i 3 (by decide +kernel) rfl
theorem wl_T_readSpace : Cond.selects R_T y_T_readSpace y_T_readSpace ∈ GT := gt_i 4 (by decide +kernel) rfl
theorem wl_T_readYears : Cond.selects R_T y_T_readYears y_T_readYears ∈ GT := gt_i 5 (by decide +kernel) rfl
theorem wl_T_readAction : Cond.selects R_T y_T_readAction y_T_readAction ∈ GT := gt_i 6 (by decide +kernel) rfl
theorem wl_C_findRule : Cond.selects R_C y_C_findRule y_C_findRule ∈ GT := gt_i 7 (by decide +kernel) rfl
theorem wl_C_findUnit : Cond.selects R_C y_C_findUnit y_C_findUnit ∈ GT := gt_i 8 (by decide +kernel) rfl
theorem wl_U_takeApprovalsAway : Cond.selects R_U y_U_takeApprovalsAway y_U_takeApprovalsAway ∈ GT := gt_i 9 (by decide +kernel) rfl
theorem wl_U_decidingRule : Cond.selects R_U y_U_decidingRule y_U_decidingRule ∈ GT := gt_i 10 (by decide +kernel) rfl
theorem wl_R_yearsOn : Cond.selects R_R y_R_yearsOn y_R_yearsOn ∈ GT := gt_i 11 (by decide +kernel) rfl
theorem wl_L_put : Cond.selects R_L y_L_put y_L_put ∈ GT := gt_i 12 (by decide +kernel) rfl
theorem wl_C_obstacleTo : Cond.selects R_C y_C_obstacleTo y_C_obstacleTo ∈ GT := gt_i 13 (by decide +kernel) rfl
theorem wl_C_isCertificateMissing : Cond.selects R_C y_C_isCertificateMissing y_C_isCertificateMissing ∈ GT := gt_i 14 (by decide +kernel) rfl
theorem wl_C_keepDisposed : Cond.selects R_C y_C_keepDisposed y_C_keepDisposed ∈ GT := gt_i 15 (by decide +kernel) rfl
theorem wl_M_reads : Cond.selects R_M y_M_reads y_M_reads ∈ GT := gt_i 17 (by decide +kernel) rfl
theorem wl_M_word : Cond.selects R_M y_M_word y_M_word ∈ GT := gt_i 18 (by decide +kernel) rfl
theorem wl_M_isSmall : Cond.selects R_M y_M_isSmall y_M_isSmall ∈ GT := gt_i 19 (by decide +kernel) rfl
theorem wl_M_look : Cond.selects R_M y_M_look y_M_look ∈ GT := gt_i 20 (by decide +kernel) rfl
theorem wl_M_space : Cond.selects R_M y_M_space y_M_space ∈ GT := gt_i 21 (by decide +kernel) rfl
theorem wl_M_digits : Cond.selects R_M y_M_digits y_M_digits ∈ GT := gt_i 22 (by decide +kernel) rfl
theorem wl_M_isRule : Cond.selects R_M y_M_isRule y_M_isRule ∈ GT := gt_i 23 (by decide +kernel) rfl
theorem wl_M_dueDay : Cond.selects R_M y_M_dueDay y_M_dueDay ∈ GT := gt_i 24 (by decide +kernel) rfl
theorem wl_M_fails : Cond.selects R_M y_M_fails y_M_fails ∈ GT := gt_i 25 (by decide +kernel) rfl
theorem wl_M_dayOf : Cond.selects R_M y_M_dayOf y_M_dayOf ∈ GT := gt_i 26 (by decide +kernel) rfl
theorem wl_M_yearsOn : Cond.selects R_M y_M_yearsOn y_M_yearsOn ∈ GT := gt_i 27 (by decide +kernel) rfl
theorem wl_M_isDue : Cond.selects R_M y_M_isDue y_M_isDue ∈ GT := gt_i 28 (by decide +kernel) rfl
theorem wl_M_actionOf : Cond.selects R_M y_M_actionOf y_M_actionOf ∈ GT := gt_i 29 (by decide +kernel) rfl
theorem wl_M_against : Cond.selects R_M y_M_against y_M_against ∈ GT := gt_i 30 (by decide +kernel) rfl
theorem wl_M_isHeld : Cond.selects R_M y_M_isHeld y_M_isHeld ∈ GT := gt_i 31 (by decide +kernel) rfl
end
section
theorem d_C_about_0 : decode b_C_about 0 = .ok (.aload_n 0, 1) := by decide +kernel
theorem d_C_about_1 : decode b_C_about 1 = .ok (.iload_n 1, 1) := by decide +kernel
theorem d_C_about_2 : decode b_C_about 2 = .ok (.invokevirtual 93, 3) := by decide +kernel
theorem d_C_about_5 : decode b_C_about 5 = .ok (.astore_n 3, 1) := by decide +kernel
theorem d_C_about_6 : decode b_C_about 6 = .ok (.aload_n 3, 1) := by decide +kernel
theorem d_C_about_7 : decode b_C_about 7 = .ok (.ifnonnull 5, 3) := by decide +kernel
theorem d_C_about_10 : decode b_C_about 10 = .ok (.iconst (-1), 1) := by decide +kernel
theorem d_C_about_11 : decode b_C_about 11 = .ok (.ireturn, 1) := by decide +kernel
theorem d_C_about_12 : decode b_C_about 12 = .ok (.iload_n 2, 1) := by decide +kernel
theorem d_C_about_13 : decode b_C_about 13 = .ok (.tableswitch 68 4 8 #[35, 40, 45, 58, 63], 35) := by decide +kernel
theorem d_C_about_48 : decode b_C_about 48 = .ok (.aload_n 3, 1) := by decide +kernel
theorem d_C_about_49 : decode b_C_about 49 = .ok (.invokevirtual 111, 3) := by decide +kernel
theorem d_C_about_52 : decode b_C_about 52 = .ok (.ireturn, 1) := by decide +kernel
theorem d_C_about_53 : decode b_C_about 53 = .ok (.aload_n 3, 1) := by decide +kernel
theorem d_C_about_54 : decode b_C_about 54 = .ok (.invokevirtual 162, 3) := by decide +kernel
theorem d_C_about_57 : decode b_C_about 57 = .ok (.ireturn, 1) := by decide +kernel
theorem d_C_about_58 : decode b_C_about 58 = .ok (.aload_n 3, 1) := by decide +kernel
theorem d_C_about_59 : decode b_C_about 59 = .ok (.invokevirtual 97, 3) := by decide +kernel
theorem d_C_about_62 : decode b_C_about 62 = .ok (.ifCond .eq 7, 3) := by decide +kernel
theorem d_C_about_65 : decode b_C_about 65 = .ok (.iconst 1, 1) := by decide +kernel
theorem d_C_about_66 : decode b_C_about 66 = .ok (.goto 4, 3) := by decide +kernel
theorem d_C_about_69 : decode b_C_about 69 = .ok (.iconst 0, 1) := by decide +kernel
theorem d_C_about_70 : decode b_C_about 70 = .ok (.ireturn, 1) := by decide +kernel
theorem d_C_about_71 : decode b_C_about 71 = .ok (.aload_n 3, 1) := by decide +kernel
theorem d_C_about_72 : decode b_C_about 72 = .ok (.invokevirtual 182, 3) := by decide +kernel
theorem d_C_about_75 : decode b_C_about 75 = .ok (.ireturn, 1) := by decide +kernel
theorem d_C_about_76 : decode b_C_about 76 = .ok (.aload_n 3, 1) := by decide +kernel
theorem d_C_about_77 : decode b_C_about 77 = .ok (.invokevirtual 185, 3) := by decide +kernel
theorem d_C_about_80 : decode b_C_about 80 = .ok (.ireturn, 1) := by decide +kernel
theorem d_C_about_81 : decode b_C_about 81 = .ok (.iload_n 2, 1) := by decide +kernel
theorem d_C_about_82 : decode b_C_about 82 = .ok (.ifCond .lt 16, 3) := by decide +kernel
theorem d_C_about_85 : decode b_C_about 85 = .ok (.iload_n 2, 1) := by decide +kernel
theorem d_C_about_86 : decode b_C_about 86 = .ok (.iconst 4, 1) := by decide +kernel
theorem d_C_about_87 : decode b_C_about 87 = .ok (.if_icmp .ge 11, 3) := by decide +kernel
theorem d_C_about_90 : decode b_C_about 90 = .ok (.aload_n 3, 1) := by decide +kernel
theorem d_C_about_91 : decode b_C_about 91 = .ok (.iload_n 2, 1) := by decide +kernel
theorem d_C_about_92 : decode b_C_about 92 = .ok (.invokevirtual 188, 3) := by decide +kernel
theorem d_C_about_95 : decode b_C_about 95 = .ok (.goto 4, 3) := by decide +kernel
theorem d_C_about_98 : decode b_C_about 98 = .ok (.iconst (-1), 1) := by decide +kernel
theorem d_C_about_99 : decode b_C_about 99 = .ok (.ireturn, 1) := by decide +kernel
theorem d_C_approve_0 : decode b_C_approve 0 = .ok (.aload_n 0, 1) := by decide +kernel
theorem d_C_approve_1 : decode b_C_approve 1 = .ok (.iload_n 1, 1) := by decide +kernel
theorem d_C_approve_2 : decode b_C_approve 2 = .ok (.invokevirtual 93, 3) := by decide +kernel
theorem d_C_approve_5 : decode b_C_approve 5 = .ok (.astore_n 3, 1) := by decide +kernel
theorem d_C_approve_6 : decode b_C_approve 6 = .ok (.aload_n 3, 1) := by decide +kernel
theorem d_C_approve_7 : decode b_C_approve 7 = .ok (.ifnonnull 5, 3) := by decide +kernel
theorem d_C_approve_10 : decode b_C_approve 10 = .ok (.iconst (-1), 1) := by decide +kernel
theorem d_C_approve_11 : decode b_C_approve 11 = .ok (.ireturn, 1) := by decide +kernel
theorem d_C_approve_12 : decode b_C_approve 12 = .ok (.iload_n 2, 1) := by decide +kernel
theorem d_C_approve_13 : decode b_C_approve 13 = .ok (.ifCond .lt 9, 3) := by decide +kernel
theorem d_C_approve_16 : decode b_C_approve 16 = .ok (.iload_n 2, 1) := by decide +kernel
theorem d_C_approve_17 : decode b_C_approve 17 = .ok (.bipush 100, 2) := by decide +kernel
theorem d_C_approve_19 : decode b_C_approve 19 = .ok (.if_icmp .lt 6, 3) := by decide +kernel
theorem d_C_approve_22 : decode b_C_approve 22 = .ok (.bipush (-2), 2) := by decide +kernel
theorem d_C_approve_24 : decode b_C_approve 24 = .ok (.ireturn, 1) := by decide +kernel
theorem d_C_approve_25 : decode b_C_approve 25 = .ok (.aload_n 3, 1) := by decide +kernel
theorem d_C_approve_26 : decode b_C_approve 26 = .ok (.invokevirtual 97, 3) := by decide +kernel
theorem d_C_approve_29 : decode b_C_approve 29 = .ok (.ifCond .ne 18, 3) := by decide +kernel
theorem d_C_approve_32 : decode b_C_approve 32 = .ok (.aload_n 3, 1) := by decide +kernel
theorem d_C_approve_33 : decode b_C_approve 33 = .ok (.invokevirtual 153, 3) := by decide +kernel
theorem d_C_approve_36 : decode b_C_approve 36 = .ok (.ifCond .ne 11, 3) := by decide +kernel
theorem d_C_approve_39 : decode b_C_approve 39 = .ok (.aload_n 3, 1) := by decide +kernel
theorem d_C_approve_40 : decode b_C_approve 40 = .ok (.iload_n 2, 1) := by decide +kernel
theorem d_C_approve_41 : decode b_C_approve 41 = .ok (.invokevirtual 156, 3) := by decide +kernel
theorem d_C_approve_44 : decode b_C_approve 44 = .ok (.ifCond .eq 6, 3) := by decide +kernel
theorem d_C_approve_47 : decode b_C_approve 47 = .ok (.bipush (-3), 2) := by decide +kernel
theorem d_C_approve_49 : decode b_C_approve 49 = .ok (.ireturn, 1) := by decide +kernel
theorem d_C_approve_50 : decode b_C_approve 50 = .ok (.aload_n 3, 1) := by decide +kernel
theorem d_C_approve_51 : decode b_C_approve 51 = .ok (.iload_n 2, 1) := by decide +kernel
theorem d_C_approve_52 : decode b_C_approve 52 = .ok (.invokevirtual 159, 3) := by decide +kernel
theorem d_C_approve_55 : decode b_C_approve 55 = .ok (.aload_n 3, 1) := by decide +kernel
theorem d_C_approve_56 : decode b_C_approve 56 = .ok (.invokevirtual 162, 3) := by decide +kernel
theorem d_C_approve_59 : decode b_C_approve 59 = .ok (.ireturn, 1) := by decide +kernel
theorem d_C_at_0 : decode b_C_at 0 = .ok (.aload_n 0, 1) := by decide +kernel
theorem d_C_at_1 : decode b_C_at 1 = .ok (.getfield 32, 3) := by decide +kernel
theorem d_C_at_4 : decode b_C_at 4 = .ok (.iload_n 1, 1) := by decide +kernel
theorem d_C_at_5 : decode b_C_at 5 = .ok (.invokevirtual 139, 3) := by decide +kernel
theorem d_C_at_8 : decode b_C_at 8 = .ok (.ifCond .eq 12, 3) := by decide +kernel
theorem d_C_at_11 : decode b_C_at 11 = .ok (.iload_n 2, 1) := by decide +kernel
theorem d_C_at_12 : decode b_C_at 12 = .ok (.ifCond .lt 8, 3) := by decide +kernel
theorem d_C_at_15 : decode b_C_at 15 = .ok (.iload_n 2, 1) := by decide +kernel
theorem d_C_at_16 : decode b_C_at 16 = .ok (.iconst 2, 1) := by decide +kernel
theorem d_C_at_17 : decode b_C_at 17 = .ok (.if_icmp .le 13, 3) := by decide +kernel
theorem d_C_at_20 : decode b_C_at 20 = .ok (.new 142, 3) := by decide +kernel
theorem d_C_at_23 : decode b_C_at 23 = .ok (.dup, 1) := by decide +kernel
theorem d_C_at_24 : decode b_C_at 24 = .ok (.ldc 144, 2) := by decide +kernel
theorem d_C_at_26 : decode b_C_at 26 = .ok (.invokespecial 146, 3) := by decide +kernel
theorem d_C_at_29 : decode b_C_at 29 = .ok (.athrow, 1) := by decide +kernel
theorem d_C_at_30 : decode b_C_at 30 = .ok (.aload_n 0, 1) := by decide +kernel
theorem d_C_at_31 : decode b_C_at 31 = .ok (.getfield 32, 3) := by decide +kernel
theorem d_C_at_34 : decode b_C_at 34 = .ok (.iload_n 1, 1) := by decide +kernel
theorem d_C_at_35 : decode b_C_at 35 = .ok (.iload_n 2, 1) := by decide +kernel
theorem d_C_at_36 : decode b_C_at 36 = .ok (.invokevirtual 149, 3) := by decide +kernel
theorem d_C_at_39 : decode b_C_at 39 = .ok (.ireturn, 1) := by decide +kernel
theorem d_C_breaks_0 : decode b_C_breaks 0 = .ok (.aload_n 0, 1) := by decide +kernel
theorem d_C_breaks_1 : decode b_C_breaks 1 = .ok (.iload_n 1, 1) := by decide +kernel
theorem d_C_breaks_2 : decode b_C_breaks 2 = .ok (.invokevirtual 71, 3) := by decide +kernel
theorem d_C_breaks_5 : decode b_C_breaks 5 = .ok (.astore_n 3, 1) := by decide +kernel
theorem d_C_breaks_6 : decode b_C_breaks 6 = .ok (.aload_n 3, 1) := by decide +kernel
theorem d_C_breaks_7 : decode b_C_breaks 7 = .ok (.ifnonnull 5, 3) := by decide +kernel
theorem d_C_breaks_10 : decode b_C_breaks 10 = .ok (.iconst 0, 1) := by decide +kernel
theorem d_C_breaks_11 : decode b_C_breaks 11 = .ok (.ireturn, 1) := by decide +kernel
theorem d_C_breaks_12 : decode b_C_breaks 12 = .ok (.aload_n 3, 1) := by decide +kernel
theorem d_C_breaks_13 : decode b_C_breaks 13 = .ok (.invokevirtual 86, 3) := by decide +kernel
theorem d_C_breaks_16 : decode b_C_breaks 16 = .ok (.istore 4, 2) := by decide +kernel
theorem d_C_breaks_18 : decode b_C_breaks 18 = .ok (.aload_n 3, 1) := by decide +kernel
theorem d_C_breaks_19 : decode b_C_breaks 19 = .ok (.iload_n 2, 1) := by decide +kernel
theorem d_C_breaks_20 : decode b_C_breaks 20 = .ok (.invokevirtual 89, 3) := by decide +kernel
theorem d_C_breaks_23 : decode b_C_breaks 23 = .ok (.iload 4, 2) := by decide +kernel
theorem d_C_breaks_25 : decode b_C_breaks 25 = .ok (.ireturn, 1) := by decide +kernel
theorem d_C_certificate_0 : decode b_C_certificate 0 = .ok (.aload_n 0, 1) := by decide +kernel
theorem d_C_certificate_1 : decode b_C_certificate 1 = .ok (.iload_n 1, 1) := by decide +kernel
theorem d_C_certificate_2 : decode b_C_certificate 2 = .ok (.invokevirtual 93, 3) := by decide +kernel
theorem d_C_certificate_5 : decode b_C_certificate 5 = .ok (.astore_n 3, 1) := by decide +kernel
theorem d_C_certificate_6 : decode b_C_certificate 6 = .ok (.aload_n 3, 1) := by decide +kernel
theorem d_C_certificate_7 : decode b_C_certificate 7 = .ok (.ifnonnull 5, 3) := by decide +kernel
theorem d_C_certificate_10 : decode b_C_certificate 10 = .ok (.iconst (-1), 1) := by decide +kernel
theorem d_C_certificate_11 : decode b_C_certificate 11 = .ok (.ireturn, 1) := by decide +kernel
theorem d_C_certificate_12 : decode b_C_certificate 12 = .ok (.iload_n 2, 1) := by decide +kernel
theorem d_C_certificate_13 : decode b_C_certificate 13 = .ok (.iconst 1, 1) := by decide +kernel
theorem d_C_certificate_14 : decode b_C_certificate 14 = .ok (.if_icmp .lt 9, 3) := by decide +kernel
theorem d_C_certificate_17 : decode b_C_certificate 17 = .ok (.iload_n 2, 1) := by decide +kernel
theorem d_C_certificate_18 : decode b_C_certificate 18 = .ok (.ldc 175, 2) := by decide +kernel
theorem d_C_certificate_20 : decode b_C_certificate 20 = .ok (.if_icmp .le 6, 3) := by decide +kernel
theorem d_C_certificate_23 : decode b_C_certificate 23 = .ok (.bipush (-2), 2) := by decide +kernel
theorem d_C_certificate_25 : decode b_C_certificate 25 = .ok (.ireturn, 1) := by decide +kernel
theorem d_C_certificate_26 : decode b_C_certificate 26 = .ok (.aload_n 3, 1) := by decide +kernel
theorem d_C_certificate_27 : decode b_C_certificate 27 = .ok (.invokevirtual 97, 3) := by decide +kernel
theorem d_C_certificate_30 : decode b_C_certificate 30 = .ok (.ifCond .eq 10, 3) := by decide +kernel
theorem d_C_certificate_33 : decode b_C_certificate 33 = .ok (.aload_n 3, 1) := by decide +kernel
theorem d_C_certificate_34 : decode b_C_certificate 34 = .ok (.invokevirtual 176, 3) := by decide +kernel
theorem d_C_certificate_37 : decode b_C_certificate 37 = .ok (.ifCond .eq 6, 3) := by decide +kernel
theorem d_C_certificate_40 : decode b_C_certificate 40 = .ok (.bipush (-3), 2) := by decide +kernel
theorem d_C_certificate_42 : decode b_C_certificate 42 = .ok (.ireturn, 1) := by decide +kernel
theorem d_C_certificate_43 : decode b_C_certificate 43 = .ok (.aload_n 3, 1) := by decide +kernel
theorem d_C_certificate_44 : decode b_C_certificate 44 = .ok (.iload_n 2, 1) := by decide +kernel
theorem d_C_certificate_45 : decode b_C_certificate 45 = .ok (.invokevirtual 179, 3) := by decide +kernel
theorem d_C_certificate_48 : decode b_C_certificate 48 = .ok (.iconst 1, 1) := by decide +kernel
theorem d_C_certificate_49 : decode b_C_certificate 49 = .ok (.ireturn, 1) := by decide +kernel
theorem d_C_change_0 : decode b_C_change 0 = .ok (.aload_n 0, 1) := by decide +kernel
theorem d_C_change_1 : decode b_C_change 1 = .ok (.iload_n 1, 1) := by decide +kernel
theorem d_C_change_2 : decode b_C_change 2 = .ok (.invokevirtual 71, 3) := by decide +kernel
theorem d_C_change_5 : decode b_C_change 5 = .ok (.astore 4, 2) := by decide +kernel
theorem d_C_change_7 : decode b_C_change 7 = .ok (.aload 4, 2) := by decide +kernel
theorem d_C_change_9 : decode b_C_change 9 = .ok (.ifnonnull 5, 3) := by decide +kernel
theorem d_C_change_12 : decode b_C_change 12 = .ok (.iconst (-1), 1) := by decide +kernel
theorem d_C_change_13 : decode b_C_change 13 = .ok (.ireturn, 1) := by decide +kernel
theorem d_C_change_14 : decode b_C_change 14 = .ok (.iload_n 2, 1) := by decide +kernel
theorem d_C_change_15 : decode b_C_change 15 = .ok (.ifCond .lt 17, 3) := by decide +kernel
theorem d_C_change_18 : decode b_C_change 18 = .ok (.iload_n 2, 1) := by decide +kernel
theorem d_C_change_19 : decode b_C_change 19 = .ok (.sipush 999, 3) := by decide +kernel
theorem d_C_change_22 : decode b_C_change 22 = .ok (.if_icmp .gt 10, 3) := by decide +kernel
theorem d_C_change_25 : decode b_C_change 25 = .ok (.iload_n 3, 1) := by decide +kernel
theorem d_C_change_26 : decode b_C_change 26 = .ok (.invokestatic 75, 3) := by decide +kernel
theorem d_C_change_29 : decode b_C_change 29 = .ok (.ifCond .ne 6, 3) := by decide +kernel
theorem d_C_change_32 : decode b_C_change 32 = .ok (.bipush (-2), 2) := by decide +kernel
theorem d_C_change_34 : decode b_C_change 34 = .ok (.ireturn, 1) := by decide +kernel
theorem d_C_change_35 : decode b_C_change 35 = .ok (.aload 4, 2) := by decide +kernel
theorem d_C_change_37 : decode b_C_change 37 = .ok (.iload_n 3, 1) := by decide +kernel
theorem d_C_change_38 : decode b_C_change 38 = .ok (.invokevirtual 79, 3) := by decide +kernel
theorem d_C_change_41 : decode b_C_change 41 = .ok (.ifCond .eq 6, 3) := by decide +kernel
theorem d_C_change_44 : decode b_C_change 44 = .ok (.bipush (-3), 2) := by decide +kernel
theorem d_C_change_46 : decode b_C_change 46 = .ok (.ireturn, 1) := by decide +kernel
theorem d_C_change_47 : decode b_C_change 47 = .ok (.aload 4, 2) := by decide +kernel
theorem d_C_change_49 : decode b_C_change 49 = .ok (.iload_n 2, 1) := by decide +kernel
theorem d_C_change_50 : decode b_C_change 50 = .ok (.iload_n 3, 1) := by decide +kernel
theorem d_C_change_51 : decode b_C_change 51 = .ok (.invokevirtual 82, 3) := by decide +kernel
theorem d_C_change_54 : decode b_C_change 54 = .ok (.ifCond .eq 7, 3) := by decide +kernel
theorem d_C_change_57 : decode b_C_change 57 = .ok (.iconst 1, 1) := by decide +kernel
theorem d_C_change_58 : decode b_C_change 58 = .ok (.goto 5, 3) := by decide +kernel
theorem d_C_change_61 : decode b_C_change 61 = .ok (.bipush (-4), 2) := by decide +kernel
theorem d_C_change_63 : decode b_C_change 63 = .ok (.ireturn, 1) := by decide +kernel
theorem d_C_day_0 : decode b_C_day 0 = .ok (.aload_n 0, 1) := by decide +kernel
theorem d_C_day_1 : decode b_C_day 1 = .ok (.iload_n 1, 1) := by decide +kernel
theorem d_C_day_2 : decode b_C_day 2 = .ok (.invokevirtual 93, 3) := by decide +kernel
theorem d_C_day_5 : decode b_C_day 5 = .ok (.astore_n 3, 1) := by decide +kernel
theorem d_C_day_6 : decode b_C_day 6 = .ok (.aload_n 3, 1) := by decide +kernel
theorem d_C_day_7 : decode b_C_day 7 = .ok (.ifnull 10, 3) := by decide +kernel
theorem d_C_day_10 : decode b_C_day 10 = .ok (.iload_n 2, 1) := by decide +kernel
theorem d_C_day_11 : decode b_C_day 11 = .ok (.invokestatic 75, 3) := by decide +kernel
theorem d_C_day_14 : decode b_C_day 14 = .ok (.ifCond .ne 6, 3) := by decide +kernel
theorem d_C_day_17 : decode b_C_day 17 = .ok (.bipush (-2), 2) := by decide +kernel
theorem d_C_day_19 : decode b_C_day 19 = .ok (.ireturn, 1) := by decide +kernel
theorem d_C_day_20 : decode b_C_day 20 = .ok (.aload_n 3, 1) := by decide +kernel
theorem d_C_day_21 : decode b_C_day 21 = .ok (.invokevirtual 119, 3) := by decide +kernel
theorem d_C_day_24 : decode b_C_day 24 = .ok (.ifCond .eq 8, 3) := by decide +kernel
theorem d_C_day_27 : decode b_C_day 27 = .ok (.bipush (-3), 2) := by decide +kernel
theorem d_C_day_29 : decode b_C_day 29 = .ok (.goto 8, 3) := by decide +kernel
theorem d_C_day_32 : decode b_C_day 32 = .ok (.aload_n 3, 1) := by decide +kernel
theorem d_C_day_33 : decode b_C_day 33 = .ok (.iload_n 2, 1) := by decide +kernel
theorem d_C_day_34 : decode b_C_day 34 = .ok (.invokevirtual 122, 3) := by decide +kernel
theorem d_C_day_37 : decode b_C_day 37 = .ok (.ireturn, 1) := by decide +kernel
theorem d_C_dispose_0 : decode b_C_dispose 0 = .ok (.aload_n 0, 1) := by decide +kernel
theorem d_C_dispose_1 : decode b_C_dispose 1 = .ok (.iload_n 1, 1) := by decide +kernel
theorem d_C_dispose_2 : decode b_C_dispose 2 = .ok (.invokevirtual 93, 3) := by decide +kernel
theorem d_C_dispose_5 : decode b_C_dispose 5 = .ok (.astore 4, 2) := by decide +kernel
theorem d_C_dispose_7 : decode b_C_dispose 7 = .ok (.aload 4, 2) := by decide +kernel
theorem d_C_dispose_9 : decode b_C_dispose 9 = .ok (.ifnonnull 5, 3) := by decide +kernel
theorem d_C_dispose_12 : decode b_C_dispose 12 = .ok (.iconst (-1), 1) := by decide +kernel
theorem d_C_dispose_13 : decode b_C_dispose 13 = .ok (.ireturn, 1) := by decide +kernel
theorem d_C_dispose_14 : decode b_C_dispose 14 = .ok (.iload_n 2, 1) := by decide +kernel
theorem d_C_dispose_15 : decode b_C_dispose 15 = .ok (.ifCond .eq 8, 3) := by decide +kernel
theorem d_C_dispose_18 : decode b_C_dispose 18 = .ok (.iload_n 2, 1) := by decide +kernel
theorem d_C_dispose_19 : decode b_C_dispose 19 = .ok (.iconst 1, 1) := by decide +kernel
theorem d_C_dispose_20 : decode b_C_dispose 20 = .ok (.if_icmp .ne 10, 3) := by decide +kernel
theorem d_C_dispose_23 : decode b_C_dispose 23 = .ok (.iload_n 3, 1) := by decide +kernel
theorem d_C_dispose_24 : decode b_C_dispose 24 = .ok (.invokestatic 75, 3) := by decide +kernel
theorem d_C_dispose_27 : decode b_C_dispose 27 = .ok (.ifCond .ne 6, 3) := by decide +kernel
theorem d_C_dispose_30 : decode b_C_dispose 30 = .ok (.bipush (-2), 2) := by decide +kernel
theorem d_C_dispose_32 : decode b_C_dispose 32 = .ok (.ireturn, 1) := by decide +kernel
theorem d_C_dispose_33 : decode b_C_dispose 33 = .ok (.aload_n 0, 1) := by decide +kernel
theorem d_C_dispose_34 : decode b_C_dispose 34 = .ok (.aload 4, 2) := by decide +kernel
theorem d_C_dispose_36 : decode b_C_dispose 36 = .ok (.iload_n 2, 1) := by decide +kernel
theorem d_C_dispose_37 : decode b_C_dispose 37 = .ok (.iload_n 3, 1) := by decide +kernel
theorem d_C_dispose_38 : decode b_C_dispose 38 = .ok (.invokevirtual 165, 3) := by decide +kernel
theorem d_C_dispose_41 : decode b_C_dispose 41 = .ok (.istore 5, 2) := by decide +kernel
theorem d_C_dispose_43 : decode b_C_dispose 43 = .ok (.iload 5, 2) := by decide +kernel
theorem d_C_dispose_45 : decode b_C_dispose 45 = .ok (.ifCond .eq 9, 3) := by decide +kernel
theorem d_C_dispose_48 : decode b_C_dispose 48 = .ok (.bipush (-10), 2) := by decide +kernel
theorem d_C_dispose_50 : decode b_C_dispose 50 = .ok (.iload 5, 2) := by decide +kernel
theorem d_C_dispose_52 : decode b_C_dispose 52 = .ok (.isub, 1) := by decide +kernel
theorem d_C_dispose_53 : decode b_C_dispose 53 = .ok (.ireturn, 1) := by decide +kernel
theorem d_C_dispose_54 : decode b_C_dispose 54 = .ok (.aload 4, 2) := by decide +kernel
theorem d_C_dispose_56 : decode b_C_dispose 56 = .ok (.iload_n 3, 1) := by decide +kernel
theorem d_C_dispose_57 : decode b_C_dispose 57 = .ok (.invokevirtual 169, 3) := by decide +kernel
theorem d_C_dispose_60 : decode b_C_dispose 60 = .ok (.aload_n 0, 1) := by decide +kernel
theorem d_C_dispose_61 : decode b_C_dispose 61 = .ok (.iload_n 1, 1) := by decide +kernel
theorem d_C_dispose_62 : decode b_C_dispose 62 = .ok (.invokevirtual 172, 3) := by decide +kernel
theorem d_C_dispose_65 : decode b_C_dispose 65 = .ok (.iconst 1, 1) := by decide +kernel
theorem d_C_dispose_66 : decode b_C_dispose 66 = .ok (.ireturn, 1) := by decide +kernel
theorem d_C_due_0 : decode b_C_due 0 = .ok (.iload_n 1, 1) := by decide +kernel
theorem d_C_due_1 : decode b_C_due 1 = .ok (.invokestatic 75, 3) := by decide +kernel
theorem d_C_due_4 : decode b_C_due 4 = .ok (.ifCond .ne 6, 3) := by decide +kernel
theorem d_C_due_7 : decode b_C_due 7 = .ok (.bipush (-2), 2) := by decide +kernel
theorem d_C_due_9 : decode b_C_due 9 = .ok (.ireturn, 1) := by decide +kernel
theorem d_C_due_10 : decode b_C_due 10 = .ok (.aload_n 0, 1) := by decide +kernel
theorem d_C_due_11 : decode b_C_due 11 = .ok (.getfield 32, 3) := by decide +kernel
theorem d_C_due_14 : decode b_C_due 14 = .ok (.invokevirtual 126, 3) := by decide +kernel
theorem d_C_due_17 : decode b_C_due 17 = .ok (.iconst 0, 1) := by decide +kernel
theorem d_C_due_18 : decode b_C_due 18 = .ok (.istore_n 2, 1) := by decide +kernel
theorem d_C_due_19 : decode b_C_due 19 = .ok (.iload_n 2, 1) := by decide +kernel
theorem d_C_due_20 : decode b_C_due 20 = .ok (.aload_n 0, 1) := by decide +kernel
theorem d_C_due_21 : decode b_C_due 21 = .ok (.getfield 24, 3) := by decide +kernel
theorem d_C_due_24 : decode b_C_due 24 = .ok (.arraylength, 1) := by decide +kernel
theorem d_C_due_25 : decode b_C_due 25 = .ok (.if_icmp .ge 46, 3) := by decide +kernel
theorem d_C_due_28 : decode b_C_due 28 = .ok (.aload_n 0, 1) := by decide +kernel
theorem d_C_due_29 : decode b_C_due 29 = .ok (.getfield 24, 3) := by decide +kernel
theorem d_C_due_32 : decode b_C_due 32 = .ok (.iload_n 2, 1) := by decide +kernel
theorem d_C_due_33 : decode b_C_due 33 = .ok (.aaload, 1) := by decide +kernel
theorem d_C_due_34 : decode b_C_due 34 = .ok (.astore_n 3, 1) := by decide +kernel
theorem d_C_due_35 : decode b_C_due 35 = .ok (.aload_n 3, 1) := by decide +kernel
theorem d_C_due_36 : decode b_C_due 36 = .ok (.ifnull 29, 3) := by decide +kernel
theorem d_C_due_39 : decode b_C_due 39 = .ok (.aload_n 3, 1) := by decide +kernel
theorem d_C_due_40 : decode b_C_due 40 = .ok (.iload_n 1, 1) := by decide +kernel
theorem d_C_due_41 : decode b_C_due 41 = .ok (.invokevirtual 127, 3) := by decide +kernel
theorem d_C_due_44 : decode b_C_due 44 = .ok (.ifCond .eq 21, 3) := by decide +kernel
theorem d_C_due_47 : decode b_C_due 47 = .ok (.aload_n 0, 1) := by decide +kernel
theorem d_C_due_48 : decode b_C_due 48 = .ok (.getfield 32, 3) := by decide +kernel
theorem d_C_due_51 : decode b_C_due 51 = .ok (.iload_n 2, 1) := by decide +kernel
theorem d_C_due_52 : decode b_C_due 52 = .ok (.aload_n 3, 1) := by decide +kernel
theorem d_C_due_53 : decode b_C_due 53 = .ok (.iload_n 1, 1) := by decide +kernel
theorem d_C_due_54 : decode b_C_due 54 = .ok (.invokevirtual 122, 3) := by decide +kernel
theorem d_C_due_57 : decode b_C_due 57 = .ok (.aload_n 3, 1) := by decide +kernel
theorem d_C_due_58 : decode b_C_due 58 = .ok (.iload_n 1, 1) := by decide +kernel
theorem d_C_due_59 : decode b_C_due 59 = .ok (.invokevirtual 130, 3) := by decide +kernel
theorem d_C_due_62 : decode b_C_due 62 = .ok (.invokevirtual 133, 3) := by decide +kernel
theorem d_C_due_65 : decode b_C_due 65 = .ok (.iinc 2 1, 3) := by decide +kernel
theorem d_C_due_68 : decode b_C_due 68 = .ok (.goto (-49), 3) := by decide +kernel
theorem d_C_due_71 : decode b_C_due 71 = .ok (.aload_n 0, 1) := by decide +kernel
theorem d_C_due_72 : decode b_C_due 72 = .ok (.getfield 32, 3) := by decide +kernel
theorem d_C_due_75 : decode b_C_due 75 = .ok (.invokevirtual 136, 3) := by decide +kernel
theorem d_C_due_78 : decode b_C_due 78 = .ok (.ireturn, 1) := by decide +kernel
theorem d_C_event_0 : decode b_C_event 0 = .ok (.aload_n 0, 1) := by decide +kernel
theorem d_C_event_1 : decode b_C_event 1 = .ok (.iload_n 1, 1) := by decide +kernel
theorem d_C_event_2 : decode b_C_event 2 = .ok (.invokevirtual 93, 3) := by decide +kernel
theorem d_C_event_5 : decode b_C_event 5 = .ok (.astore 4, 2) := by decide +kernel
theorem d_C_event_7 : decode b_C_event 7 = .ok (.aload 4, 2) := by decide +kernel
theorem d_C_event_9 : decode b_C_event 9 = .ok (.ifnonnull 5, 3) := by decide +kernel
theorem d_C_event_12 : decode b_C_event 12 = .ok (.iconst (-1), 1) := by decide +kernel
theorem d_C_event_13 : decode b_C_event 13 = .ok (.ireturn, 1) := by decide +kernel
theorem d_C_event_14 : decode b_C_event 14 = .ok (.iload_n 2, 1) := by decide +kernel
theorem d_C_event_15 : decode b_C_event 15 = .ok (.ifCond .lt 15, 3) := by decide +kernel
theorem d_C_event_18 : decode b_C_event 18 = .ok (.iload_n 2, 1) := by decide +kernel
theorem d_C_event_19 : decode b_C_event 19 = .ok (.iconst 4, 1) := by decide +kernel
theorem d_C_event_20 : decode b_C_event 20 = .ok (.if_icmp .ge 10, 3) := by decide +kernel
theorem d_C_event_23 : decode b_C_event 23 = .ok (.iload_n 3, 1) := by decide +kernel
theorem d_C_event_24 : decode b_C_event 24 = .ok (.invokestatic 75, 3) := by decide +kernel
theorem d_C_event_27 : decode b_C_event 27 = .ok (.ifCond .ne 6, 3) := by decide +kernel
theorem d_C_event_30 : decode b_C_event 30 = .ok (.bipush (-2), 2) := by decide +kernel
theorem d_C_event_32 : decode b_C_event 32 = .ok (.ireturn, 1) := by decide +kernel
theorem d_C_event_33 : decode b_C_event 33 = .ok (.aload 4, 2) := by decide +kernel
theorem d_C_event_35 : decode b_C_event 35 = .ok (.invokevirtual 97, 3) := by decide +kernel
theorem d_C_event_38 : decode b_C_event 38 = .ok (.ifCond .eq 6, 3) := by decide +kernel
theorem d_C_event_41 : decode b_C_event 41 = .ok (.bipush (-3), 2) := by decide +kernel
theorem d_C_event_43 : decode b_C_event 43 = .ok (.ireturn, 1) := by decide +kernel
theorem d_C_event_44 : decode b_C_event 44 = .ok (.aload 4, 2) := by decide +kernel
theorem d_C_event_46 : decode b_C_event 46 = .ok (.iload_n 2, 1) := by decide +kernel
theorem d_C_event_47 : decode b_C_event 47 = .ok (.iload_n 3, 1) := by decide +kernel
theorem d_C_event_48 : decode b_C_event 48 = .ok (.invokevirtual 100, 3) := by decide +kernel
theorem d_C_event_51 : decode b_C_event 51 = .ok (.iconst 1, 1) := by decide +kernel
theorem d_C_event_52 : decode b_C_event 52 = .ok (.ireturn, 1) := by decide +kernel
theorem d_C_except_0 : decode b_C_except 0 = .ok (.aload_n 0, 1) := by decide +kernel
theorem d_C_except_1 : decode b_C_except 1 = .ok (.iload_n 1, 1) := by decide +kernel
theorem d_C_except_2 : decode b_C_except 2 = .ok (.invokevirtual 93, 3) := by decide +kernel
theorem d_C_except_5 : decode b_C_except 5 = .ok (.astore_n 3, 1) := by decide +kernel
theorem d_C_except_6 : decode b_C_except 6 = .ok (.aload_n 3, 1) := by decide +kernel
theorem d_C_except_7 : decode b_C_except 7 = .ok (.ifnonnull 5, 3) := by decide +kernel
theorem d_C_except_10 : decode b_C_except 10 = .ok (.iconst (-1), 1) := by decide +kernel
theorem d_C_except_11 : decode b_C_except 11 = .ok (.ireturn, 1) := by decide +kernel
theorem d_C_except_12 : decode b_C_except 12 = .ok (.iload_n 2, 1) := by decide +kernel
theorem d_C_except_13 : decode b_C_except 13 = .ok (.invokestatic 75, 3) := by decide +kernel
theorem d_C_except_16 : decode b_C_except 16 = .ok (.ifCond .ne 6, 3) := by decide +kernel
theorem d_C_except_19 : decode b_C_except 19 = .ok (.bipush (-2), 2) := by decide +kernel
theorem d_C_except_21 : decode b_C_except 21 = .ok (.ireturn, 1) := by decide +kernel
theorem d_C_except_22 : decode b_C_except 22 = .ok (.aload_n 3, 1) := by decide +kernel
theorem d_C_except_23 : decode b_C_except 23 = .ok (.iload_n 2, 1) := by decide +kernel
theorem d_C_except_24 : decode b_C_except 24 = .ok (.invokevirtual 116, 3) := by decide +kernel
theorem d_C_except_27 : decode b_C_except 27 = .ok (.iconst 1, 1) := by decide +kernel
theorem d_C_except_28 : decode b_C_except 28 = .ok (.ireturn, 1) := by decide +kernel
theorem d_C_findRule_0 : decode b_C_findRule 0 = .ok (.iload_n 1, 1) := by decide +kernel
theorem d_C_findRule_1 : decode b_C_findRule 1 = .ok (.ifCond .lt 29, 3) := by decide +kernel
theorem d_C_findRule_4 : decode b_C_findRule 4 = .ok (.iload_n 1, 1) := by decide +kernel
theorem d_C_findRule_5 : decode b_C_findRule 5 = .ok (.aload_n 0, 1) := by decide +kernel
theorem d_C_findRule_6 : decode b_C_findRule 6 = .ok (.getfield 55, 3) := by decide +kernel
theorem d_C_findRule_9 : decode b_C_findRule 9 = .ok (.if_icmp .ge 21, 3) := by decide +kernel
theorem d_C_findRule_12 : decode b_C_findRule 12 = .ok (.iload_n 1, 1) := by decide +kernel
theorem d_C_findRule_13 : decode b_C_findRule 13 = .ok (.aload_n 0, 1) := by decide +kernel
theorem d_C_findRule_14 : decode b_C_findRule 14 = .ok (.getfield 18, 3) := by decide +kernel
theorem d_C_findRule_17 : decode b_C_findRule 17 = .ok (.arraylength, 1) := by decide +kernel
theorem d_C_findRule_18 : decode b_C_findRule 18 = .ok (.if_icmp .ge 12, 3) := by decide +kernel
theorem d_C_findRule_21 : decode b_C_findRule 21 = .ok (.aload_n 0, 1) := by decide +kernel
theorem d_C_findRule_22 : decode b_C_findRule 22 = .ok (.getfield 18, 3) := by decide +kernel
theorem d_C_findRule_25 : decode b_C_findRule 25 = .ok (.iload_n 1, 1) := by decide +kernel
theorem d_C_findRule_26 : decode b_C_findRule 26 = .ok (.aaload, 1) := by decide +kernel
theorem d_C_findRule_27 : decode b_C_findRule 27 = .ok (.goto 4, 3) := by decide +kernel
theorem d_C_findRule_30 : decode b_C_findRule 30 = .ok (.aconst_null, 1) := by decide +kernel
theorem d_C_findRule_31 : decode b_C_findRule 31 = .ok (.areturn, 1) := by decide +kernel
theorem d_C_findUnit_0 : decode b_C_findUnit 0 = .ok (.iload_n 1, 1) := by decide +kernel
theorem d_C_findUnit_1 : decode b_C_findUnit 1 = .ok (.ifCond .lt 21, 3) := by decide +kernel
theorem d_C_findUnit_4 : decode b_C_findUnit 4 = .ok (.iload_n 1, 1) := by decide +kernel
theorem d_C_findUnit_5 : decode b_C_findUnit 5 = .ok (.aload_n 0, 1) := by decide +kernel
theorem d_C_findUnit_6 : decode b_C_findUnit 6 = .ok (.getfield 24, 3) := by decide +kernel
theorem d_C_findUnit_9 : decode b_C_findUnit 9 = .ok (.arraylength, 1) := by decide +kernel
theorem d_C_findUnit_10 : decode b_C_findUnit 10 = .ok (.if_icmp .ge 12, 3) := by decide +kernel
theorem d_C_findUnit_13 : decode b_C_findUnit 13 = .ok (.aload_n 0, 1) := by decide +kernel
theorem d_C_findUnit_14 : decode b_C_findUnit 14 = .ok (.getfield 24, 3) := by decide +kernel
theorem d_C_findUnit_17 : decode b_C_findUnit 17 = .ok (.iload_n 1, 1) := by decide +kernel
theorem d_C_findUnit_18 : decode b_C_findUnit 18 = .ok (.aaload, 1) := by decide +kernel
theorem d_C_findUnit_19 : decode b_C_findUnit 19 = .ok (.goto 4, 3) := by decide +kernel
theorem d_C_findUnit_22 : decode b_C_findUnit 22 = .ok (.aconst_null, 1) := by decide +kernel
theorem d_C_findUnit_23 : decode b_C_findUnit 23 = .ok (.areturn, 1) := by decide +kernel
theorem d_C_history_0 : decode b_C_history 0 = .ok (.iload_n 1, 1) := by decide +kernel
theorem d_C_history_1 : decode b_C_history 1 = .ok (.ifCond .lt 20, 3) := by decide +kernel
theorem d_C_history_4 : decode b_C_history 4 = .ok (.iload_n 1, 1) := by decide +kernel
theorem d_C_history_5 : decode b_C_history 5 = .ok (.aload_n 0, 1) := by decide +kernel
theorem d_C_history_6 : decode b_C_history 6 = .ok (.getfield 191, 3) := by decide +kernel
theorem d_C_history_9 : decode b_C_history 9 = .ok (.if_icmp .ge 12, 3) := by decide +kernel
theorem d_C_history_12 : decode b_C_history 12 = .ok (.iload_n 1, 1) := by decide +kernel
theorem d_C_history_13 : decode b_C_history 13 = .ok (.aload_n 0, 1) := by decide +kernel
theorem d_C_history_14 : decode b_C_history 14 = .ok (.getfield 36, 3) := by decide +kernel
theorem d_C_history_17 : decode b_C_history 17 = .ok (.arraylength, 1) := by decide +kernel
theorem d_C_history_18 : decode b_C_history 18 = .ok (.if_icmp .lt 13, 3) := by decide +kernel
theorem d_C_history_21 : decode b_C_history 21 = .ok (.new 142, 3) := by decide +kernel
theorem d_C_history_24 : decode b_C_history 24 = .ok (.dup, 1) := by decide +kernel
theorem d_C_history_25 : decode b_C_history 25 = .ok (.ldc 194, 2) := by decide +kernel
theorem d_C_history_27 : decode b_C_history 27 = .ok (.invokespecial 146, 3) := by decide +kernel
theorem d_C_history_30 : decode b_C_history 30 = .ok (.athrow, 1) := by decide +kernel
theorem d_C_history_31 : decode b_C_history 31 = .ok (.aload_n 0, 1) := by decide +kernel
theorem d_C_history_32 : decode b_C_history 32 = .ok (.getfield 36, 3) := by decide +kernel
theorem d_C_history_35 : decode b_C_history 35 = .ok (.iload_n 1, 1) := by decide +kernel
theorem d_C_history_36 : decode b_C_history 36 = .ok (.iaload, 1) := by decide +kernel
theorem d_C_history_37 : decode b_C_history 37 = .ok (.ireturn, 1) := by decide +kernel
theorem d_C_hold_0 : decode b_C_hold 0 = .ok (.aload_n 0, 1) := by decide +kernel
theorem d_C_hold_1 : decode b_C_hold 1 = .ok (.iload_n 1, 1) := by decide +kernel
theorem d_C_hold_2 : decode b_C_hold 2 = .ok (.invokevirtual 93, 3) := by decide +kernel
theorem d_C_hold_5 : decode b_C_hold 5 = .ok (.astore 4, 2) := by decide +kernel
theorem d_C_hold_7 : decode b_C_hold 7 = .ok (.aload 4, 2) := by decide +kernel
theorem d_C_hold_9 : decode b_C_hold 9 = .ok (.ifnonnull 5, 3) := by decide +kernel
theorem d_C_hold_12 : decode b_C_hold 12 = .ok (.iconst (-1), 1) := by decide +kernel
theorem d_C_hold_13 : decode b_C_hold 13 = .ok (.ireturn, 1) := by decide +kernel
theorem d_C_hold_14 : decode b_C_hold 14 = .ok (.iload_n 2, 1) := by decide +kernel
theorem d_C_hold_15 : decode b_C_hold 15 = .ok (.ifCond .lt 20, 3) := by decide +kernel
theorem d_C_hold_18 : decode b_C_hold 18 = .ok (.iload_n 2, 1) := by decide +kernel
theorem d_C_hold_19 : decode b_C_hold 19 = .ok (.iconst 4, 1) := by decide +kernel
theorem d_C_hold_20 : decode b_C_hold 20 = .ok (.if_icmp .ge 15, 3) := by decide +kernel
theorem d_C_hold_23 : decode b_C_hold 23 = .ok (.iload_n 3, 1) := by decide +kernel
theorem d_C_hold_24 : decode b_C_hold 24 = .ok (.iconst (-1), 1) := by decide +kernel
theorem d_C_hold_25 : decode b_C_hold 25 = .ok (.if_icmp .eq 13, 3) := by decide +kernel
theorem d_C_hold_28 : decode b_C_hold 28 = .ok (.iload_n 3, 1) := by decide +kernel
theorem d_C_hold_29 : decode b_C_hold 29 = .ok (.invokestatic 75, 3) := by decide +kernel
theorem d_C_hold_32 : decode b_C_hold 32 = .ok (.ifCond .ne 6, 3) := by decide +kernel
theorem d_C_hold_35 : decode b_C_hold 35 = .ok (.bipush (-2), 2) := by decide +kernel
theorem d_C_hold_37 : decode b_C_hold 37 = .ok (.ireturn, 1) := by decide +kernel
theorem d_C_hold_38 : decode b_C_hold 38 = .ok (.aload 4, 2) := by decide +kernel
theorem d_C_hold_40 : decode b_C_hold 40 = .ok (.iload_n 2, 1) := by decide +kernel
theorem d_C_hold_41 : decode b_C_hold 41 = .ok (.iload_n 3, 1) := by decide +kernel
theorem d_C_hold_42 : decode b_C_hold 42 = .ok (.invokevirtual 113, 3) := by decide +kernel
theorem d_C_hold_45 : decode b_C_hold 45 = .ok (.iconst 1, 1) := by decide +kernel
theorem d_C_hold_46 : decode b_C_hold 46 = .ok (.ireturn, 1) := by decide +kernel
theorem d_C_init_0 : decode b_C_init 0 = .ok (.aload_n 0, 1) := by decide +kernel
theorem d_C_init_1 : decode b_C_init 1 = .ok (.invokespecial 1, 3) := by decide +kernel
theorem d_C_init_4 : decode b_C_init 4 = .ok (.aload_n 0, 1) := by decide +kernel
theorem d_C_init_5 : decode b_C_init 5 = .ok (.new 7, 3) := by decide +kernel
theorem d_C_init_8 : decode b_C_init 8 = .ok (.dup, 1) := by decide +kernel
theorem d_C_init_9 : decode b_C_init 9 = .ok (.invokespecial 9, 3) := by decide +kernel
theorem d_C_init_12 : decode b_C_init 12 = .ok (.putfield 10, 3) := by decide +kernel
theorem d_C_init_15 : decode b_C_init 15 = .ok (.aload_n 0, 1) := by decide +kernel
theorem d_C_init_16 : decode b_C_init 16 = .ok (.bipush 20, 2) := by decide +kernel
theorem d_C_init_18 : decode b_C_init 18 = .ok (.anewarray 16, 3) := by decide +kernel
theorem d_C_init_21 : decode b_C_init 21 = .ok (.putfield 18, 3) := by decide +kernel
theorem d_C_init_24 : decode b_C_init 24 = .ok (.aload_n 0, 1) := by decide +kernel
theorem d_C_init_25 : decode b_C_init 25 = .ok (.bipush 60, 2) := by decide +kernel
theorem d_C_init_27 : decode b_C_init 27 = .ok (.anewarray 22, 3) := by decide +kernel
theorem d_C_init_30 : decode b_C_init 30 = .ok (.putfield 24, 3) := by decide +kernel
theorem d_C_init_33 : decode b_C_init 33 = .ok (.iconst 0, 1) := by decide +kernel
theorem d_C_init_34 : decode b_C_init 34 = .ok (.istore_n 1, 1) := by decide +kernel
theorem d_C_init_35 : decode b_C_init 35 = .ok (.iload_n 1, 1) := by decide +kernel
theorem d_C_init_36 : decode b_C_init 36 = .ok (.aload_n 0, 1) := by decide +kernel
theorem d_C_init_37 : decode b_C_init 37 = .ok (.getfield 24, 3) := by decide +kernel
theorem d_C_init_40 : decode b_C_init 40 = .ok (.arraylength, 1) := by decide +kernel
theorem d_C_init_41 : decode b_C_init 41 = .ok (.if_icmp .ge 22, 3) := by decide +kernel
theorem d_C_init_44 : decode b_C_init 44 = .ok (.aload_n 0, 1) := by decide +kernel
theorem d_C_init_45 : decode b_C_init 45 = .ok (.getfield 24, 3) := by decide +kernel
theorem d_C_init_48 : decode b_C_init 48 = .ok (.iload_n 1, 1) := by decide +kernel
theorem d_C_init_49 : decode b_C_init 49 = .ok (.new 22, 3) := by decide +kernel
theorem d_C_init_52 : decode b_C_init 52 = .ok (.dup, 1) := by decide +kernel
theorem d_C_init_53 : decode b_C_init 53 = .ok (.invokespecial 28, 3) := by decide +kernel
theorem d_C_init_56 : decode b_C_init 56 = .ok (.aastore, 1) := by decide +kernel
theorem d_C_init_57 : decode b_C_init 57 = .ok (.iinc 1 1, 3) := by decide +kernel
theorem d_C_init_60 : decode b_C_init 60 = .ok (.goto (-25), 3) := by decide +kernel
theorem d_C_init_63 : decode b_C_init 63 = .ok (.aload_n 0, 1) := by decide +kernel
theorem d_C_init_64 : decode b_C_init 64 = .ok (.new 29, 3) := by decide +kernel
theorem d_C_init_67 : decode b_C_init 67 = .ok (.dup, 1) := by decide +kernel
theorem d_C_init_68 : decode b_C_init 68 = .ok (.invokespecial 31, 3) := by decide +kernel
theorem d_C_init_71 : decode b_C_init 71 = .ok (.putfield 32, 3) := by decide +kernel
theorem d_C_init_74 : decode b_C_init 74 = .ok (.aload_n 0, 1) := by decide +kernel
theorem d_C_init_75 : decode b_C_init 75 = .ok (.bipush 60, 2) := by decide +kernel
theorem d_C_init_77 : decode b_C_init 77 = .ok (.newarray .int, 2) := by decide +kernel
theorem d_C_init_79 : decode b_C_init 79 = .ok (.putfield 36, 3) := by decide +kernel
theorem d_C_init_82 : decode b_C_init 82 = .ok (.return_, 1) := by decide +kernel
theorem d_C_isCertificateMissing_0 : decode b_C_isCertificateMissing 0 = .ok (.aload_n 0, 1) := by decide +kernel
theorem d_C_isCertificateMissing_1 : decode b_C_isCertificateMissing 1 = .ok (.getfield 191, 3) := by decide +kernel
theorem d_C_isCertificateMissing_4 : decode b_C_isCertificateMissing 4 = .ok (.iconst 1, 1) := by decide +kernel
theorem d_C_isCertificateMissing_5 : decode b_C_isCertificateMissing 5 = .ok (.isub, 1) := by decide +kernel
theorem d_C_isCertificateMissing_6 : decode b_C_isCertificateMissing 6 = .ok (.istore_n 1, 1) := by decide +kernel
theorem d_C_isCertificateMissing_7 : decode b_C_isCertificateMissing 7 = .ok (.iload_n 1, 1) := by decide +kernel
theorem d_C_isCertificateMissing_8 : decode b_C_isCertificateMissing 8 = .ok (.ifCond .lt 12, 3) := by decide +kernel
theorem d_C_isCertificateMissing_11 : decode b_C_isCertificateMissing 11 = .ok (.iload_n 1, 1) := by decide +kernel
theorem d_C_isCertificateMissing_12 : decode b_C_isCertificateMissing 12 = .ok (.aload_n 0, 1) := by decide +kernel
theorem d_C_isCertificateMissing_13 : decode b_C_isCertificateMissing 13 = .ok (.getfield 36, 3) := by decide +kernel
theorem d_C_isCertificateMissing_16 : decode b_C_isCertificateMissing 16 = .ok (.arraylength, 1) := by decide +kernel
theorem d_C_isCertificateMissing_17 : decode b_C_isCertificateMissing 17 = .ok (.if_icmp .lt 5, 3) := by decide +kernel
theorem d_C_isCertificateMissing_20 : decode b_C_isCertificateMissing 20 = .ok (.iconst 0, 1) := by decide +kernel
theorem d_C_isCertificateMissing_21 : decode b_C_isCertificateMissing 21 = .ok (.ireturn, 1) := by decide +kernel
theorem d_C_isCertificateMissing_22 : decode b_C_isCertificateMissing 22 = .ok (.aload_n 0, 1) := by decide +kernel
theorem d_C_isCertificateMissing_23 : decode b_C_isCertificateMissing 23 = .ok (.aload_n 0, 1) := by decide +kernel
theorem d_C_isCertificateMissing_24 : decode b_C_isCertificateMissing 24 = .ok (.getfield 36, 3) := by decide +kernel
theorem d_C_isCertificateMissing_27 : decode b_C_isCertificateMissing 27 = .ok (.iload_n 1, 1) := by decide +kernel
theorem d_C_isCertificateMissing_28 : decode b_C_isCertificateMissing 28 = .ok (.iaload, 1) := by decide +kernel
theorem d_C_isCertificateMissing_29 : decode b_C_isCertificateMissing 29 = .ok (.invokevirtual 93, 3) := by decide +kernel
theorem d_C_isCertificateMissing_32 : decode b_C_isCertificateMissing 32 = .ok (.astore_n 2, 1) := by decide +kernel
theorem d_C_isCertificateMissing_33 : decode b_C_isCertificateMissing 33 = .ok (.aload_n 2, 1) := by decide +kernel
theorem d_C_isCertificateMissing_34 : decode b_C_isCertificateMissing 34 = .ok (.ifnull 14, 3) := by decide +kernel
theorem d_C_isCertificateMissing_37 : decode b_C_isCertificateMissing 37 = .ok (.aload_n 2, 1) := by decide +kernel
theorem d_C_isCertificateMissing_38 : decode b_C_isCertificateMissing 38 = .ok (.invokevirtual 176, 3) := by decide +kernel
theorem d_C_isCertificateMissing_41 : decode b_C_isCertificateMissing 41 = .ok (.ifCond .ne 7, 3) := by decide +kernel
theorem d_C_isCertificateMissing_44 : decode b_C_isCertificateMissing 44 = .ok (.iconst 1, 1) := by decide +kernel
theorem d_C_isCertificateMissing_45 : decode b_C_isCertificateMissing 45 = .ok (.goto 4, 3) := by decide +kernel
theorem d_C_isCertificateMissing_48 : decode b_C_isCertificateMissing 48 = .ok (.iconst 0, 1) := by decide +kernel
theorem d_C_isCertificateMissing_49 : decode b_C_isCertificateMissing 49 = .ok (.ireturn, 1) := by decide +kernel
theorem d_C_isDay_0 : decode b_C_isDay 0 = .ok (.iload_n 0, 1) := by decide +kernel
theorem d_C_isDay_1 : decode b_C_isDay 1 = .ok (.ifCond .lt 13, 3) := by decide +kernel
theorem d_C_isDay_4 : decode b_C_isDay 4 = .ok (.iload_n 0, 1) := by decide +kernel
theorem d_C_isDay_5 : decode b_C_isDay 5 = .ok (.ldc 175, 2) := by decide +kernel
theorem d_C_isDay_7 : decode b_C_isDay 7 = .ok (.if_icmp .gt 7, 3) := by decide +kernel
theorem d_C_isDay_10 : decode b_C_isDay 10 = .ok (.iconst 1, 1) := by decide +kernel
theorem d_C_isDay_11 : decode b_C_isDay 11 = .ok (.goto 4, 3) := by decide +kernel
theorem d_C_isDay_14 : decode b_C_isDay 14 = .ok (.iconst 0, 1) := by decide +kernel
theorem d_C_isDay_15 : decode b_C_isDay 15 = .ok (.ireturn, 1) := by decide +kernel
theorem d_C_keepDisposed_0 : decode b_C_keepDisposed 0 = .ok (.aload_n 0, 1) := by decide +kernel
theorem d_C_keepDisposed_1 : decode b_C_keepDisposed 1 = .ok (.getfield 191, 3) := by decide +kernel
theorem d_C_keepDisposed_4 : decode b_C_keepDisposed 4 = .ok (.ifCond .lt 35, 3) := by decide +kernel
theorem d_C_keepDisposed_7 : decode b_C_keepDisposed 7 = .ok (.aload_n 0, 1) := by decide +kernel
theorem d_C_keepDisposed_8 : decode b_C_keepDisposed 8 = .ok (.getfield 191, 3) := by decide +kernel
theorem d_C_keepDisposed_11 : decode b_C_keepDisposed 11 = .ok (.aload_n 0, 1) := by decide +kernel
theorem d_C_keepDisposed_12 : decode b_C_keepDisposed 12 = .ok (.getfield 36, 3) := by decide +kernel
theorem d_C_keepDisposed_15 : decode b_C_keepDisposed 15 = .ok (.arraylength, 1) := by decide +kernel
theorem d_C_keepDisposed_16 : decode b_C_keepDisposed 16 = .ok (.if_icmp .ge 23, 3) := by decide +kernel
theorem d_C_keepDisposed_19 : decode b_C_keepDisposed 19 = .ok (.aload_n 0, 1) := by decide +kernel
theorem d_C_keepDisposed_20 : decode b_C_keepDisposed 20 = .ok (.getfield 36, 3) := by decide +kernel
theorem d_C_keepDisposed_23 : decode b_C_keepDisposed 23 = .ok (.aload_n 0, 1) := by decide +kernel
theorem d_C_keepDisposed_24 : decode b_C_keepDisposed 24 = .ok (.getfield 191, 3) := by decide +kernel
theorem d_C_keepDisposed_27 : decode b_C_keepDisposed 27 = .ok (.iload_n 1, 1) := by decide +kernel
theorem d_C_keepDisposed_28 : decode b_C_keepDisposed 28 = .ok (.iastore, 1) := by decide +kernel
theorem d_C_keepDisposed_29 : decode b_C_keepDisposed 29 = .ok (.aload_n 0, 1) := by decide +kernel
theorem d_C_keepDisposed_30 : decode b_C_keepDisposed 30 = .ok (.dup, 1) := by decide +kernel
theorem d_C_keepDisposed_31 : decode b_C_keepDisposed 31 = .ok (.getfield 191, 3) := by decide +kernel
theorem d_C_keepDisposed_34 : decode b_C_keepDisposed 34 = .ok (.iconst 1, 1) := by decide +kernel
theorem d_C_keepDisposed_35 : decode b_C_keepDisposed 35 = .ok (.iadd, 1) := by decide +kernel
theorem d_C_keepDisposed_36 : decode b_C_keepDisposed 36 = .ok (.putfield 191, 3) := by decide +kernel
theorem d_C_keepDisposed_39 : decode b_C_keepDisposed 39 = .ok (.return_, 1) := by decide +kernel
theorem d_C_obstacleTo_0 : decode b_C_obstacleTo 0 = .ok (.aload_n 1, 1) := by decide +kernel
theorem d_C_obstacleTo_1 : decode b_C_obstacleTo 1 = .ok (.invokevirtual 97, 3) := by decide +kernel
theorem d_C_obstacleTo_4 : decode b_C_obstacleTo 4 = .ok (.ifCond .eq 5, 3) := by decide +kernel
theorem d_C_obstacleTo_7 : decode b_C_obstacleTo 7 = .ok (.iconst 1, 1) := by decide +kernel
theorem d_C_obstacleTo_8 : decode b_C_obstacleTo 8 = .ok (.ireturn, 1) := by decide +kernel
theorem d_C_obstacleTo_9 : decode b_C_obstacleTo 9 = .ok (.aload_n 0, 1) := by decide +kernel
theorem d_C_obstacleTo_10 : decode b_C_obstacleTo 10 = .ok (.invokevirtual 196, 3) := by decide +kernel
theorem d_C_obstacleTo_13 : decode b_C_obstacleTo 13 = .ok (.ifCond .eq 5, 3) := by decide +kernel
theorem d_C_obstacleTo_16 : decode b_C_obstacleTo 16 = .ok (.iconst 2, 1) := by decide +kernel
theorem d_C_obstacleTo_17 : decode b_C_obstacleTo 17 = .ok (.ireturn, 1) := by decide +kernel
theorem d_C_obstacleTo_18 : decode b_C_obstacleTo 18 = .ok (.aload_n 1, 1) := by decide +kernel
theorem d_C_obstacleTo_19 : decode b_C_obstacleTo 19 = .ok (.invokevirtual 119, 3) := by decide +kernel
theorem d_C_obstacleTo_22 : decode b_C_obstacleTo 22 = .ok (.ifCond .eq 5, 3) := by decide +kernel
theorem d_C_obstacleTo_25 : decode b_C_obstacleTo 25 = .ok (.iconst 3, 1) := by decide +kernel
theorem d_C_obstacleTo_26 : decode b_C_obstacleTo 26 = .ok (.ireturn, 1) := by decide +kernel
theorem d_C_obstacleTo_27 : decode b_C_obstacleTo 27 = .ok (.aload_n 1, 1) := by decide +kernel
theorem d_C_obstacleTo_28 : decode b_C_obstacleTo 28 = .ok (.iload_n 3, 1) := by decide +kernel
theorem d_C_obstacleTo_29 : decode b_C_obstacleTo 29 = .ok (.invokevirtual 127, 3) := by decide +kernel
theorem d_C_obstacleTo_32 : decode b_C_obstacleTo 32 = .ok (.ifCond .ne 5, 3) := by decide +kernel
theorem d_C_obstacleTo_35 : decode b_C_obstacleTo 35 = .ok (.iconst 4, 1) := by decide +kernel
theorem d_C_obstacleTo_36 : decode b_C_obstacleTo 36 = .ok (.ireturn, 1) := by decide +kernel
theorem d_C_obstacleTo_37 : decode b_C_obstacleTo 37 = .ok (.aload_n 1, 1) := by decide +kernel
theorem d_C_obstacleTo_38 : decode b_C_obstacleTo 38 = .ok (.iload_n 3, 1) := by decide +kernel
theorem d_C_obstacleTo_39 : decode b_C_obstacleTo 39 = .ok (.invokevirtual 199, 3) := by decide +kernel
theorem d_C_obstacleTo_42 : decode b_C_obstacleTo 42 = .ok (.ifCond .eq 5, 3) := by decide +kernel
theorem d_C_obstacleTo_45 : decode b_C_obstacleTo 45 = .ok (.iconst 5, 1) := by decide +kernel
theorem d_C_obstacleTo_46 : decode b_C_obstacleTo 46 = .ok (.ireturn, 1) := by decide +kernel
theorem d_C_obstacleTo_47 : decode b_C_obstacleTo 47 = .ok (.aload_n 1, 1) := by decide +kernel
theorem d_C_obstacleTo_48 : decode b_C_obstacleTo 48 = .ok (.invokevirtual 153, 3) := by decide +kernel
theorem d_C_obstacleTo_51 : decode b_C_obstacleTo 51 = .ok (.ifCond .ne 6, 3) := by decide +kernel
theorem d_C_obstacleTo_54 : decode b_C_obstacleTo 54 = .ok (.bipush 6, 2) := by decide +kernel
theorem d_C_obstacleTo_56 : decode b_C_obstacleTo 56 = .ok (.ireturn, 1) := by decide +kernel
theorem d_C_obstacleTo_57 : decode b_C_obstacleTo 57 = .ok (.aload_n 1, 1) := by decide +kernel
theorem d_C_obstacleTo_58 : decode b_C_obstacleTo 58 = .ok (.iload_n 3, 1) := by decide +kernel
theorem d_C_obstacleTo_59 : decode b_C_obstacleTo 59 = .ok (.invokevirtual 130, 3) := by decide +kernel
theorem d_C_obstacleTo_62 : decode b_C_obstacleTo 62 = .ok (.iload_n 2, 1) := by decide +kernel
theorem d_C_obstacleTo_63 : decode b_C_obstacleTo 63 = .ok (.if_icmp .ne 7, 3) := by decide +kernel
theorem d_C_obstacleTo_66 : decode b_C_obstacleTo 66 = .ok (.iconst 0, 1) := by decide +kernel
theorem d_C_obstacleTo_67 : decode b_C_obstacleTo 67 = .ok (.goto 5, 3) := by decide +kernel
theorem d_C_obstacleTo_70 : decode b_C_obstacleTo 70 = .ok (.bipush 7, 2) := by decide +kernel
theorem d_C_obstacleTo_72 : decode b_C_obstacleTo 72 = .ok (.ireturn, 1) := by decide +kernel
theorem d_C_rule_0 : decode b_C_rule 0 = .ok (.aload_n 0, 1) := by decide +kernel
theorem d_C_rule_1 : decode b_C_rule 1 = .ok (.getfield 10, 3) := by decide +kernel
theorem d_C_rule_4 : decode b_C_rule 4 = .ok (.invokevirtual 44, 3) := by decide +kernel
theorem d_C_rule_7 : decode b_C_rule 7 = .ok (.istore_n 1, 1) := by decide +kernel
theorem d_C_rule_8 : decode b_C_rule 8 = .ok (.aload_n 0, 1) := by decide +kernel
theorem d_C_rule_9 : decode b_C_rule 9 = .ok (.getfield 10, 3) := by decide +kernel
theorem d_C_rule_12 : decode b_C_rule 12 = .ok (.invokevirtual 48, 3) := by decide +kernel
theorem d_C_rule_15 : decode b_C_rule 15 = .ok (.iload_n 1, 1) := by decide +kernel
theorem d_C_rule_16 : decode b_C_rule 16 = .ok (.ifCond .ne 14, 3) := by decide +kernel
theorem d_C_rule_19 : decode b_C_rule 19 = .ok (.bipush (-10), 2) := by decide +kernel
theorem d_C_rule_21 : decode b_C_rule 21 = .ok (.aload_n 0, 1) := by decide +kernel
theorem d_C_rule_22 : decode b_C_rule 22 = .ok (.getfield 10, 3) := by decide +kernel
theorem d_C_rule_25 : decode b_C_rule 25 = .ok (.invokevirtual 51, 3) := by decide +kernel
theorem d_C_rule_28 : decode b_C_rule 28 = .ok (.isub, 1) := by decide +kernel
theorem d_C_rule_29 : decode b_C_rule 29 = .ok (.ireturn, 1) := by decide +kernel
theorem d_C_rule_30 : decode b_C_rule 30 = .ok (.aload_n 0, 1) := by decide +kernel
theorem d_C_rule_31 : decode b_C_rule 31 = .ok (.getfield 55, 3) := by decide +kernel
theorem d_C_rule_34 : decode b_C_rule 34 = .ok (.ifCond .lt 15, 3) := by decide +kernel
theorem d_C_rule_37 : decode b_C_rule 37 = .ok (.aload_n 0, 1) := by decide +kernel
theorem d_C_rule_38 : decode b_C_rule 38 = .ok (.getfield 55, 3) := by decide +kernel
theorem d_C_rule_41 : decode b_C_rule 41 = .ok (.aload_n 0, 1) := by decide +kernel
theorem d_C_rule_42 : decode b_C_rule 42 = .ok (.getfield 18, 3) := by decide +kernel
theorem d_C_rule_45 : decode b_C_rule 45 = .ok (.arraylength, 1) := by decide +kernel
theorem d_C_rule_46 : decode b_C_rule 46 = .ok (.if_icmp .lt 6, 3) := by decide +kernel
theorem d_C_rule_49 : decode b_C_rule 49 = .ok (.bipush (-4), 2) := by decide +kernel
theorem d_C_rule_51 : decode b_C_rule 51 = .ok (.ireturn, 1) := by decide +kernel
theorem d_C_rule_52 : decode b_C_rule 52 = .ok (.aload_n 0, 1) := by decide +kernel
theorem d_C_rule_53 : decode b_C_rule 53 = .ok (.getfield 18, 3) := by decide +kernel
theorem d_C_rule_56 : decode b_C_rule 56 = .ok (.aload_n 0, 1) := by decide +kernel
theorem d_C_rule_57 : decode b_C_rule 57 = .ok (.getfield 55, 3) := by decide +kernel
theorem d_C_rule_60 : decode b_C_rule 60 = .ok (.new 16, 3) := by decide +kernel
theorem d_C_rule_63 : decode b_C_rule 63 = .ok (.dup, 1) := by decide +kernel
theorem d_C_rule_64 : decode b_C_rule 64 = .ok (.aload_n 0, 1) := by decide +kernel
theorem d_C_rule_65 : decode b_C_rule 65 = .ok (.getfield 10, 3) := by decide +kernel
theorem d_C_rule_68 : decode b_C_rule 68 = .ok (.invokevirtual 59, 3) := by decide +kernel
theorem d_C_rule_71 : decode b_C_rule 71 = .ok (.aload_n 0, 1) := by decide +kernel
theorem d_C_rule_72 : decode b_C_rule 72 = .ok (.getfield 10, 3) := by decide +kernel
theorem d_C_rule_75 : decode b_C_rule 75 = .ok (.invokevirtual 62, 3) := by decide +kernel
theorem d_C_rule_78 : decode b_C_rule 78 = .ok (.aload_n 0, 1) := by decide +kernel
theorem d_C_rule_79 : decode b_C_rule 79 = .ok (.getfield 10, 3) := by decide +kernel
theorem d_C_rule_82 : decode b_C_rule 82 = .ok (.invokevirtual 65, 3) := by decide +kernel
theorem d_C_rule_85 : decode b_C_rule 85 = .ok (.invokespecial 68, 3) := by decide +kernel
theorem d_C_rule_88 : decode b_C_rule 88 = .ok (.aastore, 1) := by decide +kernel
theorem d_C_rule_89 : decode b_C_rule 89 = .ok (.aload_n 0, 1) := by decide +kernel
theorem d_C_rule_90 : decode b_C_rule 90 = .ok (.dup, 1) := by decide +kernel
theorem d_C_rule_91 : decode b_C_rule 91 = .ok (.getfield 55, 3) := by decide +kernel
theorem d_C_rule_94 : decode b_C_rule 94 = .ok (.iconst 1, 1) := by decide +kernel
theorem d_C_rule_95 : decode b_C_rule 95 = .ok (.iadd, 1) := by decide +kernel
theorem d_C_rule_96 : decode b_C_rule 96 = .ok (.putfield 55, 3) := by decide +kernel
theorem d_C_rule_99 : decode b_C_rule 99 = .ok (.aload_n 0, 1) := by decide +kernel
theorem d_C_rule_100 : decode b_C_rule 100 = .ok (.getfield 55, 3) := by decide +kernel
theorem d_C_rule_103 : decode b_C_rule 103 = .ok (.iconst 1, 1) := by decide +kernel
theorem d_C_rule_104 : decode b_C_rule 104 = .ok (.isub, 1) := by decide +kernel
theorem d_C_rule_105 : decode b_C_rule 105 = .ok (.ireturn, 1) := by decide +kernel
theorem d_C_schedule_0 : decode b_C_schedule 0 = .ok (.aload_n 0, 1) := by decide +kernel
theorem d_C_schedule_1 : decode b_C_schedule 1 = .ok (.iload_n 1, 1) := by decide +kernel
theorem d_C_schedule_2 : decode b_C_schedule 2 = .ok (.invokevirtual 93, 3) := by decide +kernel
theorem d_C_schedule_5 : decode b_C_schedule 5 = .ok (.astore_n 3, 1) := by decide +kernel
theorem d_C_schedule_6 : decode b_C_schedule 6 = .ok (.aload_n 0, 1) := by decide +kernel
theorem d_C_schedule_7 : decode b_C_schedule 7 = .ok (.iload_n 2, 1) := by decide +kernel
theorem d_C_schedule_8 : decode b_C_schedule 8 = .ok (.invokevirtual 71, 3) := by decide +kernel
theorem d_C_schedule_11 : decode b_C_schedule 11 = .ok (.astore 4, 2) := by decide +kernel
theorem d_C_schedule_13 : decode b_C_schedule 13 = .ok (.aload_n 3, 1) := by decide +kernel
theorem d_C_schedule_14 : decode b_C_schedule 14 = .ok (.ifnull 8, 3) := by decide +kernel
theorem d_C_schedule_17 : decode b_C_schedule 17 = .ok (.aload 4, 2) := by decide +kernel
theorem d_C_schedule_19 : decode b_C_schedule 19 = .ok (.ifnonnull 5, 3) := by decide +kernel
theorem d_C_schedule_22 : decode b_C_schedule 22 = .ok (.iconst (-1), 1) := by decide +kernel
theorem d_C_schedule_23 : decode b_C_schedule 23 = .ok (.ireturn, 1) := by decide +kernel
theorem d_C_schedule_24 : decode b_C_schedule 24 = .ok (.aload_n 3, 1) := by decide +kernel
theorem d_C_schedule_25 : decode b_C_schedule 25 = .ok (.invokevirtual 97, 3) := by decide +kernel
theorem d_C_schedule_28 : decode b_C_schedule 28 = .ok (.ifCond .ne 12, 3) := by decide +kernel
theorem d_C_schedule_31 : decode b_C_schedule 31 = .ok (.aload_n 3, 1) := by decide +kernel
theorem d_C_schedule_32 : decode b_C_schedule 32 = .ok (.aload 4, 2) := by decide +kernel
theorem d_C_schedule_34 : decode b_C_schedule 34 = .ok (.invokevirtual 104, 3) := by decide +kernel
theorem d_C_schedule_37 : decode b_C_schedule 37 = .ok (.ifCond .eq 6, 3) := by decide +kernel
theorem d_C_schedule_40 : decode b_C_schedule 40 = .ok (.bipush (-3), 2) := by decide +kernel
theorem d_C_schedule_42 : decode b_C_schedule 42 = .ok (.ireturn, 1) := by decide +kernel
theorem d_C_schedule_43 : decode b_C_schedule 43 = .ok (.aload_n 3, 1) := by decide +kernel
theorem d_C_schedule_44 : decode b_C_schedule 44 = .ok (.aload 4, 2) := by decide +kernel
theorem d_C_schedule_46 : decode b_C_schedule 46 = .ok (.invokevirtual 108, 3) := by decide +kernel
theorem d_C_schedule_49 : decode b_C_schedule 49 = .ok (.ifCond .eq 10, 3) := by decide +kernel
theorem d_C_schedule_52 : decode b_C_schedule 52 = .ok (.aload_n 3, 1) := by decide +kernel
theorem d_C_schedule_53 : decode b_C_schedule 53 = .ok (.invokevirtual 111, 3) := by decide +kernel
theorem d_C_schedule_56 : decode b_C_schedule 56 = .ok (.goto 5, 3) := by decide +kernel
theorem d_C_schedule_59 : decode b_C_schedule 59 = .ok (.bipush (-4), 2) := by decide +kernel
theorem d_C_schedule_61 : decode b_C_schedule 61 = .ok (.ireturn, 1) := by decide +kernel
theorem d_C_sign_0 : decode b_C_sign 0 = .ok (.aload_n 0, 1) := by decide +kernel
theorem d_C_sign_1 : decode b_C_sign 1 = .ok (.getfield 10, 3) := by decide +kernel
theorem d_C_sign_4 : decode b_C_sign 4 = .ok (.iload_n 1, 1) := by decide +kernel
theorem d_C_sign_5 : decode b_C_sign 5 = .ok (.invokevirtual 40, 3) := by decide +kernel
theorem d_C_sign_8 : decode b_C_sign 8 = .ok (.return_, 1) := by decide +kernel
theorem d_J_charAt_0 : decode b_J_charAt 0 = .ok (.iload_n 1, 1) := by decide +kernel
theorem d_J_charAt_1 : decode b_J_charAt 1 = .ok (.aload_n 0, 1) := by decide +kernel
theorem d_J_charAt_2 : decode b_J_charAt 2 = .ok (.arraylength, 1) := by decide +kernel
theorem d_J_charAt_3 : decode b_J_charAt 3 = .ok (.invokestatic 9, 3) := by decide +kernel
theorem d_J_charAt_6 : decode b_J_charAt 6 = .ok (.aload_n 0, 1) := by decide +kernel
theorem d_J_charAt_7 : decode b_J_charAt 7 = .ok (.iload_n 1, 1) := by decide +kernel
theorem d_J_charAt_8 : decode b_J_charAt 8 = .ok (.baload, 1) := by decide +kernel
theorem d_J_charAt_9 : decode b_J_charAt 9 = .ok (.sipush 255, 3) := by decide +kernel
theorem d_J_charAt_12 : decode b_J_charAt 12 = .ok (.iand, 1) := by decide +kernel
theorem d_J_charAt_13 : decode b_J_charAt 13 = .ok (.i2c, 1) := by decide +kernel
theorem d_J_charAt_14 : decode b_J_charAt 14 = .ok (.ireturn, 1) := by decide +kernel
theorem d_L_clear_0 : decode b_L_clear 0 = .ok (.aload_n 0, 1) := by decide +kernel
theorem d_L_clear_1 : decode b_L_clear 1 = .ok (.iconst 0, 1) := by decide +kernel
theorem d_L_clear_2 : decode b_L_clear 2 = .ok (.putfield 21, 3) := by decide +kernel
theorem d_L_clear_5 : decode b_L_clear 5 = .ok (.return_, 1) := by decide +kernel
theorem d_L_has_0 : decode b_L_has 0 = .ok (.iload_n 1, 1) := by decide +kernel
theorem d_L_has_1 : decode b_L_has 1 = .ok (.ifCond .lt 15, 3) := by decide +kernel
theorem d_L_has_4 : decode b_L_has 4 = .ok (.iload_n 1, 1) := by decide +kernel
theorem d_L_has_5 : decode b_L_has 5 = .ok (.aload_n 0, 1) := by decide +kernel
theorem d_L_has_6 : decode b_L_has 6 = .ok (.getfield 21, 3) := by decide +kernel
theorem d_L_has_9 : decode b_L_has 9 = .ok (.if_icmp .ge 7, 3) := by decide +kernel
theorem d_L_has_12 : decode b_L_has 12 = .ok (.iconst 1, 1) := by decide +kernel
theorem d_L_has_13 : decode b_L_has 13 = .ok (.goto 4, 3) := by decide +kernel
theorem d_L_has_16 : decode b_L_has 16 = .ok (.iconst 0, 1) := by decide +kernel
theorem d_L_has_17 : decode b_L_has 17 = .ok (.ireturn, 1) := by decide +kernel
theorem d_L_init_0 : decode b_L_init 0 = .ok (.aload_n 0, 1) := by decide +kernel
theorem d_L_init_1 : decode b_L_init 1 = .ok (.invokespecial 3, 3) := by decide +kernel
theorem d_L_init_4 : decode b_L_init 4 = .ok (.aload_n 0, 1) := by decide +kernel
theorem d_L_init_5 : decode b_L_init 5 = .ok (.bipush 60, 2) := by decide +kernel
theorem d_L_init_7 : decode b_L_init 7 = .ok (.newarray .int, 2) := by decide +kernel
theorem d_L_init_9 : decode b_L_init 9 = .ok (.putfield 9, 3) := by decide +kernel
theorem d_L_init_12 : decode b_L_init 12 = .ok (.aload_n 0, 1) := by decide +kernel
theorem d_L_init_13 : decode b_L_init 13 = .ok (.bipush 60, 2) := by decide +kernel
theorem d_L_init_15 : decode b_L_init 15 = .ok (.newarray .int, 2) := by decide +kernel
theorem d_L_init_17 : decode b_L_init 17 = .ok (.putfield 15, 3) := by decide +kernel
theorem d_L_init_20 : decode b_L_init 20 = .ok (.aload_n 0, 1) := by decide +kernel
theorem d_L_init_21 : decode b_L_init 21 = .ok (.bipush 60, 2) := by decide +kernel
theorem d_L_init_23 : decode b_L_init 23 = .ok (.newarray .int, 2) := by decide +kernel
theorem d_L_init_25 : decode b_L_init 25 = .ok (.putfield 18, 3) := by decide +kernel
theorem d_L_init_28 : decode b_L_init 28 = .ok (.return_, 1) := by decide +kernel
theorem d_L_insert_0 : decode b_L_insert 0 = .ok (.aload_n 0, 1) := by decide +kernel
theorem d_L_insert_1 : decode b_L_insert 1 = .ok (.getfield 21, 3) := by decide +kernel
theorem d_L_insert_4 : decode b_L_insert 4 = .ok (.ifCond .lt 12, 3) := by decide +kernel
theorem d_L_insert_7 : decode b_L_insert 7 = .ok (.aload_n 0, 1) := by decide +kernel
theorem d_L_insert_8 : decode b_L_insert 8 = .ok (.getfield 21, 3) := by decide +kernel
theorem d_L_insert_11 : decode b_L_insert 11 = .ok (.bipush 60, 2) := by decide +kernel
theorem d_L_insert_13 : decode b_L_insert 13 = .ok (.if_icmp .lt 4, 3) := by decide +kernel
theorem d_L_insert_16 : decode b_L_insert 16 = .ok (.return_, 1) := by decide +kernel
theorem d_L_insert_17 : decode b_L_insert 17 = .ok (.aload_n 0, 1) := by decide +kernel
theorem d_L_insert_18 : decode b_L_insert 18 = .ok (.getfield 21, 3) := by decide +kernel
theorem d_L_insert_21 : decode b_L_insert 21 = .ok (.istore 4, 2) := by decide +kernel
theorem d_L_insert_23 : decode b_L_insert 23 = .ok (.iload 4, 2) := by decide +kernel
theorem d_L_insert_25 : decode b_L_insert 25 = .ok (.ifCond .le 55, 3) := by decide +kernel
theorem d_L_insert_28 : decode b_L_insert 28 = .ok (.aload_n 0, 1) := by decide +kernel
theorem d_L_insert_29 : decode b_L_insert 29 = .ok (.getfield 15, 3) := by decide +kernel
theorem d_L_insert_32 : decode b_L_insert 32 = .ok (.iload 4, 2) := by decide +kernel
theorem d_L_insert_34 : decode b_L_insert 34 = .ok (.iconst 1, 1) := by decide +kernel
theorem d_L_insert_35 : decode b_L_insert 35 = .ok (.isub, 1) := by decide +kernel
theorem d_L_insert_36 : decode b_L_insert 36 = .ok (.iaload, 1) := by decide +kernel
theorem d_L_insert_37 : decode b_L_insert 37 = .ok (.iload_n 2, 1) := by decide +kernel
theorem d_L_insert_38 : decode b_L_insert 38 = .ok (.if_icmp .le 42, 3) := by decide +kernel
theorem d_L_insert_41 : decode b_L_insert 41 = .ok (.aload_n 0, 1) := by decide +kernel
theorem d_L_insert_42 : decode b_L_insert 42 = .ok (.iload 4, 2) := by decide +kernel
theorem d_L_insert_44 : decode b_L_insert 44 = .ok (.aload_n 0, 1) := by decide +kernel
theorem d_L_insert_45 : decode b_L_insert 45 = .ok (.getfield 9, 3) := by decide +kernel
theorem d_L_insert_48 : decode b_L_insert 48 = .ok (.iload 4, 2) := by decide +kernel
theorem d_L_insert_50 : decode b_L_insert 50 = .ok (.iconst 1, 1) := by decide +kernel
theorem d_L_insert_51 : decode b_L_insert 51 = .ok (.isub, 1) := by decide +kernel
theorem d_L_insert_52 : decode b_L_insert 52 = .ok (.iaload, 1) := by decide +kernel
theorem d_L_insert_53 : decode b_L_insert 53 = .ok (.aload_n 0, 1) := by decide +kernel
theorem d_L_insert_54 : decode b_L_insert 54 = .ok (.getfield 15, 3) := by decide +kernel
theorem d_L_insert_57 : decode b_L_insert 57 = .ok (.iload 4, 2) := by decide +kernel
theorem d_L_insert_59 : decode b_L_insert 59 = .ok (.iconst 1, 1) := by decide +kernel
theorem d_L_insert_60 : decode b_L_insert 60 = .ok (.isub, 1) := by decide +kernel
theorem d_L_insert_61 : decode b_L_insert 61 = .ok (.iaload, 1) := by decide +kernel
theorem d_L_insert_62 : decode b_L_insert 62 = .ok (.aload_n 0, 1) := by decide +kernel
theorem d_L_insert_63 : decode b_L_insert 63 = .ok (.getfield 18, 3) := by decide +kernel
theorem d_L_insert_66 : decode b_L_insert 66 = .ok (.iload 4, 2) := by decide +kernel
theorem d_L_insert_68 : decode b_L_insert 68 = .ok (.iconst 1, 1) := by decide +kernel
theorem d_L_insert_69 : decode b_L_insert 69 = .ok (.isub, 1) := by decide +kernel
theorem d_L_insert_70 : decode b_L_insert 70 = .ok (.iaload, 1) := by decide +kernel
theorem d_L_insert_71 : decode b_L_insert 71 = .ok (.invokevirtual 25, 3) := by decide +kernel
theorem d_L_insert_74 : decode b_L_insert 74 = .ok (.iinc 4 (-1), 3) := by decide +kernel
theorem d_L_insert_77 : decode b_L_insert 77 = .ok (.goto (-54), 3) := by decide +kernel
theorem d_L_insert_80 : decode b_L_insert 80 = .ok (.aload_n 0, 1) := by decide +kernel
theorem d_L_insert_81 : decode b_L_insert 81 = .ok (.iload 4, 2) := by decide +kernel
theorem d_L_insert_83 : decode b_L_insert 83 = .ok (.iload_n 1, 1) := by decide +kernel
theorem d_L_insert_84 : decode b_L_insert 84 = .ok (.iload_n 2, 1) := by decide +kernel
theorem d_L_insert_85 : decode b_L_insert 85 = .ok (.iload_n 3, 1) := by decide +kernel
theorem d_L_insert_86 : decode b_L_insert 86 = .ok (.invokevirtual 25, 3) := by decide +kernel
theorem d_L_insert_89 : decode b_L_insert 89 = .ok (.aload_n 0, 1) := by decide +kernel
theorem d_L_insert_90 : decode b_L_insert 90 = .ok (.dup, 1) := by decide +kernel
theorem d_L_insert_91 : decode b_L_insert 91 = .ok (.getfield 21, 3) := by decide +kernel
theorem d_L_insert_94 : decode b_L_insert 94 = .ok (.iconst 1, 1) := by decide +kernel
theorem d_L_insert_95 : decode b_L_insert 95 = .ok (.iadd, 1) := by decide +kernel
theorem d_L_insert_96 : decode b_L_insert 96 = .ok (.putfield 21, 3) := by decide +kernel
theorem d_L_insert_99 : decode b_L_insert 99 = .ok (.return_, 1) := by decide +kernel
theorem d_L_put_0 : decode b_L_put 0 = .ok (.iload_n 1, 1) := by decide +kernel
theorem d_L_put_1 : decode b_L_put 1 = .ok (.ifCond .lt 31, 3) := by decide +kernel
theorem d_L_put_4 : decode b_L_put 4 = .ok (.iload_n 1, 1) := by decide +kernel
theorem d_L_put_5 : decode b_L_put 5 = .ok (.bipush 60, 2) := by decide +kernel
theorem d_L_put_7 : decode b_L_put 7 = .ok (.if_icmp .ge 25, 3) := by decide +kernel
theorem d_L_put_10 : decode b_L_put 10 = .ok (.aload_n 0, 1) := by decide +kernel
theorem d_L_put_11 : decode b_L_put 11 = .ok (.getfield 9, 3) := by decide +kernel
theorem d_L_put_14 : decode b_L_put 14 = .ok (.iload_n 1, 1) := by decide +kernel
theorem d_L_put_15 : decode b_L_put 15 = .ok (.iload_n 2, 1) := by decide +kernel
theorem d_L_put_16 : decode b_L_put 16 = .ok (.iastore, 1) := by decide +kernel
theorem d_L_put_17 : decode b_L_put 17 = .ok (.aload_n 0, 1) := by decide +kernel
theorem d_L_put_18 : decode b_L_put 18 = .ok (.getfield 15, 3) := by decide +kernel
theorem d_L_put_21 : decode b_L_put 21 = .ok (.iload_n 1, 1) := by decide +kernel
theorem d_L_put_22 : decode b_L_put 22 = .ok (.iload_n 3, 1) := by decide +kernel
theorem d_L_put_23 : decode b_L_put 23 = .ok (.iastore, 1) := by decide +kernel
theorem d_L_put_24 : decode b_L_put 24 = .ok (.aload_n 0, 1) := by decide +kernel
theorem d_L_put_25 : decode b_L_put 25 = .ok (.getfield 18, 3) := by decide +kernel
theorem d_L_put_28 : decode b_L_put 28 = .ok (.iload_n 1, 1) := by decide +kernel
theorem d_L_put_29 : decode b_L_put 29 = .ok (.iload 4, 2) := by decide +kernel
theorem d_L_put_31 : decode b_L_put 31 = .ok (.iastore, 1) := by decide +kernel
theorem d_L_put_32 : decode b_L_put 32 = .ok (.return_, 1) := by decide +kernel
theorem d_L_size_0 : decode b_L_size 0 = .ok (.aload_n 0, 1) := by decide +kernel
theorem d_L_size_1 : decode b_L_size 1 = .ok (.getfield 21, 3) := by decide +kernel
theorem d_L_size_4 : decode b_L_size 4 = .ok (.ireturn, 1) := by decide +kernel
theorem d_L_told_0 : decode b_L_told 0 = .ok (.iload_n 1, 1) := by decide +kernel
theorem d_L_told_1 : decode b_L_told 1 = .ok (.ifCond .lt 9, 3) := by decide +kernel
theorem d_L_told_4 : decode b_L_told 4 = .ok (.iload_n 1, 1) := by decide +kernel
theorem d_L_told_5 : decode b_L_told 5 = .ok (.bipush 60, 2) := by decide +kernel
theorem d_L_told_7 : decode b_L_told 7 = .ok (.if_icmp .lt 5, 3) := by decide +kernel
theorem d_L_told_10 : decode b_L_told 10 = .ok (.iconst (-1), 1) := by decide +kernel
theorem d_L_told_11 : decode b_L_told 11 = .ok (.ireturn, 1) := by decide +kernel
theorem d_L_told_12 : decode b_L_told 12 = .ok (.iload_n 2, 1) := by decide +kernel
theorem d_L_told_13 : decode b_L_told 13 = .ok (.ifCond .ne 10, 3) := by decide +kernel
theorem d_L_told_16 : decode b_L_told 16 = .ok (.aload_n 0, 1) := by decide +kernel
theorem d_L_told_17 : decode b_L_told 17 = .ok (.getfield 9, 3) := by decide +kernel
theorem d_L_told_20 : decode b_L_told 20 = .ok (.iload_n 1, 1) := by decide +kernel
theorem d_L_told_21 : decode b_L_told 21 = .ok (.iaload, 1) := by decide +kernel
theorem d_L_told_22 : decode b_L_told 22 = .ok (.ireturn, 1) := by decide +kernel
theorem d_L_told_23 : decode b_L_told 23 = .ok (.iload_n 2, 1) := by decide +kernel
theorem d_L_told_24 : decode b_L_told 24 = .ok (.iconst 1, 1) := by decide +kernel
theorem d_L_told_25 : decode b_L_told 25 = .ok (.if_icmp .ne 12, 3) := by decide +kernel
theorem d_L_told_28 : decode b_L_told 28 = .ok (.aload_n 0, 1) := by decide +kernel
theorem d_L_told_29 : decode b_L_told 29 = .ok (.getfield 15, 3) := by decide +kernel
theorem d_L_told_32 : decode b_L_told 32 = .ok (.iload_n 1, 1) := by decide +kernel
theorem d_L_told_33 : decode b_L_told 33 = .ok (.iaload, 1) := by decide +kernel
theorem d_L_told_34 : decode b_L_told 34 = .ok (.goto 9, 3) := by decide +kernel
theorem d_L_told_37 : decode b_L_told 37 = .ok (.aload_n 0, 1) := by decide +kernel
theorem d_L_told_38 : decode b_L_told 38 = .ok (.getfield 18, 3) := by decide +kernel
theorem d_L_told_41 : decode b_L_told 41 = .ok (.iload_n 1, 1) := by decide +kernel
theorem d_L_told_42 : decode b_L_told 42 = .ok (.iaload, 1) := by decide +kernel
theorem d_L_told_43 : decode b_L_told 43 = .ok (.ireturn, 1) := by decide +kernel
theorem d_M_about_0 : decode b_M_about 0 = .ok (.aload_n 0, 1) := by decide +kernel
theorem d_M_about_1 : decode b_M_about 1 = .ok (.iconst 0, 1) := by decide +kernel
theorem d_M_about_2 : decode b_M_about 2 = .ok (.putfield 72, 3) := by decide +kernel
theorem d_M_about_5 : decode b_M_about 5 = .ok (.iload_n 1, 1) := by decide +kernel
theorem d_M_about_6 : decode b_M_about 6 = .ok (.invokestatic 149, 3) := by decide +kernel
theorem d_M_about_9 : decode b_M_about 9 = .ok (.ifCond .ne 5, 3) := by decide +kernel
theorem d_M_about_12 : decode b_M_about 12 = .ok (.iconst (-1), 1) := by decide +kernel
theorem d_M_about_13 : decode b_M_about 13 = .ok (.ireturn, 1) := by decide +kernel
theorem d_M_about_14 : decode b_M_about 14 = .ok (.iload_n 2, 1) := by decide +kernel
theorem d_M_about_15 : decode b_M_about 15 = .ok (.iconst 0, 1) := by decide +kernel
theorem d_M_about_16 : decode b_M_about 16 = .ok (.iconst 3, 1) := by decide +kernel
theorem d_M_about_17 : decode b_M_about 17 = .ok (.invokestatic 76, 3) := by decide +kernel
theorem d_M_about_20 : decode b_M_about 20 = .ok (.ifCond .eq 14, 3) := by decide +kernel
theorem d_M_about_23 : decode b_M_about 23 = .ok (.aload_n 0, 1) := by decide +kernel
theorem d_M_about_24 : decode b_M_about 24 = .ok (.getfield 33, 3) := by decide +kernel
theorem d_M_about_27 : decode b_M_about 27 = .ok (.iconst 4, 1) := by decide +kernel
theorem d_M_about_28 : decode b_M_about 28 = .ok (.iload_n 1, 1) := by decide +kernel
theorem d_M_about_29 : decode b_M_about 29 = .ok (.imul, 1) := by decide +kernel
theorem d_M_about_30 : decode b_M_about 30 = .ok (.iload_n 2, 1) := by decide +kernel
theorem d_M_about_31 : decode b_M_about 31 = .ok (.iadd, 1) := by decide +kernel
theorem d_M_about_32 : decode b_M_about 32 = .ok (.iaload, 1) := by decide +kernel
theorem d_M_about_33 : decode b_M_about 33 = .ok (.ireturn, 1) := by decide +kernel
theorem d_M_about_34 : decode b_M_about 34 = .ok (.iload_n 2, 1) := by decide +kernel
theorem d_M_about_35 : decode b_M_about 35 = .ok (.tableswitch 76 4 8 #[33, 40, 47, 62, 69], 33) := by decide +kernel
theorem d_M_about_68 : decode b_M_about 68 = .ok (.aload_n 0, 1) := by decide +kernel
theorem d_M_about_69 : decode b_M_about 69 = .ok (.getfield 39, 3) := by decide +kernel
theorem d_M_about_72 : decode b_M_about 72 = .ok (.iload_n 1, 1) := by decide +kernel
theorem d_M_about_73 : decode b_M_about 73 = .ok (.iaload, 1) := by decide +kernel
theorem d_M_about_74 : decode b_M_about 74 = .ok (.ireturn, 1) := by decide +kernel
theorem d_M_about_75 : decode b_M_about 75 = .ok (.aload_n 0, 1) := by decide +kernel
theorem d_M_about_76 : decode b_M_about 76 = .ok (.getfield 48, 3) := by decide +kernel
theorem d_M_about_79 : decode b_M_about 79 = .ok (.iload_n 1, 1) := by decide +kernel
theorem d_M_about_80 : decode b_M_about 80 = .ok (.iaload, 1) := by decide +kernel
theorem d_M_about_81 : decode b_M_about 81 = .ok (.ireturn, 1) := by decide +kernel
theorem d_M_about_82 : decode b_M_about 82 = .ok (.aload_n 0, 1) := by decide +kernel
theorem d_M_about_83 : decode b_M_about 83 = .ok (.getfield 54, 3) := by decide +kernel
theorem d_M_about_86 : decode b_M_about 86 = .ok (.iload_n 1, 1) := by decide +kernel
theorem d_M_about_87 : decode b_M_about 87 = .ok (.iaload, 1) := by decide +kernel
theorem d_M_about_88 : decode b_M_about 88 = .ok (.ifCond .lt 7, 3) := by decide +kernel
theorem d_M_about_91 : decode b_M_about 91 = .ok (.iconst 1, 1) := by decide +kernel
theorem d_M_about_92 : decode b_M_about 92 = .ok (.goto 4, 3) := by decide +kernel
theorem d_M_about_95 : decode b_M_about 95 = .ok (.iconst 0, 1) := by decide +kernel
theorem d_M_about_96 : decode b_M_about 96 = .ok (.ireturn, 1) := by decide +kernel
theorem d_M_about_97 : decode b_M_about 97 = .ok (.aload_n 0, 1) := by decide +kernel
theorem d_M_about_98 : decode b_M_about 98 = .ok (.getfield 54, 3) := by decide +kernel
theorem d_M_about_101 : decode b_M_about 101 = .ok (.iload_n 1, 1) := by decide +kernel
theorem d_M_about_102 : decode b_M_about 102 = .ok (.iaload, 1) := by decide +kernel
theorem d_M_about_103 : decode b_M_about 103 = .ok (.ireturn, 1) := by decide +kernel
theorem d_M_about_104 : decode b_M_about 104 = .ok (.aload_n 0, 1) := by decide +kernel
theorem d_M_about_105 : decode b_M_about 105 = .ok (.getfield 57, 3) := by decide +kernel
theorem d_M_about_108 : decode b_M_about 108 = .ok (.iload_n 1, 1) := by decide +kernel
theorem d_M_about_109 : decode b_M_about 109 = .ok (.iaload, 1) := by decide +kernel
theorem d_M_about_110 : decode b_M_about 110 = .ok (.ireturn, 1) := by decide +kernel
theorem d_M_about_111 : decode b_M_about 111 = .ok (.iconst (-1), 1) := by decide +kernel
theorem d_M_about_112 : decode b_M_about 112 = .ok (.ireturn, 1) := by decide +kernel
theorem d_M_actionJ_0 : decode b_M_actionJ 0 = .ok (.lload_n 0, 1) := by decide +kernel
theorem d_M_actionJ_1 : decode b_M_actionJ 1 = .ok (.iconst 4, 1) := by decide +kernel
theorem d_M_actionJ_2 : decode b_M_actionJ 2 = .ok (.iconst 5, 1) := by decide +kernel
theorem d_M_actionJ_3 : decode b_M_actionJ 3 = .ok (.bipush 19, 2) := by decide +kernel
theorem d_M_actionJ_5 : decode b_M_actionJ 5 = .ok (.bipush 20, 2) := by decide +kernel
theorem d_M_actionJ_7 : decode b_M_actionJ 7 = .ok (.invokestatic 104, 3) := by decide +kernel
theorem d_M_actionJ_10 : decode b_M_actionJ 10 = .ok (.ldc2_w 98, 3) := by decide +kernel
theorem d_M_actionJ_13 : decode b_M_actionJ 13 = .ok (.lmul, 1) := by decide +kernel
theorem d_M_actionJ_14 : decode b_M_actionJ 14 = .ok (.ldc2_w 114, 3) := by decide +kernel
theorem d_M_actionJ_17 : decode b_M_actionJ 17 = .ok (.ladd, 1) := by decide +kernel
theorem d_M_actionJ_18 : decode b_M_actionJ 18 = .ok (.ldc2_w 98, 3) := by decide +kernel
theorem d_M_actionJ_21 : decode b_M_actionJ 21 = .ok (.lmul, 1) := by decide +kernel
theorem d_M_actionJ_22 : decode b_M_actionJ 22 = .ok (.ldc2_w 116, 3) := by decide +kernel
theorem d_M_actionJ_25 : decode b_M_actionJ 25 = .ok (.ladd, 1) := by decide +kernel
theorem d_M_actionJ_26 : decode b_M_actionJ 26 = .ok (.ldc2_w 98, 3) := by decide +kernel
theorem d_M_actionJ_29 : decode b_M_actionJ 29 = .ok (.lmul, 1) := by decide +kernel
theorem d_M_actionJ_30 : decode b_M_actionJ 30 = .ok (.ldc2_w 118, 3) := by decide +kernel
theorem d_M_actionJ_33 : decode b_M_actionJ 33 = .ok (.ladd, 1) := by decide +kernel
theorem d_M_actionJ_34 : decode b_M_actionJ 34 = .ok (.lcmp, 1) := by decide +kernel
theorem d_M_actionJ_35 : decode b_M_actionJ 35 = .ok (.ifCond .ne 5, 3) := by decide +kernel
theorem d_M_actionJ_38 : decode b_M_actionJ 38 = .ok (.iconst 0, 1) := by decide +kernel
theorem d_M_actionJ_39 : decode b_M_actionJ 39 = .ok (.ireturn, 1) := by decide +kernel
theorem d_M_actionJ_40 : decode b_M_actionJ 40 = .ok (.lload_n 0, 1) := by decide +kernel
theorem d_M_actionJ_41 : decode b_M_actionJ 41 = .ok (.bipush 20, 2) := by decide +kernel
theorem d_M_actionJ_43 : decode b_M_actionJ 43 = .ok (.bipush 18, 2) := by decide +kernel
theorem d_M_actionJ_45 : decode b_M_actionJ 45 = .ok (.iconst 1, 1) := by decide +kernel
theorem d_M_actionJ_46 : decode b_M_actionJ 46 = .ok (.bipush 14, 2) := by decide +kernel
theorem d_M_actionJ_48 : decode b_M_actionJ 48 = .ok (.invokestatic 104, 3) := by decide +kernel
theorem d_M_actionJ_51 : decode b_M_actionJ 51 = .ok (.ldc2_w 98, 3) := by decide +kernel
theorem d_M_actionJ_54 : decode b_M_actionJ 54 = .ok (.lmul, 1) := by decide +kernel
theorem d_M_actionJ_55 : decode b_M_actionJ 55 = .ok (.ldc2_w 120, 3) := by decide +kernel
theorem d_M_actionJ_58 : decode b_M_actionJ 58 = .ok (.ladd, 1) := by decide +kernel
theorem d_M_actionJ_59 : decode b_M_actionJ 59 = .ok (.ldc2_w 98, 3) := by decide +kernel
theorem d_M_actionJ_62 : decode b_M_actionJ 62 = .ok (.lmul, 1) := by decide +kernel
theorem d_M_actionJ_63 : decode b_M_actionJ 63 = .ok (.ldc2_w 122, 3) := by decide +kernel
theorem d_M_actionJ_66 : decode b_M_actionJ 66 = .ok (.ladd, 1) := by decide +kernel
theorem d_M_actionJ_67 : decode b_M_actionJ 67 = .ok (.ldc2_w 98, 3) := by decide +kernel
theorem d_M_actionJ_70 : decode b_M_actionJ 70 = .ok (.lmul, 1) := by decide +kernel
theorem d_M_actionJ_71 : decode b_M_actionJ 71 = .ok (.ldc2_w 108, 3) := by decide +kernel
theorem d_M_actionJ_74 : decode b_M_actionJ 74 = .ok (.ladd, 1) := by decide +kernel
theorem d_M_actionJ_75 : decode b_M_actionJ 75 = .ok (.ldc2_w 98, 3) := by decide +kernel
theorem d_M_actionJ_78 : decode b_M_actionJ 78 = .ok (.lmul, 1) := by decide +kernel
theorem d_M_actionJ_79 : decode b_M_actionJ 79 = .ok (.ldc2_w 114, 3) := by decide +kernel
theorem d_M_actionJ_82 : decode b_M_actionJ 82 = .ok (.ladd, 1) := by decide +kernel
theorem d_M_actionJ_83 : decode b_M_actionJ 83 = .ok (.lcmp, 1) := by decide +kernel
theorem d_M_actionJ_84 : decode b_M_actionJ 84 = .ok (.ifCond .ne 7, 3) := by decide +kernel
theorem d_M_actionJ_87 : decode b_M_actionJ 87 = .ok (.iconst 1, 1) := by decide +kernel
theorem d_M_actionJ_88 : decode b_M_actionJ 88 = .ok (.goto 4, 3) := by decide +kernel
theorem d_M_actionJ_91 : decode b_M_actionJ 91 = .ok (.iconst (-1), 1) := by decide +kernel
theorem d_M_actionJ_92 : decode b_M_actionJ 92 = .ok (.ireturn, 1) := by decide +kernel
theorem d_M_actionOf_0 : decode b_M_actionOf 0 = .ok (.aload_n 0, 1) := by decide +kernel
theorem d_M_actionOf_1 : decode b_M_actionOf 1 = .ok (.iload_n 1, 1) := by decide +kernel
theorem d_M_actionOf_2 : decode b_M_actionOf 2 = .ok (.iload_n 2, 1) := by decide +kernel
theorem d_M_actionOf_3 : decode b_M_actionOf 3 = .ok (.invokevirtual 163, 3) := by decide +kernel
theorem d_M_actionOf_6 : decode b_M_actionOf 6 = .ok (.istore_n 3, 1) := by decide +kernel
theorem d_M_actionOf_7 : decode b_M_actionOf 7 = .ok (.iconst (-1), 1) := by decide +kernel
theorem d_M_actionOf_8 : decode b_M_actionOf 8 = .ok (.istore 4, 2) := by decide +kernel
theorem d_M_actionOf_10 : decode b_M_actionOf 10 = .ok (.aload_n 0, 1) := by decide +kernel
theorem d_M_actionOf_11 : decode b_M_actionOf 11 = .ok (.getfield 39, 3) := by decide +kernel
theorem d_M_actionOf_14 : decode b_M_actionOf 14 = .ok (.iload_n 1, 1) := by decide +kernel
theorem d_M_actionOf_15 : decode b_M_actionOf 15 = .ok (.iaload, 1) := by decide +kernel
theorem d_M_actionOf_16 : decode b_M_actionOf 16 = .ok (.iconst 1, 1) := by decide +kernel
theorem d_M_actionOf_17 : decode b_M_actionOf 17 = .ok (.isub, 1) := by decide +kernel
theorem d_M_actionOf_18 : decode b_M_actionOf 18 = .ok (.istore 5, 2) := by decide +kernel
theorem d_M_actionOf_20 : decode b_M_actionOf 20 = .ok (.iload 5, 2) := by decide +kernel
end
section
theorem d_M_actionOf_22 : decode b_M_actionOf 22 = .ok (.ifCond .lt 48, 3) := by decide +kernel
theorem d_M_actionOf_25 : decode b_M_actionOf 25 = .ok (.aload_n 0, 1) := by decide +kernel
theorem d_M_actionOf_26 : decode b_M_actionOf 26 = .ok (.getfield 36, 3) := by decide +kernel
theorem d_M_actionOf_29 : decode b_M_actionOf 29 = .ok (.iconst 4, 1) := by decide +kernel
theorem d_M_actionOf_30 : decode b_M_actionOf 30 = .ok (.iload_n 1, 1) := by decide +kernel
theorem d_M_actionOf_31 : decode b_M_actionOf 31 = .ok (.imul, 1) := by decide +kernel
theorem d_M_actionOf_32 : decode b_M_actionOf 32 = .ok (.iload 5, 2) := by decide +kernel
theorem d_M_actionOf_34 : decode b_M_actionOf 34 = .ok (.iadd, 1) := by decide +kernel
theorem d_M_actionOf_35 : decode b_M_actionOf 35 = .ok (.iaload, 1) := by decide +kernel
theorem d_M_actionOf_36 : decode b_M_actionOf 36 = .ok (.istore 6, 2) := by decide +kernel
theorem d_M_actionOf_38 : decode b_M_actionOf 38 = .ok (.aload_n 0, 1) := by decide +kernel
theorem d_M_actionOf_39 : decode b_M_actionOf 39 = .ok (.iload_n 1, 1) := by decide +kernel
theorem d_M_actionOf_40 : decode b_M_actionOf 40 = .ok (.iload 6, 2) := by decide +kernel
theorem d_M_actionOf_42 : decode b_M_actionOf 42 = .ok (.iload_n 2, 1) := by decide +kernel
theorem d_M_actionOf_43 : decode b_M_actionOf 43 = .ok (.invokevirtual 159, 3) := by decide +kernel
theorem d_M_actionOf_46 : decode b_M_actionOf 46 = .ok (.iload_n 3, 1) := by decide +kernel
theorem d_M_actionOf_47 : decode b_M_actionOf 47 = .ok (.if_icmp .ne 13, 3) := by decide +kernel
theorem d_M_actionOf_50 : decode b_M_actionOf 50 = .ok (.aload_n 0, 1) := by decide +kernel
theorem d_M_actionOf_51 : decode b_M_actionOf 51 = .ok (.getfield 17, 3) := by decide +kernel
theorem d_M_actionOf_54 : decode b_M_actionOf 54 = .ok (.iload 6, 2) := by decide +kernel
theorem d_M_actionOf_56 : decode b_M_actionOf 56 = .ok (.iaload, 1) := by decide +kernel
theorem d_M_actionOf_57 : decode b_M_actionOf 57 = .ok (.goto 5, 3) := by decide +kernel
theorem d_M_actionOf_60 : decode b_M_actionOf 60 = .ok (.iload 4, 2) := by decide +kernel
theorem d_M_actionOf_62 : decode b_M_actionOf 62 = .ok (.istore 4, 2) := by decide +kernel
theorem d_M_actionOf_64 : decode b_M_actionOf 64 = .ok (.iinc 5 (-1), 3) := by decide +kernel
theorem d_M_actionOf_67 : decode b_M_actionOf 67 = .ok (.goto (-47), 3) := by decide +kernel
theorem d_M_actionOf_70 : decode b_M_actionOf 70 = .ok (.iload 4, 2) := by decide +kernel
theorem d_M_actionOf_72 : decode b_M_actionOf 72 = .ok (.ireturn, 1) := by decide +kernel
theorem d_M_against_0 : decode b_M_against 0 = .ok (.aload_n 0, 1) := by decide +kernel
theorem d_M_against_1 : decode b_M_against 1 = .ok (.getfield 54, 3) := by decide +kernel
theorem d_M_against_4 : decode b_M_against 4 = .ok (.iload_n 1, 1) := by decide +kernel
theorem d_M_against_5 : decode b_M_against 5 = .ok (.iaload, 1) := by decide +kernel
theorem d_M_against_6 : decode b_M_against 6 = .ok (.ifCond .lt 5, 3) := by decide +kernel
theorem d_M_against_9 : decode b_M_against 9 = .ok (.iconst 1, 1) := by decide +kernel
theorem d_M_against_10 : decode b_M_against 10 = .ok (.ireturn, 1) := by decide +kernel
theorem d_M_against_11 : decode b_M_against 11 = .ok (.aload_n 0, 1) := by decide +kernel
theorem d_M_against_12 : decode b_M_against 12 = .ok (.getfield 176, 3) := by decide +kernel
theorem d_M_against_15 : decode b_M_against 15 = .ok (.ifCond .le 24, 3) := by decide +kernel
theorem d_M_against_18 : decode b_M_against 18 = .ok (.aload_n 0, 1) := by decide +kernel
theorem d_M_against_19 : decode b_M_against 19 = .ok (.getfield 57, 3) := by decide +kernel
theorem d_M_against_22 : decode b_M_against 22 = .ok (.aload_n 0, 1) := by decide +kernel
theorem d_M_against_23 : decode b_M_against 23 = .ok (.getfield 60, 3) := by decide +kernel
theorem d_M_against_26 : decode b_M_against 26 = .ok (.aload_n 0, 1) := by decide +kernel
theorem d_M_against_27 : decode b_M_against 27 = .ok (.getfield 176, 3) := by decide +kernel
theorem d_M_against_30 : decode b_M_against 30 = .ok (.iconst 1, 1) := by decide +kernel
theorem d_M_against_31 : decode b_M_against 31 = .ok (.isub, 1) := by decide +kernel
theorem d_M_against_32 : decode b_M_against 32 = .ok (.iaload, 1) := by decide +kernel
theorem d_M_against_33 : decode b_M_against 33 = .ok (.iaload, 1) := by decide +kernel
theorem d_M_against_34 : decode b_M_against 34 = .ok (.ifCond .ge 5, 3) := by decide +kernel
theorem d_M_against_37 : decode b_M_against 37 = .ok (.iconst 2, 1) := by decide +kernel
theorem d_M_against_38 : decode b_M_against 38 = .ok (.ireturn, 1) := by decide +kernel
theorem d_M_against_39 : decode b_M_against 39 = .ok (.aload_n 0, 1) := by decide +kernel
theorem d_M_against_40 : decode b_M_against 40 = .ok (.iload_n 1, 1) := by decide +kernel
theorem d_M_against_41 : decode b_M_against 41 = .ok (.invokevirtual 156, 3) := by decide +kernel
theorem d_M_against_44 : decode b_M_against 44 = .ok (.ifCond .eq 5, 3) := by decide +kernel
theorem d_M_against_47 : decode b_M_against 47 = .ok (.iconst 3, 1) := by decide +kernel
theorem d_M_against_48 : decode b_M_against 48 = .ok (.ireturn, 1) := by decide +kernel
theorem d_M_against_49 : decode b_M_against 49 = .ok (.aload_n 0, 1) := by decide +kernel
theorem d_M_against_50 : decode b_M_against 50 = .ok (.iload_n 1, 1) := by decide +kernel
theorem d_M_against_51 : decode b_M_against 51 = .ok (.iload_n 3, 1) := by decide +kernel
theorem d_M_against_52 : decode b_M_against 52 = .ok (.invokevirtual 169, 3) := by decide +kernel
theorem d_M_against_55 : decode b_M_against 55 = .ok (.ifCond .ne 5, 3) := by decide +kernel
theorem d_M_against_58 : decode b_M_against 58 = .ok (.iconst 4, 1) := by decide +kernel
theorem d_M_against_59 : decode b_M_against 59 = .ok (.ireturn, 1) := by decide +kernel
theorem d_M_against_60 : decode b_M_against 60 = .ok (.aload_n 0, 1) := by decide +kernel
theorem d_M_against_61 : decode b_M_against 61 = .ok (.iload_n 1, 1) := by decide +kernel
theorem d_M_against_62 : decode b_M_against 62 = .ok (.iload_n 3, 1) := by decide +kernel
theorem d_M_against_63 : decode b_M_against 63 = .ok (.invokevirtual 179, 3) := by decide +kernel
theorem d_M_against_66 : decode b_M_against 66 = .ok (.ifCond .eq 5, 3) := by decide +kernel
theorem d_M_against_69 : decode b_M_against 69 = .ok (.iconst 5, 1) := by decide +kernel
theorem d_M_against_70 : decode b_M_against 70 = .ok (.ireturn, 1) := by decide +kernel
theorem d_M_against_71 : decode b_M_against 71 = .ok (.aload_n 0, 1) := by decide +kernel
theorem d_M_against_72 : decode b_M_against 72 = .ok (.getfield 48, 3) := by decide +kernel
theorem d_M_against_75 : decode b_M_against 75 = .ok (.iload_n 1, 1) := by decide +kernel
theorem d_M_against_76 : decode b_M_against 76 = .ok (.iaload, 1) := by decide +kernel
theorem d_M_against_77 : decode b_M_against 77 = .ok (.iconst 2, 1) := by decide +kernel
theorem d_M_against_78 : decode b_M_against 78 = .ok (.if_icmp .ge 6, 3) := by decide +kernel
theorem d_M_against_81 : decode b_M_against 81 = .ok (.bipush 6, 2) := by decide +kernel
theorem d_M_against_83 : decode b_M_against 83 = .ok (.ireturn, 1) := by decide +kernel
theorem d_M_against_84 : decode b_M_against 84 = .ok (.aload_n 0, 1) := by decide +kernel
theorem d_M_against_85 : decode b_M_against 85 = .ok (.iload_n 1, 1) := by decide +kernel
theorem d_M_against_86 : decode b_M_against 86 = .ok (.iload_n 3, 1) := by decide +kernel
theorem d_M_against_87 : decode b_M_against 87 = .ok (.invokevirtual 173, 3) := by decide +kernel
theorem d_M_against_90 : decode b_M_against 90 = .ok (.iload_n 2, 1) := by decide +kernel
theorem d_M_against_91 : decode b_M_against 91 = .ok (.if_icmp .ne 7, 3) := by decide +kernel
theorem d_M_against_94 : decode b_M_against 94 = .ok (.iconst 0, 1) := by decide +kernel
theorem d_M_against_95 : decode b_M_against 95 = .ok (.goto 5, 3) := by decide +kernel
theorem d_M_against_98 : decode b_M_against 98 = .ok (.bipush 7, 2) := by decide +kernel
theorem d_M_against_100 : decode b_M_against 100 = .ok (.ireturn, 1) := by decide +kernel
theorem d_M_approve_0 : decode b_M_approve 0 = .ok (.aload_n 0, 1) := by decide +kernel
theorem d_M_approve_1 : decode b_M_approve 1 = .ok (.iconst 0, 1) := by decide +kernel
theorem d_M_approve_2 : decode b_M_approve 2 = .ok (.putfield 72, 3) := by decide +kernel
theorem d_M_approve_5 : decode b_M_approve 5 = .ok (.iload_n 1, 1) := by decide +kernel
theorem d_M_approve_6 : decode b_M_approve 6 = .ok (.invokestatic 149, 3) := by decide +kernel
theorem d_M_approve_9 : decode b_M_approve 9 = .ok (.ifCond .ne 5, 3) := by decide +kernel
theorem d_M_approve_12 : decode b_M_approve 12 = .ok (.iconst (-1), 1) := by decide +kernel
theorem d_M_approve_13 : decode b_M_approve 13 = .ok (.ireturn, 1) := by decide +kernel
theorem d_M_approve_14 : decode b_M_approve 14 = .ok (.iload_n 2, 1) := by decide +kernel
theorem d_M_approve_15 : decode b_M_approve 15 = .ok (.iconst 0, 1) := by decide +kernel
theorem d_M_approve_16 : decode b_M_approve 16 = .ok (.bipush 99, 2) := by decide +kernel
theorem d_M_approve_18 : decode b_M_approve 18 = .ok (.invokestatic 76, 3) := by decide +kernel
theorem d_M_approve_21 : decode b_M_approve 21 = .ok (.ifCond .ne 6, 3) := by decide +kernel
theorem d_M_approve_24 : decode b_M_approve 24 = .ok (.bipush (-2), 2) := by decide +kernel
theorem d_M_approve_26 : decode b_M_approve 26 = .ok (.ireturn, 1) := by decide +kernel
theorem d_M_approve_27 : decode b_M_approve 27 = .ok (.aload_n 0, 1) := by decide +kernel
theorem d_M_approve_28 : decode b_M_approve 28 = .ok (.getfield 54, 3) := by decide +kernel
theorem d_M_approve_31 : decode b_M_approve 31 = .ok (.iload_n 1, 1) := by decide +kernel
theorem d_M_approve_32 : decode b_M_approve 32 = .ok (.iaload, 1) := by decide +kernel
theorem d_M_approve_33 : decode b_M_approve 33 = .ok (.ifCond .ge 33, 3) := by decide +kernel
theorem d_M_approve_36 : decode b_M_approve 36 = .ok (.aload_n 0, 1) := by decide +kernel
theorem d_M_approve_37 : decode b_M_approve 37 = .ok (.getfield 48, 3) := by decide +kernel
theorem d_M_approve_40 : decode b_M_approve 40 = .ok (.iload_n 1, 1) := by decide +kernel
theorem d_M_approve_41 : decode b_M_approve 41 = .ok (.iaload, 1) := by decide +kernel
theorem d_M_approve_42 : decode b_M_approve 42 = .ok (.iconst 2, 1) := by decide +kernel
theorem d_M_approve_43 : decode b_M_approve 43 = .ok (.if_icmp .eq 23, 3) := by decide +kernel
theorem d_M_approve_46 : decode b_M_approve 46 = .ok (.aload_n 0, 1) := by decide +kernel
theorem d_M_approve_47 : decode b_M_approve 47 = .ok (.getfield 48, 3) := by decide +kernel
theorem d_M_approve_50 : decode b_M_approve 50 = .ok (.iload_n 1, 1) := by decide +kernel
theorem d_M_approve_51 : decode b_M_approve 51 = .ok (.iaload, 1) := by decide +kernel
theorem d_M_approve_52 : decode b_M_approve 52 = .ok (.iconst 1, 1) := by decide +kernel
theorem d_M_approve_53 : decode b_M_approve 53 = .ok (.if_icmp .ne 16, 3) := by decide +kernel
theorem d_M_approve_56 : decode b_M_approve 56 = .ok (.aload_n 0, 1) := by decide +kernel
theorem d_M_approve_57 : decode b_M_approve 57 = .ok (.getfield 51, 3) := by decide +kernel
theorem d_M_approve_60 : decode b_M_approve 60 = .ok (.iload_n 1, 1) := by decide +kernel
theorem d_M_approve_61 : decode b_M_approve 61 = .ok (.iaload, 1) := by decide +kernel
theorem d_M_approve_62 : decode b_M_approve 62 = .ok (.iload_n 2, 1) := by decide +kernel
theorem d_M_approve_63 : decode b_M_approve 63 = .ok (.if_icmp .ne 6, 3) := by decide +kernel
theorem d_M_approve_66 : decode b_M_approve 66 = .ok (.bipush (-3), 2) := by decide +kernel
theorem d_M_approve_68 : decode b_M_approve 68 = .ok (.ireturn, 1) := by decide +kernel
theorem d_M_approve_69 : decode b_M_approve 69 = .ok (.aload_n 0, 1) := by decide +kernel
theorem d_M_approve_70 : decode b_M_approve 70 = .ok (.getfield 51, 3) := by decide +kernel
theorem d_M_approve_73 : decode b_M_approve 73 = .ok (.iload_n 1, 1) := by decide +kernel
theorem d_M_approve_74 : decode b_M_approve 74 = .ok (.iload_n 2, 1) := by decide +kernel
theorem d_M_approve_75 : decode b_M_approve 75 = .ok (.iastore, 1) := by decide +kernel
theorem d_M_approve_76 : decode b_M_approve 76 = .ok (.aload_n 0, 1) := by decide +kernel
theorem d_M_approve_77 : decode b_M_approve 77 = .ok (.getfield 48, 3) := by decide +kernel
theorem d_M_approve_80 : decode b_M_approve 80 = .ok (.iload_n 1, 1) := by decide +kernel
theorem d_M_approve_81 : decode b_M_approve 81 = .ok (.dup2, 1) := by decide +kernel
theorem d_M_approve_82 : decode b_M_approve 82 = .ok (.iaload, 1) := by decide +kernel
theorem d_M_approve_83 : decode b_M_approve 83 = .ok (.iconst 1, 1) := by decide +kernel
theorem d_M_approve_84 : decode b_M_approve 84 = .ok (.iadd, 1) := by decide +kernel
theorem d_M_approve_85 : decode b_M_approve 85 = .ok (.iastore, 1) := by decide +kernel
theorem d_M_approve_86 : decode b_M_approve 86 = .ok (.aload_n 0, 1) := by decide +kernel
theorem d_M_approve_87 : decode b_M_approve 87 = .ok (.getfield 48, 3) := by decide +kernel
theorem d_M_approve_90 : decode b_M_approve 90 = .ok (.iload_n 1, 1) := by decide +kernel
theorem d_M_approve_91 : decode b_M_approve 91 = .ok (.iaload, 1) := by decide +kernel
theorem d_M_approve_92 : decode b_M_approve 92 = .ok (.ireturn, 1) := by decide +kernel
theorem d_M_at_0 : decode b_M_at 0 = .ok (.aload_n 0, 1) := by decide +kernel
theorem d_M_at_1 : decode b_M_at 1 = .ok (.iload_n 1, 1) := by decide +kernel
theorem d_M_at_2 : decode b_M_at 2 = .ok (.iconst 0, 1) := by decide +kernel
theorem d_M_at_3 : decode b_M_at 3 = .ok (.aload_n 0, 1) := by decide +kernel
theorem d_M_at_4 : decode b_M_at 4 = .ok (.getfield 166, 3) := by decide +kernel
theorem d_M_at_7 : decode b_M_at 7 = .ok (.iconst 1, 1) := by decide +kernel
theorem d_M_at_8 : decode b_M_at 8 = .ok (.isub, 1) := by decide +kernel
theorem d_M_at_9 : decode b_M_at 9 = .ok (.invokestatic 76, 3) := by decide +kernel
theorem d_M_at_12 : decode b_M_at 12 = .ok (.ifCond .eq 12, 3) := by decide +kernel
theorem d_M_at_15 : decode b_M_at 15 = .ok (.iload_n 2, 1) := by decide +kernel
theorem d_M_at_16 : decode b_M_at 16 = .ok (.iconst 0, 1) := by decide +kernel
theorem d_M_at_17 : decode b_M_at 17 = .ok (.iconst 2, 1) := by decide +kernel
theorem d_M_at_18 : decode b_M_at 18 = .ok (.invokestatic 76, 3) := by decide +kernel
theorem d_M_at_21 : decode b_M_at 21 = .ok (.ifCond .ne 7, 3) := by decide +kernel
theorem d_M_at_24 : decode b_M_at 24 = .ok (.iconst 1, 1) := by decide +kernel
theorem d_M_at_25 : decode b_M_at 25 = .ok (.goto 4, 3) := by decide +kernel
theorem d_M_at_28 : decode b_M_at 28 = .ok (.iconst 0, 1) := by decide +kernel
theorem d_M_at_29 : decode b_M_at 29 = .ok (.putfield 72, 3) := by decide +kernel
theorem d_M_at_32 : decode b_M_at 32 = .ok (.aload_n 0, 1) := by decide +kernel
theorem d_M_at_33 : decode b_M_at 33 = .ok (.getfield 72, 3) := by decide +kernel
theorem d_M_at_36 : decode b_M_at 36 = .ok (.ifCond .le 5, 3) := by decide +kernel
theorem d_M_at_39 : decode b_M_at 39 = .ok (.iconst 0, 1) := by decide +kernel
theorem d_M_at_40 : decode b_M_at 40 = .ok (.ireturn, 1) := by decide +kernel
theorem d_M_at_41 : decode b_M_at 41 = .ok (.iload_n 2, 1) := by decide +kernel
theorem d_M_at_42 : decode b_M_at 42 = .ok (.ifCond .ne 12, 3) := by decide +kernel
theorem d_M_at_45 : decode b_M_at 45 = .ok (.aload_n 0, 1) := by decide +kernel
theorem d_M_at_46 : decode b_M_at 46 = .ok (.getfield 63, 3) := by decide +kernel
theorem d_M_at_49 : decode b_M_at 49 = .ok (.iload_n 1, 1) := by decide +kernel
theorem d_M_at_50 : decode b_M_at 50 = .ok (.iaload, 1) := by decide +kernel
theorem d_M_at_51 : decode b_M_at 51 = .ok (.goto 23, 3) := by decide +kernel
theorem d_M_at_54 : decode b_M_at 54 = .ok (.iload_n 2, 1) := by decide +kernel
theorem d_M_at_55 : decode b_M_at 55 = .ok (.iconst 1, 1) := by decide +kernel
theorem d_M_at_56 : decode b_M_at 56 = .ok (.if_icmp .ne 12, 3) := by decide +kernel
theorem d_M_at_59 : decode b_M_at 59 = .ok (.aload_n 0, 1) := by decide +kernel
theorem d_M_at_60 : decode b_M_at 60 = .ok (.getfield 66, 3) := by decide +kernel
theorem d_M_at_63 : decode b_M_at 63 = .ok (.iload_n 1, 1) := by decide +kernel
theorem d_M_at_64 : decode b_M_at 64 = .ok (.iaload, 1) := by decide +kernel
theorem d_M_at_65 : decode b_M_at 65 = .ok (.goto 9, 3) := by decide +kernel
theorem d_M_at_68 : decode b_M_at 68 = .ok (.aload_n 0, 1) := by decide +kernel
theorem d_M_at_69 : decode b_M_at 69 = .ok (.getfield 69, 3) := by decide +kernel
theorem d_M_at_72 : decode b_M_at 72 = .ok (.iload_n 1, 1) := by decide +kernel
theorem d_M_at_73 : decode b_M_at 73 = .ok (.iaload, 1) := by decide +kernel
theorem d_M_at_74 : decode b_M_at 74 = .ok (.ireturn, 1) := by decide +kernel
theorem d_M_breaks_0 : decode b_M_breaks 0 = .ok (.aload_n 0, 1) := by decide +kernel
theorem d_M_breaks_1 : decode b_M_breaks 1 = .ok (.iconst 0, 1) := by decide +kernel
theorem d_M_breaks_2 : decode b_M_breaks 2 = .ok (.putfield 72, 3) := by decide +kernel
theorem d_M_breaks_5 : decode b_M_breaks 5 = .ok (.aload_n 0, 1) := by decide +kernel
theorem d_M_breaks_6 : decode b_M_breaks 6 = .ok (.iload_n 1, 1) := by decide +kernel
theorem d_M_breaks_7 : decode b_M_breaks 7 = .ok (.invokevirtual 142, 3) := by decide +kernel
theorem d_M_breaks_10 : decode b_M_breaks 10 = .ok (.ifCond .eq 16, 3) := by decide +kernel
theorem d_M_breaks_13 : decode b_M_breaks 13 = .ok (.aload_n 0, 1) := by decide +kernel
theorem d_M_breaks_14 : decode b_M_breaks 14 = .ok (.getfield 20, 3) := by decide +kernel
theorem d_M_breaks_17 : decode b_M_breaks 17 = .ok (.iload_n 1, 1) := by decide +kernel
theorem d_M_breaks_18 : decode b_M_breaks 18 = .ok (.baload, 1) := by decide +kernel
theorem d_M_breaks_19 : decode b_M_breaks 19 = .ok (.ifCond .eq 7, 3) := by decide +kernel
theorem d_M_breaks_22 : decode b_M_breaks 22 = .ok (.iconst 1, 1) := by decide +kernel
theorem d_M_breaks_23 : decode b_M_breaks 23 = .ok (.goto 4, 3) := by decide +kernel
theorem d_M_breaks_26 : decode b_M_breaks 26 = .ok (.iconst 0, 1) := by decide +kernel
theorem d_M_breaks_27 : decode b_M_breaks 27 = .ok (.istore_n 3, 1) := by decide +kernel
theorem d_M_breaks_28 : decode b_M_breaks 28 = .ok (.aload_n 0, 1) := by decide +kernel
theorem d_M_breaks_29 : decode b_M_breaks 29 = .ok (.iload_n 1, 1) := by decide +kernel
theorem d_M_breaks_30 : decode b_M_breaks 30 = .ok (.invokevirtual 142, 3) := by decide +kernel
theorem d_M_breaks_33 : decode b_M_breaks 33 = .ok (.ifCond .eq 10, 3) := by decide +kernel
theorem d_M_breaks_36 : decode b_M_breaks 36 = .ok (.aload_n 0, 1) := by decide +kernel
theorem d_M_breaks_37 : decode b_M_breaks 37 = .ok (.getfield 20, 3) := by decide +kernel
theorem d_M_breaks_40 : decode b_M_breaks 40 = .ok (.iload_n 1, 1) := by decide +kernel
theorem d_M_breaks_41 : decode b_M_breaks 41 = .ok (.iload_n 2, 1) := by decide +kernel
theorem d_M_breaks_42 : decode b_M_breaks 42 = .ok (.bastore, 1) := by decide +kernel
theorem d_M_breaks_43 : decode b_M_breaks 43 = .ok (.iload_n 3, 1) := by decide +kernel
theorem d_M_breaks_44 : decode b_M_breaks 44 = .ok (.ireturn, 1) := by decide +kernel
theorem d_M_certificate_0 : decode b_M_certificate 0 = .ok (.aload_n 0, 1) := by decide +kernel
theorem d_M_certificate_1 : decode b_M_certificate 1 = .ok (.iconst 0, 1) := by decide +kernel
theorem d_M_certificate_2 : decode b_M_certificate 2 = .ok (.putfield 72, 3) := by decide +kernel
theorem d_M_certificate_5 : decode b_M_certificate 5 = .ok (.iload_n 1, 1) := by decide +kernel
theorem d_M_certificate_6 : decode b_M_certificate 6 = .ok (.invokestatic 149, 3) := by decide +kernel
theorem d_M_certificate_9 : decode b_M_certificate 9 = .ok (.ifCond .ne 5, 3) := by decide +kernel
theorem d_M_certificate_12 : decode b_M_certificate 12 = .ok (.iconst (-1), 1) := by decide +kernel
theorem d_M_certificate_13 : decode b_M_certificate 13 = .ok (.ireturn, 1) := by decide +kernel
theorem d_M_certificate_14 : decode b_M_certificate 14 = .ok (.iload_n 2, 1) := by decide +kernel
theorem d_M_certificate_15 : decode b_M_certificate 15 = .ok (.iconst 1, 1) := by decide +kernel
theorem d_M_certificate_16 : decode b_M_certificate 16 = .ok (.ldc 80, 2) := by decide +kernel
theorem d_M_certificate_18 : decode b_M_certificate 18 = .ok (.invokestatic 76, 3) := by decide +kernel
theorem d_M_certificate_21 : decode b_M_certificate 21 = .ok (.ifCond .ne 6, 3) := by decide +kernel
theorem d_M_certificate_24 : decode b_M_certificate 24 = .ok (.bipush (-2), 2) := by decide +kernel
theorem d_M_certificate_26 : decode b_M_certificate 26 = .ok (.ireturn, 1) := by decide +kernel
theorem d_M_certificate_27 : decode b_M_certificate 27 = .ok (.aload_n 0, 1) := by decide +kernel
theorem d_M_certificate_28 : decode b_M_certificate 28 = .ok (.getfield 54, 3) := by decide +kernel
theorem d_M_certificate_31 : decode b_M_certificate 31 = .ok (.iload_n 1, 1) := by decide +kernel
theorem d_M_certificate_32 : decode b_M_certificate 32 = .ok (.iaload, 1) := by decide +kernel
theorem d_M_certificate_33 : decode b_M_certificate 33 = .ok (.ifCond .lt 12, 3) := by decide +kernel
theorem d_M_certificate_36 : decode b_M_certificate 36 = .ok (.aload_n 0, 1) := by decide +kernel
theorem d_M_certificate_37 : decode b_M_certificate 37 = .ok (.getfield 57, 3) := by decide +kernel
theorem d_M_certificate_40 : decode b_M_certificate 40 = .ok (.iload_n 1, 1) := by decide +kernel
theorem d_M_certificate_41 : decode b_M_certificate 41 = .ok (.iaload, 1) := by decide +kernel
theorem d_M_certificate_42 : decode b_M_certificate 42 = .ok (.ifCond .lt 6, 3) := by decide +kernel
theorem d_M_certificate_45 : decode b_M_certificate 45 = .ok (.bipush (-3), 2) := by decide +kernel
theorem d_M_certificate_47 : decode b_M_certificate 47 = .ok (.ireturn, 1) := by decide +kernel
theorem d_M_certificate_48 : decode b_M_certificate 48 = .ok (.aload_n 0, 1) := by decide +kernel
theorem d_M_certificate_49 : decode b_M_certificate 49 = .ok (.getfield 57, 3) := by decide +kernel
theorem d_M_certificate_52 : decode b_M_certificate 52 = .ok (.iload_n 1, 1) := by decide +kernel
theorem d_M_certificate_53 : decode b_M_certificate 53 = .ok (.iload_n 2, 1) := by decide +kernel
theorem d_M_certificate_54 : decode b_M_certificate 54 = .ok (.iastore, 1) := by decide +kernel
theorem d_M_certificate_55 : decode b_M_certificate 55 = .ok (.iconst 1, 1) := by decide +kernel
theorem d_M_certificate_56 : decode b_M_certificate 56 = .ok (.ireturn, 1) := by decide +kernel
theorem d_M_change_0 : decode b_M_change 0 = .ok (.aload_n 0, 1) := by decide +kernel
theorem d_M_change_1 : decode b_M_change 1 = .ok (.iconst 0, 1) := by decide +kernel
theorem d_M_change_2 : decode b_M_change 2 = .ok (.putfield 72, 3) := by decide +kernel
theorem d_M_change_5 : decode b_M_change 5 = .ok (.aload_n 0, 1) := by decide +kernel
theorem d_M_change_6 : decode b_M_change 6 = .ok (.iload_n 1, 1) := by decide +kernel
theorem d_M_change_7 : decode b_M_change 7 = .ok (.invokevirtual 142, 3) := by decide +kernel
theorem d_M_change_10 : decode b_M_change 10 = .ok (.ifCond .ne 5, 3) := by decide +kernel
theorem d_M_change_13 : decode b_M_change 13 = .ok (.iconst (-1), 1) := by decide +kernel
theorem d_M_change_14 : decode b_M_change 14 = .ok (.ireturn, 1) := by decide +kernel
theorem d_M_change_15 : decode b_M_change 15 = .ok (.iload_n 2, 1) := by decide +kernel
theorem d_M_change_16 : decode b_M_change 16 = .ok (.iconst 0, 1) := by decide +kernel
theorem d_M_change_17 : decode b_M_change 17 = .ok (.sipush 999, 3) := by decide +kernel
theorem d_M_change_20 : decode b_M_change 20 = .ok (.invokestatic 76, 3) := by decide +kernel
theorem d_M_change_23 : decode b_M_change 23 = .ok (.ifCond .eq 10, 3) := by decide +kernel
theorem d_M_change_26 : decode b_M_change 26 = .ok (.iload_n 3, 1) := by decide +kernel
theorem d_M_change_27 : decode b_M_change 27 = .ok (.invokestatic 146, 3) := by decide +kernel
theorem d_M_change_30 : decode b_M_change 30 = .ok (.ifCond .ne 6, 3) := by decide +kernel
theorem d_M_change_33 : decode b_M_change 33 = .ok (.bipush (-2), 2) := by decide +kernel
theorem d_M_change_35 : decode b_M_change 35 = .ok (.ireturn, 1) := by decide +kernel
theorem d_M_change_36 : decode b_M_change 36 = .ok (.aload_n 0, 1) := by decide +kernel
theorem d_M_change_37 : decode b_M_change 37 = .ok (.getfield 30, 3) := by decide +kernel
theorem d_M_change_40 : decode b_M_change 40 = .ok (.bipush 6, 2) := by decide +kernel
theorem d_M_change_42 : decode b_M_change 42 = .ok (.iload_n 1, 1) := by decide +kernel
theorem d_M_change_43 : decode b_M_change 43 = .ok (.imul, 1) := by decide +kernel
theorem d_M_change_44 : decode b_M_change 44 = .ok (.aload_n 0, 1) := by decide +kernel
theorem d_M_change_45 : decode b_M_change 45 = .ok (.getfield 24, 3) := by decide +kernel
theorem d_M_change_48 : decode b_M_change 48 = .ok (.iload_n 1, 1) := by decide +kernel
theorem d_M_change_49 : decode b_M_change 49 = .ok (.iaload, 1) := by decide +kernel
theorem d_M_change_50 : decode b_M_change 50 = .ok (.iadd, 1) := by decide +kernel
theorem d_M_change_51 : decode b_M_change 51 = .ok (.iaload, 1) := by decide +kernel
theorem d_M_change_52 : decode b_M_change 52 = .ok (.iload_n 3, 1) := by decide +kernel
theorem d_M_change_53 : decode b_M_change 53 = .ok (.if_icmp .lt 6, 3) := by decide +kernel
theorem d_M_change_56 : decode b_M_change 56 = .ok (.bipush (-3), 2) := by decide +kernel
theorem d_M_change_58 : decode b_M_change 58 = .ok (.ireturn, 1) := by decide +kernel
theorem d_M_change_59 : decode b_M_change 59 = .ok (.aload_n 0, 1) := by decide +kernel
theorem d_M_change_60 : decode b_M_change 60 = .ok (.getfield 24, 3) := by decide +kernel
theorem d_M_change_63 : decode b_M_change 63 = .ok (.iload_n 1, 1) := by decide +kernel
theorem d_M_change_64 : decode b_M_change 64 = .ok (.iaload, 1) := by decide +kernel
theorem d_M_change_65 : decode b_M_change 65 = .ok (.iconst 5, 1) := by decide +kernel
theorem d_M_change_66 : decode b_M_change 66 = .ok (.if_icmp .ne 6, 3) := by decide +kernel
theorem d_M_change_69 : decode b_M_change 69 = .ok (.bipush (-4), 2) := by decide +kernel
theorem d_M_change_71 : decode b_M_change 71 = .ok (.ireturn, 1) := by decide +kernel
theorem d_M_change_72 : decode b_M_change 72 = .ok (.aload_n 0, 1) := by decide +kernel
theorem d_M_change_73 : decode b_M_change 73 = .ok (.getfield 24, 3) := by decide +kernel
theorem d_M_change_76 : decode b_M_change 76 = .ok (.iload_n 1, 1) := by decide +kernel
theorem d_M_change_77 : decode b_M_change 77 = .ok (.dup2, 1) := by decide +kernel
theorem d_M_change_78 : decode b_M_change 78 = .ok (.iaload, 1) := by decide +kernel
theorem d_M_change_79 : decode b_M_change 79 = .ok (.iconst 1, 1) := by decide +kernel
theorem d_M_change_80 : decode b_M_change 80 = .ok (.iadd, 1) := by decide +kernel
theorem d_M_change_81 : decode b_M_change 81 = .ok (.iastore, 1) := by decide +kernel
theorem d_M_change_82 : decode b_M_change 82 = .ok (.aload_n 0, 1) := by decide +kernel
theorem d_M_change_83 : decode b_M_change 83 = .ok (.getfield 27, 3) := by decide +kernel
theorem d_M_change_86 : decode b_M_change 86 = .ok (.bipush 6, 2) := by decide +kernel
theorem d_M_change_88 : decode b_M_change 88 = .ok (.iload_n 1, 1) := by decide +kernel
theorem d_M_change_89 : decode b_M_change 89 = .ok (.imul, 1) := by decide +kernel
theorem d_M_change_90 : decode b_M_change 90 = .ok (.aload_n 0, 1) := by decide +kernel
theorem d_M_change_91 : decode b_M_change 91 = .ok (.getfield 24, 3) := by decide +kernel
theorem d_M_change_94 : decode b_M_change 94 = .ok (.iload_n 1, 1) := by decide +kernel
theorem d_M_change_95 : decode b_M_change 95 = .ok (.iaload, 1) := by decide +kernel
theorem d_M_change_96 : decode b_M_change 96 = .ok (.iadd, 1) := by decide +kernel
theorem d_M_change_97 : decode b_M_change 97 = .ok (.iload_n 2, 1) := by decide +kernel
theorem d_M_change_98 : decode b_M_change 98 = .ok (.iastore, 1) := by decide +kernel
theorem d_M_change_99 : decode b_M_change 99 = .ok (.aload_n 0, 1) := by decide +kernel
theorem d_M_change_100 : decode b_M_change 100 = .ok (.getfield 30, 3) := by decide +kernel
theorem d_M_change_103 : decode b_M_change 103 = .ok (.bipush 6, 2) := by decide +kernel
theorem d_M_change_105 : decode b_M_change 105 = .ok (.iload_n 1, 1) := by decide +kernel
theorem d_M_change_106 : decode b_M_change 106 = .ok (.imul, 1) := by decide +kernel
theorem d_M_change_107 : decode b_M_change 107 = .ok (.aload_n 0, 1) := by decide +kernel
theorem d_M_change_108 : decode b_M_change 108 = .ok (.getfield 24, 3) := by decide +kernel
theorem d_M_change_111 : decode b_M_change 111 = .ok (.iload_n 1, 1) := by decide +kernel
theorem d_M_change_112 : decode b_M_change 112 = .ok (.iaload, 1) := by decide +kernel
theorem d_M_change_113 : decode b_M_change 113 = .ok (.iadd, 1) := by decide +kernel
theorem d_M_change_114 : decode b_M_change 114 = .ok (.iload_n 3, 1) := by decide +kernel
theorem d_M_change_115 : decode b_M_change 115 = .ok (.iastore, 1) := by decide +kernel
theorem d_M_change_116 : decode b_M_change 116 = .ok (.iconst 1, 1) := by decide +kernel
theorem d_M_change_117 : decode b_M_change 117 = .ok (.ireturn, 1) := by decide +kernel
theorem d_M_day_0 : decode b_M_day 0 = .ok (.aload_n 0, 1) := by decide +kernel
theorem d_M_day_1 : decode b_M_day 1 = .ok (.iconst 0, 1) := by decide +kernel
theorem d_M_day_2 : decode b_M_day 2 = .ok (.putfield 72, 3) := by decide +kernel
theorem d_M_day_5 : decode b_M_day 5 = .ok (.iload_n 1, 1) := by decide +kernel
theorem d_M_day_6 : decode b_M_day 6 = .ok (.invokestatic 149, 3) := by decide +kernel
theorem d_M_day_9 : decode b_M_day 9 = .ok (.ifCond .eq 10, 3) := by decide +kernel
theorem d_M_day_12 : decode b_M_day 12 = .ok (.iload_n 2, 1) := by decide +kernel
theorem d_M_day_13 : decode b_M_day 13 = .ok (.invokestatic 146, 3) := by decide +kernel
theorem d_M_day_16 : decode b_M_day 16 = .ok (.ifCond .ne 8, 3) := by decide +kernel
theorem d_M_day_19 : decode b_M_day 19 = .ok (.bipush (-2), 2) := by decide +kernel
theorem d_M_day_21 : decode b_M_day 21 = .ok (.goto 9, 3) := by decide +kernel
theorem d_M_day_24 : decode b_M_day 24 = .ok (.aload_n 0, 1) := by decide +kernel
theorem d_M_day_25 : decode b_M_day 25 = .ok (.iload_n 1, 1) := by decide +kernel
theorem d_M_day_26 : decode b_M_day 26 = .ok (.iload_n 2, 1) := by decide +kernel
theorem d_M_day_27 : decode b_M_day 27 = .ok (.invokevirtual 163, 3) := by decide +kernel
theorem d_M_day_30 : decode b_M_day 30 = .ok (.ireturn, 1) := by decide +kernel
theorem d_M_dayOf_0 : decode b_M_dayOf 0 = .ok (.aload_n 0, 1) := by decide +kernel
theorem d_M_dayOf_1 : decode b_M_dayOf 1 = .ok (.getfield 33, 3) := by decide +kernel
theorem d_M_dayOf_4 : decode b_M_dayOf 4 = .ok (.iconst 4, 1) := by decide +kernel
theorem d_M_dayOf_5 : decode b_M_dayOf 5 = .ok (.iload_n 1, 1) := by decide +kernel
theorem d_M_dayOf_6 : decode b_M_dayOf 6 = .ok (.imul, 1) := by decide +kernel
theorem d_M_dayOf_7 : decode b_M_dayOf 7 = .ok (.aload_n 0, 1) := by decide +kernel
theorem d_M_dayOf_8 : decode b_M_dayOf 8 = .ok (.getfield 13, 3) := by decide +kernel
theorem d_M_dayOf_11 : decode b_M_dayOf 11 = .ok (.iload_n 2, 1) := by decide +kernel
theorem d_M_dayOf_12 : decode b_M_dayOf 12 = .ok (.iaload, 1) := by decide +kernel
theorem d_M_dayOf_13 : decode b_M_dayOf 13 = .ok (.iadd, 1) := by decide +kernel
theorem d_M_dayOf_14 : decode b_M_dayOf 14 = .ok (.iaload, 1) := by decide +kernel
theorem d_M_dayOf_15 : decode b_M_dayOf 15 = .ok (.istore 4, 2) := by decide +kernel
theorem d_M_dayOf_17 : decode b_M_dayOf 17 = .ok (.iload 4, 2) := by decide +kernel
theorem d_M_dayOf_19 : decode b_M_dayOf 19 = .ok (.ifCond .ge 7, 3) := by decide +kernel
theorem d_M_dayOf_22 : decode b_M_dayOf 22 = .ok (.iconst (-1), 1) := by decide +kernel
theorem d_M_dayOf_23 : decode b_M_dayOf 23 = .ok (.goto 16, 3) := by decide +kernel
theorem d_M_dayOf_26 : decode b_M_dayOf 26 = .ok (.iload 4, 2) := by decide +kernel
theorem d_M_dayOf_28 : decode b_M_dayOf 28 = .ok (.sipush 365, 3) := by decide +kernel
theorem d_M_dayOf_31 : decode b_M_dayOf 31 = .ok (.aload_n 0, 1) := by decide +kernel
theorem d_M_dayOf_32 : decode b_M_dayOf 32 = .ok (.iload_n 2, 1) := by decide +kernel
theorem d_M_dayOf_33 : decode b_M_dayOf 33 = .ok (.iload_n 3, 1) := by decide +kernel
theorem d_M_dayOf_34 : decode b_M_dayOf 34 = .ok (.invokevirtual 152, 3) := by decide +kernel
theorem d_M_dayOf_37 : decode b_M_dayOf 37 = .ok (.imul, 1) := by decide +kernel
theorem d_M_dayOf_38 : decode b_M_dayOf 38 = .ok (.iadd, 1) := by decide +kernel
theorem d_M_dayOf_39 : decode b_M_dayOf 39 = .ok (.ireturn, 1) := by decide +kernel
theorem d_M_digits_0 : decode b_M_digits 0 = .ok (.iconst 0, 1) := by decide +kernel
theorem d_M_digits_1 : decode b_M_digits 1 = .ok (.istore_n 1, 1) := by decide +kernel
theorem d_M_digits_2 : decode b_M_digits 2 = .ok (.iconst 0, 1) := by decide +kernel
theorem d_M_digits_3 : decode b_M_digits 3 = .ok (.istore_n 2, 1) := by decide +kernel
theorem d_M_digits_4 : decode b_M_digits 4 = .ok (.aload_n 0, 1) := by decide +kernel
theorem d_M_digits_5 : decode b_M_digits 5 = .ok (.invokevirtual 90, 3) := by decide +kernel
theorem d_M_digits_8 : decode b_M_digits 8 = .ok (.bipush 48, 2) := by decide +kernel
theorem d_M_digits_10 : decode b_M_digits 10 = .ok (.if_icmp .lt 46, 3) := by decide +kernel
theorem d_M_digits_13 : decode b_M_digits 13 = .ok (.aload_n 0, 1) := by decide +kernel
theorem d_M_digits_14 : decode b_M_digits 14 = .ok (.invokevirtual 90, 3) := by decide +kernel
theorem d_M_digits_17 : decode b_M_digits 17 = .ok (.bipush 57, 2) := by decide +kernel
theorem d_M_digits_19 : decode b_M_digits 19 = .ok (.if_icmp .gt 37, 3) := by decide +kernel
theorem d_M_digits_22 : decode b_M_digits 22 = .ok (.iload_n 2, 1) := by decide +kernel
theorem d_M_digits_23 : decode b_M_digits 23 = .ok (.iconst 3, 1) := by decide +kernel
theorem d_M_digits_24 : decode b_M_digits 24 = .ok (.if_icmp .ge 32, 3) := by decide +kernel
theorem d_M_digits_27 : decode b_M_digits 27 = .ok (.bipush 10, 2) := by decide +kernel
theorem d_M_digits_29 : decode b_M_digits 29 = .ok (.iload_n 1, 1) := by decide +kernel
theorem d_M_digits_30 : decode b_M_digits 30 = .ok (.imul, 1) := by decide +kernel
theorem d_M_digits_31 : decode b_M_digits 31 = .ok (.aload_n 0, 1) := by decide +kernel
theorem d_M_digits_32 : decode b_M_digits 32 = .ok (.invokevirtual 90, 3) := by decide +kernel
theorem d_M_digits_35 : decode b_M_digits 35 = .ok (.iadd, 1) := by decide +kernel
theorem d_M_digits_36 : decode b_M_digits 36 = .ok (.bipush 48, 2) := by decide +kernel
theorem d_M_digits_38 : decode b_M_digits 38 = .ok (.isub, 1) := by decide +kernel
theorem d_M_digits_39 : decode b_M_digits 39 = .ok (.istore_n 1, 1) := by decide +kernel
theorem d_M_digits_40 : decode b_M_digits 40 = .ok (.iinc 2 1, 3) := by decide +kernel
theorem d_M_digits_43 : decode b_M_digits 43 = .ok (.aload_n 0, 1) := by decide +kernel
theorem d_M_digits_44 : decode b_M_digits 44 = .ok (.dup, 1) := by decide +kernel
theorem d_M_digits_45 : decode b_M_digits 45 = .ok (.getfield 87, 3) := by decide +kernel
theorem d_M_digits_48 : decode b_M_digits 48 = .ok (.iconst 1, 1) := by decide +kernel
theorem d_M_digits_49 : decode b_M_digits 49 = .ok (.iadd, 1) := by decide +kernel
theorem d_M_digits_50 : decode b_M_digits 50 = .ok (.putfield 87, 3) := by decide +kernel
theorem d_M_digits_53 : decode b_M_digits 53 = .ok (.goto (-49), 3) := by decide +kernel
theorem d_M_digits_56 : decode b_M_digits 56 = .ok (.iload_n 2, 1) := by decide +kernel
theorem d_M_digits_57 : decode b_M_digits 57 = .ok (.ifCond .ne 7, 3) := by decide +kernel
theorem d_M_digits_60 : decode b_M_digits 60 = .ok (.iconst (-1), 1) := by decide +kernel
theorem d_M_digits_61 : decode b_M_digits 61 = .ok (.goto 4, 3) := by decide +kernel
theorem d_M_digits_64 : decode b_M_digits 64 = .ok (.iload_n 1, 1) := by decide +kernel
theorem d_M_digits_65 : decode b_M_digits 65 = .ok (.ireturn, 1) := by decide +kernel
theorem d_M_dispose_0 : decode b_M_dispose 0 = .ok (.aload_n 0, 1) := by decide +kernel
theorem d_M_dispose_1 : decode b_M_dispose 1 = .ok (.iconst 0, 1) := by decide +kernel
theorem d_M_dispose_2 : decode b_M_dispose 2 = .ok (.putfield 72, 3) := by decide +kernel
theorem d_M_dispose_5 : decode b_M_dispose 5 = .ok (.iload_n 1, 1) := by decide +kernel
theorem d_M_dispose_6 : decode b_M_dispose 6 = .ok (.invokestatic 149, 3) := by decide +kernel
theorem d_M_dispose_9 : decode b_M_dispose 9 = .ok (.ifCond .ne 5, 3) := by decide +kernel
theorem d_M_dispose_12 : decode b_M_dispose 12 = .ok (.iconst (-1), 1) := by decide +kernel
theorem d_M_dispose_13 : decode b_M_dispose 13 = .ok (.ireturn, 1) := by decide +kernel
theorem d_M_dispose_14 : decode b_M_dispose 14 = .ok (.iload_n 2, 1) := by decide +kernel
theorem d_M_dispose_15 : decode b_M_dispose 15 = .ok (.iconst 0, 1) := by decide +kernel
theorem d_M_dispose_16 : decode b_M_dispose 16 = .ok (.iconst 1, 1) := by decide +kernel
theorem d_M_dispose_17 : decode b_M_dispose 17 = .ok (.invokestatic 76, 3) := by decide +kernel
theorem d_M_dispose_20 : decode b_M_dispose 20 = .ok (.ifCond .eq 10, 3) := by decide +kernel
theorem d_M_dispose_23 : decode b_M_dispose 23 = .ok (.iload_n 3, 1) := by decide +kernel
theorem d_M_dispose_24 : decode b_M_dispose 24 = .ok (.invokestatic 146, 3) := by decide +kernel
theorem d_M_dispose_27 : decode b_M_dispose 27 = .ok (.ifCond .ne 6, 3) := by decide +kernel
theorem d_M_dispose_30 : decode b_M_dispose 30 = .ok (.bipush (-2), 2) := by decide +kernel
theorem d_M_dispose_32 : decode b_M_dispose 32 = .ok (.ireturn, 1) := by decide +kernel
theorem d_M_dispose_33 : decode b_M_dispose 33 = .ok (.aload_n 0, 1) := by decide +kernel
theorem d_M_dispose_34 : decode b_M_dispose 34 = .ok (.iload_n 1, 1) := by decide +kernel
theorem d_M_dispose_35 : decode b_M_dispose 35 = .ok (.iload_n 2, 1) := by decide +kernel
theorem d_M_dispose_36 : decode b_M_dispose 36 = .ok (.iload_n 3, 1) := by decide +kernel
theorem d_M_dispose_37 : decode b_M_dispose 37 = .ok (.invokevirtual 182, 3) := by decide +kernel
theorem d_M_dispose_40 : decode b_M_dispose 40 = .ok (.istore 4, 2) := by decide +kernel
theorem d_M_dispose_42 : decode b_M_dispose 42 = .ok (.iload 4, 2) := by decide +kernel
theorem d_M_dispose_44 : decode b_M_dispose 44 = .ok (.ifCond .le 9, 3) := by decide +kernel
theorem d_M_dispose_47 : decode b_M_dispose 47 = .ok (.bipush (-10), 2) := by decide +kernel
theorem d_M_dispose_49 : decode b_M_dispose 49 = .ok (.iload 4, 2) := by decide +kernel
theorem d_M_dispose_51 : decode b_M_dispose 51 = .ok (.isub, 1) := by decide +kernel
theorem d_M_dispose_52 : decode b_M_dispose 52 = .ok (.ireturn, 1) := by decide +kernel
theorem d_M_dispose_53 : decode b_M_dispose 53 = .ok (.aload_n 0, 1) := by decide +kernel
theorem d_M_dispose_54 : decode b_M_dispose 54 = .ok (.getfield 54, 3) := by decide +kernel
theorem d_M_dispose_57 : decode b_M_dispose 57 = .ok (.iload_n 1, 1) := by decide +kernel
theorem d_M_dispose_58 : decode b_M_dispose 58 = .ok (.iload_n 3, 1) := by decide +kernel
theorem d_M_dispose_59 : decode b_M_dispose 59 = .ok (.iastore, 1) := by decide +kernel
theorem d_M_dispose_60 : decode b_M_dispose 60 = .ok (.aload_n 0, 1) := by decide +kernel
theorem d_M_dispose_61 : decode b_M_dispose 61 = .ok (.getfield 60, 3) := by decide +kernel
theorem d_M_dispose_64 : decode b_M_dispose 64 = .ok (.aload_n 0, 1) := by decide +kernel
theorem d_M_dispose_65 : decode b_M_dispose 65 = .ok (.getfield 176, 3) := by decide +kernel
theorem d_M_dispose_68 : decode b_M_dispose 68 = .ok (.iload_n 1, 1) := by decide +kernel
theorem d_M_dispose_69 : decode b_M_dispose 69 = .ok (.iastore, 1) := by decide +kernel
theorem d_M_dispose_70 : decode b_M_dispose 70 = .ok (.aload_n 0, 1) := by decide +kernel
theorem d_M_dispose_71 : decode b_M_dispose 71 = .ok (.dup, 1) := by decide +kernel
theorem d_M_dispose_72 : decode b_M_dispose 72 = .ok (.getfield 176, 3) := by decide +kernel
theorem d_M_dispose_75 : decode b_M_dispose 75 = .ok (.iconst 1, 1) := by decide +kernel
theorem d_M_dispose_76 : decode b_M_dispose 76 = .ok (.iadd, 1) := by decide +kernel
theorem d_M_dispose_77 : decode b_M_dispose 77 = .ok (.putfield 176, 3) := by decide +kernel
theorem d_M_dispose_80 : decode b_M_dispose 80 = .ok (.iconst 1, 1) := by decide +kernel
theorem d_M_dispose_81 : decode b_M_dispose 81 = .ok (.ireturn, 1) := by decide +kernel
theorem d_M_due_0 : decode b_M_due 0 = .ok (.aload_n 0, 1) := by decide +kernel
theorem d_M_due_1 : decode b_M_due 1 = .ok (.iconst 0, 1) := by decide +kernel
theorem d_M_due_2 : decode b_M_due 2 = .ok (.putfield 72, 3) := by decide +kernel
theorem d_M_due_5 : decode b_M_due 5 = .ok (.iload_n 1, 1) := by decide +kernel
theorem d_M_due_6 : decode b_M_due 6 = .ok (.invokestatic 146, 3) := by decide +kernel
theorem d_M_due_9 : decode b_M_due 9 = .ok (.ifCond .ne 6, 3) := by decide +kernel
theorem d_M_due_12 : decode b_M_due 12 = .ok (.bipush (-2), 2) := by decide +kernel
theorem d_M_due_14 : decode b_M_due 14 = .ok (.ireturn, 1) := by decide +kernel
theorem d_M_due_15 : decode b_M_due 15 = .ok (.aload_n 0, 1) := by decide +kernel
theorem d_M_due_16 : decode b_M_due 16 = .ok (.iconst 0, 1) := by decide +kernel
theorem d_M_due_17 : decode b_M_due 17 = .ok (.putfield 166, 3) := by decide +kernel
theorem d_M_due_20 : decode b_M_due 20 = .ok (.iconst 0, 1) := by decide +kernel
theorem d_M_due_21 : decode b_M_due 21 = .ok (.istore_n 2, 1) := by decide +kernel
theorem d_M_due_22 : decode b_M_due 22 = .ok (.iload_n 2, 1) := by decide +kernel
theorem d_M_due_23 : decode b_M_due 23 = .ok (.bipush 60, 2) := by decide +kernel
theorem d_M_due_25 : decode b_M_due 25 = .ok (.if_icmp .ge 145, 3) := by decide +kernel
theorem d_M_due_28 : decode b_M_due 28 = .ok (.aload_n 0, 1) := by decide +kernel
theorem d_M_due_29 : decode b_M_due 29 = .ok (.iload_n 2, 1) := by decide +kernel
theorem d_M_due_30 : decode b_M_due 30 = .ok (.iload_n 1, 1) := by decide +kernel
theorem d_M_due_31 : decode b_M_due 31 = .ok (.invokevirtual 169, 3) := by decide +kernel
theorem d_M_due_34 : decode b_M_due 34 = .ok (.ifCond .ne 6, 3) := by decide +kernel
theorem d_M_due_37 : decode b_M_due 37 = .ok (.goto 127, 3) := by decide +kernel
theorem d_M_due_40 : decode b_M_due 40 = .ok (.aload_n 0, 1) := by decide +kernel
theorem d_M_due_41 : decode b_M_due 41 = .ok (.iload_n 2, 1) := by decide +kernel
theorem d_M_due_42 : decode b_M_due 42 = .ok (.iload_n 1, 1) := by decide +kernel
theorem d_M_due_43 : decode b_M_due 43 = .ok (.invokevirtual 163, 3) := by decide +kernel
theorem d_M_due_46 : decode b_M_due 46 = .ok (.istore_n 3, 1) := by decide +kernel
theorem d_M_due_47 : decode b_M_due 47 = .ok (.aload_n 0, 1) := by decide +kernel
theorem d_M_due_48 : decode b_M_due 48 = .ok (.getfield 166, 3) := by decide +kernel
theorem d_M_due_51 : decode b_M_due 51 = .ok (.istore 4, 2) := by decide +kernel
theorem d_M_due_53 : decode b_M_due 53 = .ok (.iload 4, 2) := by decide +kernel
theorem d_M_due_55 : decode b_M_due 55 = .ok (.ifCond .le 70, 3) := by decide +kernel
theorem d_M_due_58 : decode b_M_due 58 = .ok (.aload_n 0, 1) := by decide +kernel
theorem d_M_due_59 : decode b_M_due 59 = .ok (.getfield 66, 3) := by decide +kernel
theorem d_M_due_62 : decode b_M_due 62 = .ok (.iload 4, 2) := by decide +kernel
theorem d_M_due_64 : decode b_M_due 64 = .ok (.iconst 1, 1) := by decide +kernel
theorem d_M_due_65 : decode b_M_due 65 = .ok (.isub, 1) := by decide +kernel
theorem d_M_due_66 : decode b_M_due 66 = .ok (.iaload, 1) := by decide +kernel
theorem d_M_due_67 : decode b_M_due 67 = .ok (.iload_n 3, 1) := by decide +kernel
theorem d_M_due_68 : decode b_M_due 68 = .ok (.if_icmp .le 57, 3) := by decide +kernel
theorem d_M_due_71 : decode b_M_due 71 = .ok (.aload_n 0, 1) := by decide +kernel
theorem d_M_due_72 : decode b_M_due 72 = .ok (.getfield 63, 3) := by decide +kernel
theorem d_M_due_75 : decode b_M_due 75 = .ok (.iload 4, 2) := by decide +kernel
theorem d_M_due_77 : decode b_M_due 77 = .ok (.aload_n 0, 1) := by decide +kernel
theorem d_M_due_78 : decode b_M_due 78 = .ok (.getfield 63, 3) := by decide +kernel
theorem d_M_due_81 : decode b_M_due 81 = .ok (.iload 4, 2) := by decide +kernel
theorem d_M_due_83 : decode b_M_due 83 = .ok (.iconst 1, 1) := by decide +kernel
theorem d_M_due_84 : decode b_M_due 84 = .ok (.isub, 1) := by decide +kernel
theorem d_M_due_85 : decode b_M_due 85 = .ok (.iaload, 1) := by decide +kernel
theorem d_M_due_86 : decode b_M_due 86 = .ok (.iastore, 1) := by decide +kernel
theorem d_M_due_87 : decode b_M_due 87 = .ok (.aload_n 0, 1) := by decide +kernel
theorem d_M_due_88 : decode b_M_due 88 = .ok (.getfield 66, 3) := by decide +kernel
theorem d_M_due_91 : decode b_M_due 91 = .ok (.iload 4, 2) := by decide +kernel
theorem d_M_due_93 : decode b_M_due 93 = .ok (.aload_n 0, 1) := by decide +kernel
theorem d_M_due_94 : decode b_M_due 94 = .ok (.getfield 66, 3) := by decide +kernel
theorem d_M_due_97 : decode b_M_due 97 = .ok (.iload 4, 2) := by decide +kernel
theorem d_M_due_99 : decode b_M_due 99 = .ok (.iconst 1, 1) := by decide +kernel
theorem d_M_due_100 : decode b_M_due 100 = .ok (.isub, 1) := by decide +kernel
theorem d_M_due_101 : decode b_M_due 101 = .ok (.iaload, 1) := by decide +kernel
theorem d_M_due_102 : decode b_M_due 102 = .ok (.iastore, 1) := by decide +kernel
theorem d_M_due_103 : decode b_M_due 103 = .ok (.aload_n 0, 1) := by decide +kernel
theorem d_M_due_104 : decode b_M_due 104 = .ok (.getfield 69, 3) := by decide +kernel
theorem d_M_due_107 : decode b_M_due 107 = .ok (.iload 4, 2) := by decide +kernel
theorem d_M_due_109 : decode b_M_due 109 = .ok (.aload_n 0, 1) := by decide +kernel
theorem d_M_due_110 : decode b_M_due 110 = .ok (.getfield 69, 3) := by decide +kernel
theorem d_M_due_113 : decode b_M_due 113 = .ok (.iload 4, 2) := by decide +kernel
theorem d_M_due_115 : decode b_M_due 115 = .ok (.iconst 1, 1) := by decide +kernel
theorem d_M_due_116 : decode b_M_due 116 = .ok (.isub, 1) := by decide +kernel
theorem d_M_due_117 : decode b_M_due 117 = .ok (.iaload, 1) := by decide +kernel
theorem d_M_due_118 : decode b_M_due 118 = .ok (.iastore, 1) := by decide +kernel
theorem d_M_due_119 : decode b_M_due 119 = .ok (.iinc 4 (-1), 3) := by decide +kernel
theorem d_M_due_122 : decode b_M_due 122 = .ok (.goto (-69), 3) := by decide +kernel
theorem d_M_due_125 : decode b_M_due 125 = .ok (.aload_n 0, 1) := by decide +kernel
theorem d_M_due_126 : decode b_M_due 126 = .ok (.getfield 63, 3) := by decide +kernel
theorem d_M_due_129 : decode b_M_due 129 = .ok (.iload 4, 2) := by decide +kernel
theorem d_M_due_131 : decode b_M_due 131 = .ok (.iload_n 2, 1) := by decide +kernel
theorem d_M_due_132 : decode b_M_due 132 = .ok (.iastore, 1) := by decide +kernel
theorem d_M_due_133 : decode b_M_due 133 = .ok (.aload_n 0, 1) := by decide +kernel
theorem d_M_due_134 : decode b_M_due 134 = .ok (.getfield 66, 3) := by decide +kernel
theorem d_M_due_137 : decode b_M_due 137 = .ok (.iload 4, 2) := by decide +kernel
theorem d_M_due_139 : decode b_M_due 139 = .ok (.iload_n 3, 1) := by decide +kernel
theorem d_M_due_140 : decode b_M_due 140 = .ok (.iastore, 1) := by decide +kernel
theorem d_M_due_141 : decode b_M_due 141 = .ok (.aload_n 0, 1) := by decide +kernel
theorem d_M_due_142 : decode b_M_due 142 = .ok (.getfield 69, 3) := by decide +kernel
theorem d_M_due_145 : decode b_M_due 145 = .ok (.iload 4, 2) := by decide +kernel
theorem d_M_due_147 : decode b_M_due 147 = .ok (.aload_n 0, 1) := by decide +kernel
theorem d_M_due_148 : decode b_M_due 148 = .ok (.iload_n 2, 1) := by decide +kernel
theorem d_M_due_149 : decode b_M_due 149 = .ok (.iload_n 1, 1) := by decide +kernel
theorem d_M_due_150 : decode b_M_due 150 = .ok (.invokevirtual 173, 3) := by decide +kernel
theorem d_M_due_153 : decode b_M_due 153 = .ok (.iastore, 1) := by decide +kernel
theorem d_M_due_154 : decode b_M_due 154 = .ok (.aload_n 0, 1) := by decide +kernel
theorem d_M_due_155 : decode b_M_due 155 = .ok (.dup, 1) := by decide +kernel
theorem d_M_due_156 : decode b_M_due 156 = .ok (.getfield 166, 3) := by decide +kernel
theorem d_M_due_159 : decode b_M_due 159 = .ok (.iconst 1, 1) := by decide +kernel
theorem d_M_due_160 : decode b_M_due 160 = .ok (.iadd, 1) := by decide +kernel
theorem d_M_due_161 : decode b_M_due 161 = .ok (.putfield 166, 3) := by decide +kernel
theorem d_M_due_164 : decode b_M_due 164 = .ok (.iinc 2 1, 3) := by decide +kernel
theorem d_M_due_167 : decode b_M_due 167 = .ok (.goto (-145), 3) := by decide +kernel
theorem d_M_due_170 : decode b_M_due 170 = .ok (.aload_n 0, 1) := by decide +kernel
theorem d_M_due_171 : decode b_M_due 171 = .ok (.getfield 166, 3) := by decide +kernel
theorem d_M_due_174 : decode b_M_due 174 = .ok (.ireturn, 1) := by decide +kernel
theorem d_M_dueDay_0 : decode b_M_dueDay 0 = .ok (.aload_n 0, 1) := by decide +kernel
theorem d_M_dueDay_1 : decode b_M_dueDay 1 = .ok (.iload_n 1, 1) := by decide +kernel
theorem d_M_dueDay_2 : decode b_M_dueDay 2 = .ok (.invokevirtual 156, 3) := by decide +kernel
theorem d_M_dueDay_5 : decode b_M_dueDay 5 = .ok (.ifCond .eq 6, 3) := by decide +kernel
theorem d_M_dueDay_8 : decode b_M_dueDay 8 = .ok (.bipush (-3), 2) := by decide +kernel
theorem d_M_dueDay_10 : decode b_M_dueDay 10 = .ok (.ireturn, 1) := by decide +kernel
theorem d_M_dueDay_11 : decode b_M_dueDay 11 = .ok (.iconst (-1), 1) := by decide +kernel
theorem d_M_dueDay_12 : decode b_M_dueDay 12 = .ok (.istore_n 3, 1) := by decide +kernel
theorem d_M_dueDay_13 : decode b_M_dueDay 13 = .ok (.iconst 0, 1) := by decide +kernel
theorem d_M_dueDay_14 : decode b_M_dueDay 14 = .ok (.istore 4, 2) := by decide +kernel
theorem d_M_dueDay_16 : decode b_M_dueDay 16 = .ok (.iload 4, 2) := by decide +kernel
theorem d_M_dueDay_18 : decode b_M_dueDay 18 = .ok (.aload_n 0, 1) := by decide +kernel
theorem d_M_dueDay_19 : decode b_M_dueDay 19 = .ok (.getfield 39, 3) := by decide +kernel
theorem d_M_dueDay_22 : decode b_M_dueDay 22 = .ok (.iload_n 1, 1) := by decide +kernel
theorem d_M_dueDay_23 : decode b_M_dueDay 23 = .ok (.iaload, 1) := by decide +kernel
theorem d_M_dueDay_24 : decode b_M_dueDay 24 = .ok (.if_icmp .ge 48, 3) := by decide +kernel
theorem d_M_dueDay_27 : decode b_M_dueDay 27 = .ok (.aload_n 0, 1) := by decide +kernel
theorem d_M_dueDay_28 : decode b_M_dueDay 28 = .ok (.iload_n 1, 1) := by decide +kernel
theorem d_M_dueDay_29 : decode b_M_dueDay 29 = .ok (.aload_n 0, 1) := by decide +kernel
theorem d_M_dueDay_30 : decode b_M_dueDay 30 = .ok (.getfield 36, 3) := by decide +kernel
theorem d_M_dueDay_33 : decode b_M_dueDay 33 = .ok (.iconst 4, 1) := by decide +kernel
theorem d_M_dueDay_34 : decode b_M_dueDay 34 = .ok (.iload_n 1, 1) := by decide +kernel
theorem d_M_dueDay_35 : decode b_M_dueDay 35 = .ok (.imul, 1) := by decide +kernel
theorem d_M_dueDay_36 : decode b_M_dueDay 36 = .ok (.iload 4, 2) := by decide +kernel
theorem d_M_dueDay_38 : decode b_M_dueDay 38 = .ok (.iadd, 1) := by decide +kernel
theorem d_M_dueDay_39 : decode b_M_dueDay 39 = .ok (.iaload, 1) := by decide +kernel
theorem d_M_dueDay_40 : decode b_M_dueDay 40 = .ok (.iload_n 2, 1) := by decide +kernel
theorem d_M_dueDay_41 : decode b_M_dueDay 41 = .ok (.invokevirtual 159, 3) := by decide +kernel
theorem d_M_dueDay_44 : decode b_M_dueDay 44 = .ok (.istore 5, 2) := by decide +kernel
theorem d_M_dueDay_46 : decode b_M_dueDay 46 = .ok (.iload 5, 2) := by decide +kernel
theorem d_M_dueDay_48 : decode b_M_dueDay 48 = .ok (.ifCond .ge 5, 3) := by decide +kernel
theorem d_M_dueDay_51 : decode b_M_dueDay 51 = .ok (.iconst (-1), 1) := by decide +kernel
theorem d_M_dueDay_52 : decode b_M_dueDay 52 = .ok (.ireturn, 1) := by decide +kernel
theorem d_M_dueDay_53 : decode b_M_dueDay 53 = .ok (.iload 5, 2) := by decide +kernel
theorem d_M_dueDay_55 : decode b_M_dueDay 55 = .ok (.iload_n 3, 1) := by decide +kernel
theorem d_M_dueDay_56 : decode b_M_dueDay 56 = .ok (.if_icmp .le 8, 3) := by decide +kernel
theorem d_M_dueDay_59 : decode b_M_dueDay 59 = .ok (.iload 5, 2) := by decide +kernel
theorem d_M_dueDay_61 : decode b_M_dueDay 61 = .ok (.goto 4, 3) := by decide +kernel
theorem d_M_dueDay_64 : decode b_M_dueDay 64 = .ok (.iload_n 3, 1) := by decide +kernel
theorem d_M_dueDay_65 : decode b_M_dueDay 65 = .ok (.istore_n 3, 1) := by decide +kernel
theorem d_M_dueDay_66 : decode b_M_dueDay 66 = .ok (.iinc 4 1, 3) := by decide +kernel
theorem d_M_dueDay_69 : decode b_M_dueDay 69 = .ok (.goto (-53), 3) := by decide +kernel
theorem d_M_dueDay_72 : decode b_M_dueDay 72 = .ok (.iload_n 3, 1) := by decide +kernel
theorem d_M_dueDay_73 : decode b_M_dueDay 73 = .ok (.ireturn, 1) := by decide +kernel
theorem d_M_event_0 : decode b_M_event 0 = .ok (.aload_n 0, 1) := by decide +kernel
theorem d_M_event_1 : decode b_M_event 1 = .ok (.iconst 0, 1) := by decide +kernel
theorem d_M_event_2 : decode b_M_event 2 = .ok (.putfield 72, 3) := by decide +kernel
theorem d_M_event_5 : decode b_M_event 5 = .ok (.iload_n 1, 1) := by decide +kernel
theorem d_M_event_6 : decode b_M_event 6 = .ok (.invokestatic 149, 3) := by decide +kernel
theorem d_M_event_9 : decode b_M_event 9 = .ok (.ifCond .ne 5, 3) := by decide +kernel
theorem d_M_event_12 : decode b_M_event 12 = .ok (.iconst (-1), 1) := by decide +kernel
theorem d_M_event_13 : decode b_M_event 13 = .ok (.ireturn, 1) := by decide +kernel
theorem d_M_event_14 : decode b_M_event 14 = .ok (.iload_n 2, 1) := by decide +kernel
theorem d_M_event_15 : decode b_M_event 15 = .ok (.iconst 0, 1) := by decide +kernel
theorem d_M_event_16 : decode b_M_event 16 = .ok (.iconst 3, 1) := by decide +kernel
theorem d_M_event_17 : decode b_M_event 17 = .ok (.invokestatic 76, 3) := by decide +kernel
theorem d_M_event_20 : decode b_M_event 20 = .ok (.ifCond .eq 10, 3) := by decide +kernel
theorem d_M_event_23 : decode b_M_event 23 = .ok (.iload_n 3, 1) := by decide +kernel
theorem d_M_event_24 : decode b_M_event 24 = .ok (.invokestatic 146, 3) := by decide +kernel
theorem d_M_event_27 : decode b_M_event 27 = .ok (.ifCond .ne 6, 3) := by decide +kernel
theorem d_M_event_30 : decode b_M_event 30 = .ok (.bipush (-2), 2) := by decide +kernel
theorem d_M_event_32 : decode b_M_event 32 = .ok (.ireturn, 1) := by decide +kernel
theorem d_M_event_33 : decode b_M_event 33 = .ok (.aload_n 0, 1) := by decide +kernel
theorem d_M_event_34 : decode b_M_event 34 = .ok (.getfield 54, 3) := by decide +kernel
theorem d_M_event_37 : decode b_M_event 37 = .ok (.iload_n 1, 1) := by decide +kernel
theorem d_M_event_38 : decode b_M_event 38 = .ok (.iaload, 1) := by decide +kernel
theorem d_M_event_39 : decode b_M_event 39 = .ok (.ifCond .lt 6, 3) := by decide +kernel
theorem d_M_event_42 : decode b_M_event 42 = .ok (.bipush (-3), 2) := by decide +kernel
theorem d_M_event_44 : decode b_M_event 44 = .ok (.ireturn, 1) := by decide +kernel
theorem d_M_event_45 : decode b_M_event 45 = .ok (.aload_n 0, 1) := by decide +kernel
theorem d_M_event_46 : decode b_M_event 46 = .ok (.getfield 33, 3) := by decide +kernel
theorem d_M_event_49 : decode b_M_event 49 = .ok (.iconst 4, 1) := by decide +kernel
theorem d_M_event_50 : decode b_M_event 50 = .ok (.iload_n 1, 1) := by decide +kernel
theorem d_M_event_51 : decode b_M_event 51 = .ok (.imul, 1) := by decide +kernel
theorem d_M_event_52 : decode b_M_event 52 = .ok (.iload_n 2, 1) := by decide +kernel
theorem d_M_event_53 : decode b_M_event 53 = .ok (.iadd, 1) := by decide +kernel
theorem d_M_event_54 : decode b_M_event 54 = .ok (.iload_n 3, 1) := by decide +kernel
theorem d_M_event_55 : decode b_M_event 55 = .ok (.iastore, 1) := by decide +kernel
theorem d_M_event_56 : decode b_M_event 56 = .ok (.aload_n 0, 1) := by decide +kernel
theorem d_M_event_57 : decode b_M_event 57 = .ok (.getfield 48, 3) := by decide +kernel
theorem d_M_event_60 : decode b_M_event 60 = .ok (.iload_n 1, 1) := by decide +kernel
theorem d_M_event_61 : decode b_M_event 61 = .ok (.iconst 0, 1) := by decide +kernel
theorem d_M_event_62 : decode b_M_event 62 = .ok (.iastore, 1) := by decide +kernel
theorem d_M_event_63 : decode b_M_event 63 = .ok (.iconst 1, 1) := by decide +kernel
theorem d_M_event_64 : decode b_M_event 64 = .ok (.ireturn, 1) := by decide +kernel
theorem d_M_eventJ_0 : decode b_M_eventJ 0 = .ok (.lload_n 0, 1) := by decide +kernel
theorem d_M_eventJ_1 : decode b_M_eventJ 1 = .ok (.bipush 13, 2) := by decide +kernel
theorem d_M_eventJ_3 : decode b_M_eventJ 3 = .ok (.iconst 1, 1) := by decide +kernel
theorem d_M_eventJ_4 : decode b_M_eventJ 4 = .ok (.iconst 4, 1) := by decide +kernel
theorem d_M_eventJ_5 : decode b_M_eventJ 5 = .ok (.iconst 5, 1) := by decide +kernel
theorem d_M_eventJ_6 : decode b_M_eventJ 6 = .ok (.invokestatic 104, 3) := by decide +kernel
theorem d_M_eventJ_9 : decode b_M_eventJ 9 = .ok (.lcmp, 1) := by decide +kernel
theorem d_M_eventJ_10 : decode b_M_eventJ 10 = .ok (.ifCond .ne 5, 3) := by decide +kernel
theorem d_M_eventJ_13 : decode b_M_eventJ 13 = .ok (.iconst 0, 1) := by decide +kernel
theorem d_M_eventJ_14 : decode b_M_eventJ 14 = .ok (.ireturn, 1) := by decide +kernel
theorem d_M_eventJ_15 : decode b_M_eventJ 15 = .ok (.lload_n 0, 1) := by decide +kernel
theorem d_M_eventJ_16 : decode b_M_eventJ 16 = .ok (.bipush 21, 2) := by decide +kernel
theorem d_M_eventJ_18 : decode b_M_eventJ 18 = .ok (.bipush 19, 2) := by decide +kernel
theorem d_M_eventJ_20 : decode b_M_eventJ 20 = .ok (.iconst 5, 1) := by decide +kernel
theorem d_M_eventJ_21 : decode b_M_eventJ 21 = .ok (.iconst 4, 1) := by decide +kernel
theorem d_M_eventJ_22 : decode b_M_eventJ 22 = .ok (.invokestatic 104, 3) := by decide +kernel
theorem d_M_eventJ_25 : decode b_M_eventJ 25 = .ok (.lcmp, 1) := by decide +kernel
theorem d_M_eventJ_26 : decode b_M_eventJ 26 = .ok (.ifCond .ne 5, 3) := by decide +kernel
theorem d_M_eventJ_29 : decode b_M_eventJ 29 = .ok (.iconst 1, 1) := by decide +kernel
theorem d_M_eventJ_30 : decode b_M_eventJ 30 = .ok (.ireturn, 1) := by decide +kernel
theorem d_M_eventJ_31 : decode b_M_eventJ 31 = .ok (.lload_n 0, 1) := by decide +kernel
theorem d_M_eventJ_32 : decode b_M_eventJ 32 = .ok (.iconst 3, 1) := by decide +kernel
theorem d_M_eventJ_33 : decode b_M_eventJ 33 = .ok (.bipush 12, 2) := by decide +kernel
theorem d_M_eventJ_35 : decode b_M_eventJ 35 = .ok (.bipush 15, 2) := by decide +kernel
theorem d_M_eventJ_37 : decode b_M_eventJ 37 = .ok (.bipush 19, 2) := by decide +kernel
theorem d_M_eventJ_39 : decode b_M_eventJ 39 = .ok (.invokestatic 104, 3) := by decide +kernel
theorem d_M_eventJ_42 : decode b_M_eventJ 42 = .ok (.ldc2_w 98, 3) := by decide +kernel
theorem d_M_eventJ_45 : decode b_M_eventJ 45 = .ok (.lmul, 1) := by decide +kernel
theorem d_M_eventJ_46 : decode b_M_eventJ 46 = .ok (.ldc2_w 108, 3) := by decide +kernel
theorem d_M_eventJ_49 : decode b_M_eventJ 49 = .ok (.ladd, 1) := by decide +kernel
theorem d_M_eventJ_50 : decode b_M_eventJ 50 = .ok (.ldc2_w 98, 3) := by decide +kernel
theorem d_M_eventJ_53 : decode b_M_eventJ 53 = .ok (.lmul, 1) := by decide +kernel
theorem d_M_eventJ_54 : decode b_M_eventJ 54 = .ok (.ldc2_w 110, 3) := by decide +kernel
theorem d_M_eventJ_57 : decode b_M_eventJ 57 = .ok (.ladd, 1) := by decide +kernel
theorem d_M_eventJ_58 : decode b_M_eventJ 58 = .ok (.lcmp, 1) := by decide +kernel
theorem d_M_eventJ_59 : decode b_M_eventJ 59 = .ok (.ifCond .ne 5, 3) := by decide +kernel
theorem d_M_eventJ_62 : decode b_M_eventJ 62 = .ok (.iconst 2, 1) := by decide +kernel
theorem d_M_eventJ_63 : decode b_M_eventJ 63 = .ok (.ireturn, 1) := by decide +kernel
theorem d_M_eventJ_64 : decode b_M_eventJ 64 = .ok (.lload_n 0, 1) := by decide +kernel
theorem d_M_eventJ_65 : decode b_M_eventJ 65 = .ok (.iconst 4, 1) := by decide +kernel
theorem d_M_eventJ_66 : decode b_M_eventJ 66 = .ok (.iconst 5, 1) := by decide +kernel
theorem d_M_eventJ_67 : decode b_M_eventJ 67 = .ok (.iconst 1, 1) := by decide +kernel
theorem d_M_eventJ_68 : decode b_M_eventJ 68 = .ok (.bipush 20, 2) := by decide +kernel
theorem d_M_eventJ_70 : decode b_M_eventJ 70 = .ok (.invokestatic 104, 3) := by decide +kernel
theorem d_M_eventJ_73 : decode b_M_eventJ 73 = .ok (.ldc2_w 98, 3) := by decide +kernel
theorem d_M_eventJ_76 : decode b_M_eventJ 76 = .ok (.lmul, 1) := by decide +kernel
theorem d_M_eventJ_77 : decode b_M_eventJ 77 = .ok (.ldc2_w 112, 3) := by decide +kernel
theorem d_M_eventJ_80 : decode b_M_eventJ 80 = .ok (.ladd, 1) := by decide +kernel
theorem d_M_eventJ_81 : decode b_M_eventJ 81 = .ok (.lcmp, 1) := by decide +kernel
theorem d_M_eventJ_82 : decode b_M_eventJ 82 = .ok (.ifCond .ne 7, 3) := by decide +kernel
theorem d_M_eventJ_85 : decode b_M_eventJ 85 = .ok (.iconst 3, 1) := by decide +kernel
theorem d_M_eventJ_86 : decode b_M_eventJ 86 = .ok (.goto 4, 3) := by decide +kernel
theorem d_M_eventJ_89 : decode b_M_eventJ 89 = .ok (.iconst (-1), 1) := by decide +kernel
theorem d_M_eventJ_90 : decode b_M_eventJ 90 = .ok (.ireturn, 1) := by decide +kernel
theorem d_M_except_0 : decode b_M_except 0 = .ok (.aload_n 0, 1) := by decide +kernel
theorem d_M_except_1 : decode b_M_except 1 = .ok (.iconst 0, 1) := by decide +kernel
theorem d_M_except_2 : decode b_M_except 2 = .ok (.putfield 72, 3) := by decide +kernel
theorem d_M_except_5 : decode b_M_except 5 = .ok (.iload_n 1, 1) := by decide +kernel
theorem d_M_except_6 : decode b_M_except 6 = .ok (.invokestatic 149, 3) := by decide +kernel
theorem d_M_except_9 : decode b_M_except 9 = .ok (.ifCond .ne 5, 3) := by decide +kernel
theorem d_M_except_12 : decode b_M_except 12 = .ok (.iconst (-1), 1) := by decide +kernel
theorem d_M_except_13 : decode b_M_except 13 = .ok (.ireturn, 1) := by decide +kernel
theorem d_M_except_14 : decode b_M_except 14 = .ok (.iload_n 2, 1) := by decide +kernel
theorem d_M_except_15 : decode b_M_except 15 = .ok (.invokestatic 146, 3) := by decide +kernel
theorem d_M_except_18 : decode b_M_except 18 = .ok (.ifCond .ne 6, 3) := by decide +kernel
theorem d_M_except_21 : decode b_M_except 21 = .ok (.bipush (-2), 2) := by decide +kernel
theorem d_M_except_23 : decode b_M_except 23 = .ok (.ireturn, 1) := by decide +kernel
theorem d_M_except_24 : decode b_M_except 24 = .ok (.aload_n 0, 1) := by decide +kernel
theorem d_M_except_25 : decode b_M_except 25 = .ok (.getfield 45, 3) := by decide +kernel
theorem d_M_except_28 : decode b_M_except 28 = .ok (.iload_n 1, 1) := by decide +kernel
theorem d_M_except_29 : decode b_M_except 29 = .ok (.iload_n 2, 1) := by decide +kernel
theorem d_M_except_30 : decode b_M_except 30 = .ok (.iastore, 1) := by decide +kernel
theorem d_M_except_31 : decode b_M_except 31 = .ok (.aload_n 0, 1) := by decide +kernel
theorem d_M_except_32 : decode b_M_except 32 = .ok (.getfield 48, 3) := by decide +kernel
theorem d_M_except_35 : decode b_M_except 35 = .ok (.iload_n 1, 1) := by decide +kernel
theorem d_M_except_36 : decode b_M_except 36 = .ok (.iconst 0, 1) := by decide +kernel
theorem d_M_except_37 : decode b_M_except 37 = .ok (.iastore, 1) := by decide +kernel
theorem d_M_except_38 : decode b_M_except 38 = .ok (.iconst 1, 1) := by decide +kernel
theorem d_M_except_39 : decode b_M_except 39 = .ok (.ireturn, 1) := by decide +kernel
theorem d_M_fails_0 : decode b_M_fails 0 = .ok (.iconst 0, 1) := by decide +kernel
theorem d_M_fails_1 : decode b_M_fails 1 = .ok (.istore_n 2, 1) := by decide +kernel
theorem d_M_fails_2 : decode b_M_fails 2 = .ok (.iconst 0, 1) := by decide +kernel
theorem d_M_fails_3 : decode b_M_fails 3 = .ok (.istore_n 3, 1) := by decide +kernel
theorem d_M_fails_4 : decode b_M_fails 4 = .ok (.iload_n 3, 1) := by decide +kernel
theorem d_M_fails_5 : decode b_M_fails 5 = .ok (.aload_n 0, 1) := by decide +kernel
theorem d_M_fails_6 : decode b_M_fails 6 = .ok (.getfield 39, 3) := by decide +kernel
theorem d_M_fails_9 : decode b_M_fails 9 = .ok (.iload_n 1, 1) := by decide +kernel
theorem d_M_fails_10 : decode b_M_fails 10 = .ok (.iaload, 1) := by decide +kernel
theorem d_M_fails_11 : decode b_M_fails 11 = .ok (.if_icmp .ge 37, 3) := by decide +kernel
theorem d_M_fails_14 : decode b_M_fails 14 = .ok (.iload_n 2, 1) := by decide +kernel
theorem d_M_fails_15 : decode b_M_fails 15 = .ok (.ifCond .ne 21, 3) := by decide +kernel
theorem d_M_fails_18 : decode b_M_fails 18 = .ok (.aload_n 0, 1) := by decide +kernel
theorem d_M_fails_19 : decode b_M_fails 19 = .ok (.getfield 20, 3) := by decide +kernel
theorem d_M_fails_22 : decode b_M_fails 22 = .ok (.aload_n 0, 1) := by decide +kernel
theorem d_M_fails_23 : decode b_M_fails 23 = .ok (.getfield 36, 3) := by decide +kernel
theorem d_M_fails_26 : decode b_M_fails 26 = .ok (.iconst 4, 1) := by decide +kernel
theorem d_M_fails_27 : decode b_M_fails 27 = .ok (.iload_n 1, 1) := by decide +kernel
theorem d_M_fails_28 : decode b_M_fails 28 = .ok (.imul, 1) := by decide +kernel
theorem d_M_fails_29 : decode b_M_fails 29 = .ok (.iload_n 3, 1) := by decide +kernel
theorem d_M_fails_30 : decode b_M_fails 30 = .ok (.iadd, 1) := by decide +kernel
theorem d_M_fails_31 : decode b_M_fails 31 = .ok (.iaload, 1) := by decide +kernel
theorem d_M_fails_32 : decode b_M_fails 32 = .ok (.baload, 1) := by decide +kernel
theorem d_M_fails_33 : decode b_M_fails 33 = .ok (.ifCond .eq 7, 3) := by decide +kernel
theorem d_M_fails_36 : decode b_M_fails 36 = .ok (.iconst 1, 1) := by decide +kernel
theorem d_M_fails_37 : decode b_M_fails 37 = .ok (.goto 4, 3) := by decide +kernel
theorem d_M_fails_40 : decode b_M_fails 40 = .ok (.iconst 0, 1) := by decide +kernel
theorem d_M_fails_41 : decode b_M_fails 41 = .ok (.istore_n 2, 1) := by decide +kernel
theorem d_M_fails_42 : decode b_M_fails 42 = .ok (.iinc 3 1, 3) := by decide +kernel
theorem d_M_fails_45 : decode b_M_fails 45 = .ok (.goto (-41), 3) := by decide +kernel
theorem d_M_fails_48 : decode b_M_fails 48 = .ok (.iload_n 2, 1) := by decide +kernel
theorem d_M_fails_49 : decode b_M_fails 49 = .ok (.ireturn, 1) := by decide +kernel
theorem d_M_history_0 : decode b_M_history 0 = .ok (.aload_n 0, 1) := by decide +kernel
theorem d_M_history_1 : decode b_M_history 1 = .ok (.iload_n 1, 1) := by decide +kernel
theorem d_M_history_2 : decode b_M_history 2 = .ok (.iconst 0, 1) := by decide +kernel
theorem d_M_history_3 : decode b_M_history 3 = .ok (.aload_n 0, 1) := by decide +kernel
theorem d_M_history_4 : decode b_M_history 4 = .ok (.getfield 176, 3) := by decide +kernel
theorem d_M_history_7 : decode b_M_history 7 = .ok (.iconst 1, 1) := by decide +kernel
theorem d_M_history_8 : decode b_M_history 8 = .ok (.isub, 1) := by decide +kernel
theorem d_M_history_9 : decode b_M_history 9 = .ok (.invokestatic 76, 3) := by decide +kernel
theorem d_M_history_12 : decode b_M_history 12 = .ok (.ifCond .eq 7, 3) := by decide +kernel
theorem d_M_history_15 : decode b_M_history 15 = .ok (.iconst 0, 1) := by decide +kernel
theorem d_M_history_16 : decode b_M_history 16 = .ok (.goto 4, 3) := by decide +kernel
theorem d_M_history_19 : decode b_M_history 19 = .ok (.iconst 1, 1) := by decide +kernel
theorem d_M_history_20 : decode b_M_history 20 = .ok (.putfield 72, 3) := by decide +kernel
theorem d_M_history_23 : decode b_M_history 23 = .ok (.aload_n 0, 1) := by decide +kernel
theorem d_M_history_24 : decode b_M_history 24 = .ok (.getfield 72, 3) := by decide +kernel
theorem d_M_history_27 : decode b_M_history 27 = .ok (.ifCond .le 7, 3) := by decide +kernel
theorem d_M_history_30 : decode b_M_history 30 = .ok (.iconst 0, 1) := by decide +kernel
theorem d_M_history_31 : decode b_M_history 31 = .ok (.goto 9, 3) := by decide +kernel
theorem d_M_history_34 : decode b_M_history 34 = .ok (.aload_n 0, 1) := by decide +kernel
theorem d_M_history_35 : decode b_M_history 35 = .ok (.getfield 60, 3) := by decide +kernel
theorem d_M_history_38 : decode b_M_history 38 = .ok (.iload_n 1, 1) := by decide +kernel
theorem d_M_history_39 : decode b_M_history 39 = .ok (.iaload, 1) := by decide +kernel
theorem d_M_history_40 : decode b_M_history 40 = .ok (.ireturn, 1) := by decide +kernel
theorem d_M_hold_0 : decode b_M_hold 0 = .ok (.aload_n 0, 1) := by decide +kernel
theorem d_M_hold_1 : decode b_M_hold 1 = .ok (.iconst 0, 1) := by decide +kernel
theorem d_M_hold_2 : decode b_M_hold 2 = .ok (.putfield 72, 3) := by decide +kernel
theorem d_M_hold_5 : decode b_M_hold 5 = .ok (.iload_n 1, 1) := by decide +kernel
theorem d_M_hold_6 : decode b_M_hold 6 = .ok (.invokestatic 149, 3) := by decide +kernel
theorem d_M_hold_9 : decode b_M_hold 9 = .ok (.ifCond .ne 5, 3) := by decide +kernel
theorem d_M_hold_12 : decode b_M_hold 12 = .ok (.iconst (-1), 1) := by decide +kernel
theorem d_M_hold_13 : decode b_M_hold 13 = .ok (.ireturn, 1) := by decide +kernel
theorem d_M_hold_14 : decode b_M_hold 14 = .ok (.iload_n 2, 1) := by decide +kernel
theorem d_M_hold_15 : decode b_M_hold 15 = .ok (.iconst 0, 1) := by decide +kernel
theorem d_M_hold_16 : decode b_M_hold 16 = .ok (.iconst 3, 1) := by decide +kernel
theorem d_M_hold_17 : decode b_M_hold 17 = .ok (.invokestatic 76, 3) := by decide +kernel
theorem d_M_hold_20 : decode b_M_hold 20 = .ok (.ifCond .eq 13, 3) := by decide +kernel
theorem d_M_hold_23 : decode b_M_hold 23 = .ok (.iload_n 3, 1) := by decide +kernel
theorem d_M_hold_24 : decode b_M_hold 24 = .ok (.iconst (-1), 1) := by decide +kernel
theorem d_M_hold_25 : decode b_M_hold 25 = .ok (.ldc 80, 2) := by decide +kernel
theorem d_M_hold_27 : decode b_M_hold 27 = .ok (.invokestatic 76, 3) := by decide +kernel
theorem d_M_hold_30 : decode b_M_hold 30 = .ok (.ifCond .ne 6, 3) := by decide +kernel
theorem d_M_hold_33 : decode b_M_hold 33 = .ok (.bipush (-2), 2) := by decide +kernel
theorem d_M_hold_35 : decode b_M_hold 35 = .ok (.ireturn, 1) := by decide +kernel
theorem d_M_hold_36 : decode b_M_hold 36 = .ok (.aload_n 0, 1) := by decide +kernel
theorem d_M_hold_37 : decode b_M_hold 37 = .ok (.getfield 42, 3) := by decide +kernel
theorem d_M_hold_40 : decode b_M_hold 40 = .ok (.iconst 4, 1) := by decide +kernel
theorem d_M_hold_41 : decode b_M_hold 41 = .ok (.iload_n 1, 1) := by decide +kernel
theorem d_M_hold_42 : decode b_M_hold 42 = .ok (.imul, 1) := by decide +kernel
theorem d_M_hold_43 : decode b_M_hold 43 = .ok (.iload_n 2, 1) := by decide +kernel
theorem d_M_hold_44 : decode b_M_hold 44 = .ok (.iadd, 1) := by decide +kernel
theorem d_M_hold_45 : decode b_M_hold 45 = .ok (.iload_n 3, 1) := by decide +kernel
theorem d_M_hold_46 : decode b_M_hold 46 = .ok (.iastore, 1) := by decide +kernel
theorem d_M_hold_47 : decode b_M_hold 47 = .ok (.aload_n 0, 1) := by decide +kernel
theorem d_M_hold_48 : decode b_M_hold 48 = .ok (.getfield 48, 3) := by decide +kernel
theorem d_M_hold_51 : decode b_M_hold 51 = .ok (.iload_n 1, 1) := by decide +kernel
theorem d_M_hold_52 : decode b_M_hold 52 = .ok (.iconst 0, 1) := by decide +kernel
theorem d_M_hold_53 : decode b_M_hold 53 = .ok (.iastore, 1) := by decide +kernel
theorem d_M_hold_54 : decode b_M_hold 54 = .ok (.iconst 1, 1) := by decide +kernel
theorem d_M_hold_55 : decode b_M_hold 55 = .ok (.ireturn, 1) := by decide +kernel
theorem d_M_in_0 : decode b_M_in 0 = .ok (.iload_n 0, 1) := by decide +kernel
theorem d_M_in_1 : decode b_M_in 1 = .ok (.iload_n 1, 1) := by decide +kernel
theorem d_M_in_2 : decode b_M_in 2 = .ok (.if_icmp .lt 12, 3) := by decide +kernel
theorem d_M_in_5 : decode b_M_in 5 = .ok (.iload_n 0, 1) := by decide +kernel
theorem d_M_in_6 : decode b_M_in 6 = .ok (.iload_n 2, 1) := by decide +kernel
theorem d_M_in_7 : decode b_M_in 7 = .ok (.if_icmp .gt 7, 3) := by decide +kernel
theorem d_M_in_10 : decode b_M_in 10 = .ok (.iconst 1, 1) := by decide +kernel
theorem d_M_in_11 : decode b_M_in 11 = .ok (.goto 4, 3) := by decide +kernel
theorem d_M_in_14 : decode b_M_in 14 = .ok (.iconst 0, 1) := by decide +kernel
theorem d_M_in_15 : decode b_M_in 15 = .ok (.ireturn, 1) := by decide +kernel
theorem d_M_init_0 : decode b_M_init 0 = .ok (.aload_n 0, 1) := by decide +kernel
theorem d_M_init_1 : decode b_M_init 1 = .ok (.invokespecial 1, 3) := by decide +kernel
theorem d_M_init_4 : decode b_M_init 4 = .ok (.aload_n 0, 1) := by decide +kernel
theorem d_M_init_5 : decode b_M_init 5 = .ok (.bipush 40, 2) := by decide +kernel
theorem d_M_init_7 : decode b_M_init 7 = .ok (.newarray .byte, 2) := by decide +kernel
theorem d_M_init_9 : decode b_M_init 9 = .ok (.putfield 7, 3) := by decide +kernel
theorem d_M_init_12 : decode b_M_init 12 = .ok (.aload_n 0, 1) := by decide +kernel
theorem d_M_init_13 : decode b_M_init 13 = .ok (.bipush 20, 2) := by decide +kernel
theorem d_M_init_15 : decode b_M_init 15 = .ok (.newarray .int, 2) := by decide +kernel
theorem d_M_init_17 : decode b_M_init 17 = .ok (.putfield 13, 3) := by decide +kernel
theorem d_M_init_20 : decode b_M_init 20 = .ok (.aload_n 0, 1) := by decide +kernel
theorem d_M_init_21 : decode b_M_init 21 = .ok (.bipush 20, 2) := by decide +kernel
theorem d_M_init_23 : decode b_M_init 23 = .ok (.newarray .int, 2) := by decide +kernel
theorem d_M_init_25 : decode b_M_init 25 = .ok (.putfield 17, 3) := by decide +kernel
theorem d_M_init_28 : decode b_M_init 28 = .ok (.aload_n 0, 1) := by decide +kernel
theorem d_M_init_29 : decode b_M_init 29 = .ok (.bipush 20, 2) := by decide +kernel
theorem d_M_init_31 : decode b_M_init 31 = .ok (.newarray .boolean, 2) := by decide +kernel
theorem d_M_init_33 : decode b_M_init 33 = .ok (.putfield 20, 3) := by decide +kernel
theorem d_M_init_36 : decode b_M_init 36 = .ok (.aload_n 0, 1) := by decide +kernel
theorem d_M_init_37 : decode b_M_init 37 = .ok (.bipush 20, 2) := by decide +kernel
theorem d_M_init_39 : decode b_M_init 39 = .ok (.newarray .int, 2) := by decide +kernel
theorem d_M_init_41 : decode b_M_init 41 = .ok (.putfield 24, 3) := by decide +kernel
theorem d_M_init_44 : decode b_M_init 44 = .ok (.aload_n 0, 1) := by decide +kernel
theorem d_M_init_45 : decode b_M_init 45 = .ok (.bipush 120, 2) := by decide +kernel
theorem d_M_init_47 : decode b_M_init 47 = .ok (.newarray .int, 2) := by decide +kernel
theorem d_M_init_49 : decode b_M_init 49 = .ok (.putfield 27, 3) := by decide +kernel
theorem d_M_init_52 : decode b_M_init 52 = .ok (.aload_n 0, 1) := by decide +kernel
theorem d_M_init_53 : decode b_M_init 53 = .ok (.bipush 120, 2) := by decide +kernel
theorem d_M_init_55 : decode b_M_init 55 = .ok (.newarray .int, 2) := by decide +kernel
theorem d_M_init_57 : decode b_M_init 57 = .ok (.putfield 30, 3) := by decide +kernel
theorem d_M_init_60 : decode b_M_init 60 = .ok (.aload_n 0, 1) := by decide +kernel
theorem d_M_init_61 : decode b_M_init 61 = .ok (.sipush 240, 3) := by decide +kernel
theorem d_M_init_64 : decode b_M_init 64 = .ok (.newarray .int, 2) := by decide +kernel
theorem d_M_init_66 : decode b_M_init 66 = .ok (.putfield 33, 3) := by decide +kernel
theorem d_M_init_69 : decode b_M_init 69 = .ok (.aload_n 0, 1) := by decide +kernel
theorem d_M_init_70 : decode b_M_init 70 = .ok (.sipush 240, 3) := by decide +kernel
theorem d_M_init_73 : decode b_M_init 73 = .ok (.newarray .int, 2) := by decide +kernel
theorem d_M_init_75 : decode b_M_init 75 = .ok (.putfield 36, 3) := by decide +kernel
theorem d_M_init_78 : decode b_M_init 78 = .ok (.aload_n 0, 1) := by decide +kernel
theorem d_M_init_79 : decode b_M_init 79 = .ok (.bipush 60, 2) := by decide +kernel
theorem d_M_init_81 : decode b_M_init 81 = .ok (.newarray .int, 2) := by decide +kernel
theorem d_M_init_83 : decode b_M_init 83 = .ok (.putfield 39, 3) := by decide +kernel
theorem d_M_init_86 : decode b_M_init 86 = .ok (.aload_n 0, 1) := by decide +kernel
theorem d_M_init_87 : decode b_M_init 87 = .ok (.sipush 240, 3) := by decide +kernel
theorem d_M_init_90 : decode b_M_init 90 = .ok (.newarray .int, 2) := by decide +kernel
theorem d_M_init_92 : decode b_M_init 92 = .ok (.putfield 42, 3) := by decide +kernel
theorem d_M_init_95 : decode b_M_init 95 = .ok (.aload_n 0, 1) := by decide +kernel
theorem d_M_init_96 : decode b_M_init 96 = .ok (.bipush 60, 2) := by decide +kernel
theorem d_M_init_98 : decode b_M_init 98 = .ok (.newarray .int, 2) := by decide +kernel
theorem d_M_init_100 : decode b_M_init 100 = .ok (.putfield 45, 3) := by decide +kernel
theorem d_M_init_103 : decode b_M_init 103 = .ok (.aload_n 0, 1) := by decide +kernel
theorem d_M_init_104 : decode b_M_init 104 = .ok (.bipush 60, 2) := by decide +kernel
theorem d_M_init_106 : decode b_M_init 106 = .ok (.newarray .int, 2) := by decide +kernel
theorem d_M_init_108 : decode b_M_init 108 = .ok (.putfield 48, 3) := by decide +kernel
theorem d_M_init_111 : decode b_M_init 111 = .ok (.aload_n 0, 1) := by decide +kernel
theorem d_M_init_112 : decode b_M_init 112 = .ok (.bipush 60, 2) := by decide +kernel
theorem d_M_init_114 : decode b_M_init 114 = .ok (.newarray .int, 2) := by decide +kernel
theorem d_M_init_116 : decode b_M_init 116 = .ok (.putfield 51, 3) := by decide +kernel
theorem d_M_init_119 : decode b_M_init 119 = .ok (.aload_n 0, 1) := by decide +kernel
theorem d_M_init_120 : decode b_M_init 120 = .ok (.bipush 60, 2) := by decide +kernel
theorem d_M_init_122 : decode b_M_init 122 = .ok (.newarray .int, 2) := by decide +kernel
theorem d_M_init_124 : decode b_M_init 124 = .ok (.putfield 54, 3) := by decide +kernel
theorem d_M_init_127 : decode b_M_init 127 = .ok (.aload_n 0, 1) := by decide +kernel
theorem d_M_init_128 : decode b_M_init 128 = .ok (.bipush 60, 2) := by decide +kernel
theorem d_M_init_130 : decode b_M_init 130 = .ok (.newarray .int, 2) := by decide +kernel
theorem d_M_init_132 : decode b_M_init 132 = .ok (.putfield 57, 3) := by decide +kernel
theorem d_M_init_135 : decode b_M_init 135 = .ok (.aload_n 0, 1) := by decide +kernel
theorem d_M_init_136 : decode b_M_init 136 = .ok (.bipush 60, 2) := by decide +kernel
theorem d_M_init_138 : decode b_M_init 138 = .ok (.newarray .int, 2) := by decide +kernel
theorem d_M_init_140 : decode b_M_init 140 = .ok (.putfield 60, 3) := by decide +kernel
theorem d_M_init_143 : decode b_M_init 143 = .ok (.aload_n 0, 1) := by decide +kernel
theorem d_M_init_144 : decode b_M_init 144 = .ok (.bipush 60, 2) := by decide +kernel
theorem d_M_init_146 : decode b_M_init 146 = .ok (.newarray .int, 2) := by decide +kernel
theorem d_M_init_148 : decode b_M_init 148 = .ok (.putfield 63, 3) := by decide +kernel
theorem d_M_init_151 : decode b_M_init 151 = .ok (.aload_n 0, 1) := by decide +kernel
theorem d_M_init_152 : decode b_M_init 152 = .ok (.bipush 60, 2) := by decide +kernel
theorem d_M_init_154 : decode b_M_init 154 = .ok (.newarray .int, 2) := by decide +kernel
theorem d_M_init_156 : decode b_M_init 156 = .ok (.putfield 66, 3) := by decide +kernel
theorem d_M_init_159 : decode b_M_init 159 = .ok (.aload_n 0, 1) := by decide +kernel
theorem d_M_init_160 : decode b_M_init 160 = .ok (.bipush 60, 2) := by decide +kernel
end
section
theorem d_M_init_162 : decode b_M_init 162 = .ok (.newarray .int, 2) := by decide +kernel
theorem d_M_init_164 : decode b_M_init 164 = .ok (.putfield 69, 3) := by decide +kernel
theorem d_M_init_167 : decode b_M_init 167 = .ok (.iconst 0, 1) := by decide +kernel
theorem d_M_init_168 : decode b_M_init 168 = .ok (.istore_n 1, 1) := by decide +kernel
theorem d_M_init_169 : decode b_M_init 169 = .ok (.iload_n 1, 1) := by decide +kernel
theorem d_M_init_170 : decode b_M_init 170 = .ok (.sipush 240, 3) := by decide +kernel
theorem d_M_init_173 : decode b_M_init 173 = .ok (.if_icmp .ge 24, 3) := by decide +kernel
theorem d_M_init_176 : decode b_M_init 176 = .ok (.aload_n 0, 1) := by decide +kernel
theorem d_M_init_177 : decode b_M_init 177 = .ok (.getfield 33, 3) := by decide +kernel
theorem d_M_init_180 : decode b_M_init 180 = .ok (.iload_n 1, 1) := by decide +kernel
theorem d_M_init_181 : decode b_M_init 181 = .ok (.iconst (-1), 1) := by decide +kernel
theorem d_M_init_182 : decode b_M_init 182 = .ok (.iastore, 1) := by decide +kernel
theorem d_M_init_183 : decode b_M_init 183 = .ok (.aload_n 0, 1) := by decide +kernel
theorem d_M_init_184 : decode b_M_init 184 = .ok (.getfield 42, 3) := by decide +kernel
theorem d_M_init_187 : decode b_M_init 187 = .ok (.iload_n 1, 1) := by decide +kernel
theorem d_M_init_188 : decode b_M_init 188 = .ok (.bipush (-2), 2) := by decide +kernel
theorem d_M_init_190 : decode b_M_init 190 = .ok (.iastore, 1) := by decide +kernel
theorem d_M_init_191 : decode b_M_init 191 = .ok (.iinc 1 1, 3) := by decide +kernel
theorem d_M_init_194 : decode b_M_init 194 = .ok (.goto (-25), 3) := by decide +kernel
theorem d_M_init_197 : decode b_M_init 197 = .ok (.iconst 0, 1) := by decide +kernel
theorem d_M_init_198 : decode b_M_init 198 = .ok (.istore_n 1, 1) := by decide +kernel
theorem d_M_init_199 : decode b_M_init 199 = .ok (.iload_n 1, 1) := by decide +kernel
theorem d_M_init_200 : decode b_M_init 200 = .ok (.bipush 60, 2) := by decide +kernel
theorem d_M_init_202 : decode b_M_init 202 = .ok (.if_icmp .ge 30, 3) := by decide +kernel
theorem d_M_init_205 : decode b_M_init 205 = .ok (.aload_n 0, 1) := by decide +kernel
theorem d_M_init_206 : decode b_M_init 206 = .ok (.getfield 45, 3) := by decide +kernel
theorem d_M_init_209 : decode b_M_init 209 = .ok (.iload_n 1, 1) := by decide +kernel
theorem d_M_init_210 : decode b_M_init 210 = .ok (.iconst (-1), 1) := by decide +kernel
theorem d_M_init_211 : decode b_M_init 211 = .ok (.iastore, 1) := by decide +kernel
theorem d_M_init_212 : decode b_M_init 212 = .ok (.aload_n 0, 1) := by decide +kernel
theorem d_M_init_213 : decode b_M_init 213 = .ok (.getfield 54, 3) := by decide +kernel
theorem d_M_init_216 : decode b_M_init 216 = .ok (.iload_n 1, 1) := by decide +kernel
theorem d_M_init_217 : decode b_M_init 217 = .ok (.iconst (-1), 1) := by decide +kernel
theorem d_M_init_218 : decode b_M_init 218 = .ok (.iastore, 1) := by decide +kernel
theorem d_M_init_219 : decode b_M_init 219 = .ok (.aload_n 0, 1) := by decide +kernel
theorem d_M_init_220 : decode b_M_init 220 = .ok (.getfield 57, 3) := by decide +kernel
theorem d_M_init_223 : decode b_M_init 223 = .ok (.iload_n 1, 1) := by decide +kernel
theorem d_M_init_224 : decode b_M_init 224 = .ok (.iconst (-1), 1) := by decide +kernel
theorem d_M_init_225 : decode b_M_init 225 = .ok (.iastore, 1) := by decide +kernel
theorem d_M_init_226 : decode b_M_init 226 = .ok (.iinc 1 1, 3) := by decide +kernel
theorem d_M_init_229 : decode b_M_init 229 = .ok (.goto (-30), 3) := by decide +kernel
theorem d_M_init_232 : decode b_M_init 232 = .ok (.return_, 1) := by decide +kernel
theorem d_M_isDay_0 : decode b_M_isDay 0 = .ok (.iload_n 0, 1) := by decide +kernel
theorem d_M_isDay_1 : decode b_M_isDay 1 = .ok (.iconst 0, 1) := by decide +kernel
theorem d_M_isDay_2 : decode b_M_isDay 2 = .ok (.ldc 80, 2) := by decide +kernel
theorem d_M_isDay_4 : decode b_M_isDay 4 = .ok (.invokestatic 76, 3) := by decide +kernel
theorem d_M_isDay_7 : decode b_M_isDay 7 = .ok (.ireturn, 1) := by decide +kernel
theorem d_M_isDue_0 : decode b_M_isDue 0 = .ok (.aload_n 0, 1) := by decide +kernel
theorem d_M_isDue_1 : decode b_M_isDue 1 = .ok (.iload_n 1, 1) := by decide +kernel
theorem d_M_isDue_2 : decode b_M_isDue 2 = .ok (.iload_n 2, 1) := by decide +kernel
theorem d_M_isDue_3 : decode b_M_isDue 3 = .ok (.invokevirtual 163, 3) := by decide +kernel
theorem d_M_isDue_6 : decode b_M_isDue 6 = .ok (.istore_n 3, 1) := by decide +kernel
theorem d_M_isDue_7 : decode b_M_isDue 7 = .ok (.aload_n 0, 1) := by decide +kernel
theorem d_M_isDue_8 : decode b_M_isDue 8 = .ok (.getfield 54, 3) := by decide +kernel
theorem d_M_isDue_11 : decode b_M_isDue 11 = .ok (.iload_n 1, 1) := by decide +kernel
theorem d_M_isDue_12 : decode b_M_isDue 12 = .ok (.iaload, 1) := by decide +kernel
theorem d_M_isDue_13 : decode b_M_isDue 13 = .ok (.ifCond .ge 26, 3) := by decide +kernel
theorem d_M_isDue_16 : decode b_M_isDue 16 = .ok (.iload_n 3, 1) := by decide +kernel
theorem d_M_isDue_17 : decode b_M_isDue 17 = .ok (.ifCond .lt 22, 3) := by decide +kernel
theorem d_M_isDue_20 : decode b_M_isDue 20 = .ok (.iload_n 3, 1) := by decide +kernel
theorem d_M_isDue_21 : decode b_M_isDue 21 = .ok (.iload_n 2, 1) := by decide +kernel
theorem d_M_isDue_22 : decode b_M_isDue 22 = .ok (.if_icmp .gt 17, 3) := by decide +kernel
theorem d_M_isDue_25 : decode b_M_isDue 25 = .ok (.aload_n 0, 1) := by decide +kernel
theorem d_M_isDue_26 : decode b_M_isDue 26 = .ok (.getfield 45, 3) := by decide +kernel
theorem d_M_isDue_29 : decode b_M_isDue 29 = .ok (.iload_n 1, 1) := by decide +kernel
theorem d_M_isDue_30 : decode b_M_isDue 30 = .ok (.iaload, 1) := by decide +kernel
theorem d_M_isDue_31 : decode b_M_isDue 31 = .ok (.iload_n 2, 1) := by decide +kernel
theorem d_M_isDue_32 : decode b_M_isDue 32 = .ok (.if_icmp .ge 7, 3) := by decide +kernel
theorem d_M_isDue_35 : decode b_M_isDue 35 = .ok (.iconst 1, 1) := by decide +kernel
theorem d_M_isDue_36 : decode b_M_isDue 36 = .ok (.goto 4, 3) := by decide +kernel
theorem d_M_isDue_39 : decode b_M_isDue 39 = .ok (.iconst 0, 1) := by decide +kernel
theorem d_M_isDue_40 : decode b_M_isDue 40 = .ok (.ireturn, 1) := by decide +kernel
theorem d_M_isHeld_0 : decode b_M_isHeld 0 = .ok (.iconst 0, 1) := by decide +kernel
theorem d_M_isHeld_1 : decode b_M_isHeld 1 = .ok (.istore_n 3, 1) := by decide +kernel
theorem d_M_isHeld_2 : decode b_M_isHeld 2 = .ok (.iconst 4, 1) := by decide +kernel
theorem d_M_isHeld_3 : decode b_M_isHeld 3 = .ok (.iload_n 1, 1) := by decide +kernel
theorem d_M_isHeld_4 : decode b_M_isHeld 4 = .ok (.imul, 1) := by decide +kernel
theorem d_M_isHeld_5 : decode b_M_isHeld 5 = .ok (.istore 4, 2) := by decide +kernel
theorem d_M_isHeld_7 : decode b_M_isHeld 7 = .ok (.iload 4, 2) := by decide +kernel
theorem d_M_isHeld_9 : decode b_M_isHeld 9 = .ok (.iconst 4, 1) := by decide +kernel
theorem d_M_isHeld_10 : decode b_M_isHeld 10 = .ok (.iload_n 1, 1) := by decide +kernel
theorem d_M_isHeld_11 : decode b_M_isHeld 11 = .ok (.imul, 1) := by decide +kernel
theorem d_M_isHeld_12 : decode b_M_isHeld 12 = .ok (.iconst 4, 1) := by decide +kernel
theorem d_M_isHeld_13 : decode b_M_isHeld 13 = .ok (.iadd, 1) := by decide +kernel
theorem d_M_isHeld_14 : decode b_M_isHeld 14 = .ok (.if_icmp .ge 41, 3) := by decide +kernel
theorem d_M_isHeld_17 : decode b_M_isHeld 17 = .ok (.iload_n 3, 1) := by decide +kernel
theorem d_M_isHeld_18 : decode b_M_isHeld 18 = .ok (.ifCond .ne 25, 3) := by decide +kernel
theorem d_M_isHeld_21 : decode b_M_isHeld 21 = .ok (.aload_n 0, 1) := by decide +kernel
theorem d_M_isHeld_22 : decode b_M_isHeld 22 = .ok (.getfield 42, 3) := by decide +kernel
theorem d_M_isHeld_25 : decode b_M_isHeld 25 = .ok (.iload 4, 2) := by decide +kernel
theorem d_M_isHeld_27 : decode b_M_isHeld 27 = .ok (.iaload, 1) := by decide +kernel
theorem d_M_isHeld_28 : decode b_M_isHeld 28 = .ok (.iconst (-1), 1) := by decide +kernel
theorem d_M_isHeld_29 : decode b_M_isHeld 29 = .ok (.if_icmp .eq 14, 3) := by decide +kernel
theorem d_M_isHeld_32 : decode b_M_isHeld 32 = .ok (.aload_n 0, 1) := by decide +kernel
theorem d_M_isHeld_33 : decode b_M_isHeld 33 = .ok (.getfield 42, 3) := by decide +kernel
theorem d_M_isHeld_36 : decode b_M_isHeld 36 = .ok (.iload 4, 2) := by decide +kernel
theorem d_M_isHeld_38 : decode b_M_isHeld 38 = .ok (.iaload, 1) := by decide +kernel
theorem d_M_isHeld_39 : decode b_M_isHeld 39 = .ok (.iload_n 2, 1) := by decide +kernel
theorem d_M_isHeld_40 : decode b_M_isHeld 40 = .ok (.if_icmp .lt 7, 3) := by decide +kernel
theorem d_M_isHeld_43 : decode b_M_isHeld 43 = .ok (.iconst 1, 1) := by decide +kernel
theorem d_M_isHeld_44 : decode b_M_isHeld 44 = .ok (.goto 4, 3) := by decide +kernel
theorem d_M_isHeld_47 : decode b_M_isHeld 47 = .ok (.iconst 0, 1) := by decide +kernel
theorem d_M_isHeld_48 : decode b_M_isHeld 48 = .ok (.istore_n 3, 1) := by decide +kernel
theorem d_M_isHeld_49 : decode b_M_isHeld 49 = .ok (.iinc 4 1, 3) := by decide +kernel
theorem d_M_isHeld_52 : decode b_M_isHeld 52 = .ok (.goto (-45), 3) := by decide +kernel
theorem d_M_isHeld_55 : decode b_M_isHeld 55 = .ok (.iload_n 3, 1) := by decide +kernel
theorem d_M_isHeld_56 : decode b_M_isHeld 56 = .ok (.ireturn, 1) := by decide +kernel
theorem d_M_isRule_0 : decode b_M_isRule 0 = .ok (.iload_n 1, 1) := by decide +kernel
theorem d_M_isRule_1 : decode b_M_isRule 1 = .ok (.iconst 0, 1) := by decide +kernel
theorem d_M_isRule_2 : decode b_M_isRule 2 = .ok (.aload_n 0, 1) := by decide +kernel
theorem d_M_isRule_3 : decode b_M_isRule 3 = .ok (.getfield 81, 3) := by decide +kernel
theorem d_M_isRule_6 : decode b_M_isRule 6 = .ok (.iconst 1, 1) := by decide +kernel
theorem d_M_isRule_7 : decode b_M_isRule 7 = .ok (.isub, 1) := by decide +kernel
theorem d_M_isRule_8 : decode b_M_isRule 8 = .ok (.invokestatic 76, 3) := by decide +kernel
theorem d_M_isRule_11 : decode b_M_isRule 11 = .ok (.ireturn, 1) := by decide +kernel
theorem d_M_isSmall_0 : decode b_M_isSmall 0 = .ok (.aload_n 0, 1) := by decide +kernel
theorem d_M_isSmall_1 : decode b_M_isSmall 1 = .ok (.invokevirtual 90, 3) := by decide +kernel
theorem d_M_isSmall_4 : decode b_M_isSmall 4 = .ok (.bipush 97, 2) := by decide +kernel
theorem d_M_isSmall_6 : decode b_M_isSmall 6 = .ok (.if_icmp .lt 16, 3) := by decide +kernel
theorem d_M_isSmall_9 : decode b_M_isSmall 9 = .ok (.aload_n 0, 1) := by decide +kernel
theorem d_M_isSmall_10 : decode b_M_isSmall 10 = .ok (.invokevirtual 90, 3) := by decide +kernel
theorem d_M_isSmall_13 : decode b_M_isSmall 13 = .ok (.bipush 122, 2) := by decide +kernel
theorem d_M_isSmall_15 : decode b_M_isSmall 15 = .ok (.if_icmp .gt 7, 3) := by decide +kernel
theorem d_M_isSmall_18 : decode b_M_isSmall 18 = .ok (.iconst 1, 1) := by decide +kernel
theorem d_M_isSmall_19 : decode b_M_isSmall 19 = .ok (.goto 4, 3) := by decide +kernel
theorem d_M_isSmall_22 : decode b_M_isSmall 22 = .ok (.iconst 0, 1) := by decide +kernel
theorem d_M_isSmall_23 : decode b_M_isSmall 23 = .ok (.ireturn, 1) := by decide +kernel
theorem d_M_isUnit_0 : decode b_M_isUnit 0 = .ok (.iload_n 0, 1) := by decide +kernel
theorem d_M_isUnit_1 : decode b_M_isUnit 1 = .ok (.iconst 0, 1) := by decide +kernel
theorem d_M_isUnit_2 : decode b_M_isUnit 2 = .ok (.bipush 59, 2) := by decide +kernel
theorem d_M_isUnit_4 : decode b_M_isUnit 4 = .ok (.invokestatic 76, 3) := by decide +kernel
theorem d_M_isUnit_7 : decode b_M_isUnit 7 = .ok (.ireturn, 1) := by decide +kernel
theorem d_M_look_0 : decode b_M_look 0 = .ok (.aload_n 0, 1) := by decide +kernel
theorem d_M_look_1 : decode b_M_look 1 = .ok (.getfield 87, 3) := by decide +kernel
theorem d_M_look_4 : decode b_M_look 4 = .ok (.aload_n 0, 1) := by decide +kernel
theorem d_M_look_5 : decode b_M_look 5 = .ok (.getfield 84, 3) := by decide +kernel
theorem d_M_look_8 : decode b_M_look 8 = .ok (.if_icmp .ge 15, 3) := by decide +kernel
theorem d_M_look_11 : decode b_M_look 11 = .ok (.aload_n 0, 1) := by decide +kernel
theorem d_M_look_12 : decode b_M_look 12 = .ok (.getfield 7, 3) := by decide +kernel
theorem d_M_look_15 : decode b_M_look 15 = .ok (.aload_n 0, 1) := by decide +kernel
theorem d_M_look_16 : decode b_M_look 16 = .ok (.getfield 87, 3) := by decide +kernel
theorem d_M_look_19 : decode b_M_look 19 = .ok (.baload, 1) := by decide +kernel
theorem d_M_look_20 : decode b_M_look 20 = .ok (.goto 4, 3) := by decide +kernel
theorem d_M_look_23 : decode b_M_look 23 = .ok (.iconst (-1), 1) := by decide +kernel
theorem d_M_look_24 : decode b_M_look 24 = .ok (.ireturn, 1) := by decide +kernel
theorem d_M_reads_0 : decode b_M_reads 0 = .ok (.aload_n 0, 1) := by decide +kernel
theorem d_M_reads_1 : decode b_M_reads 1 = .ok (.iconst 0, 1) := by decide +kernel
theorem d_M_reads_2 : decode b_M_reads 2 = .ok (.putfield 87, 3) := by decide +kernel
theorem d_M_reads_5 : decode b_M_reads 5 = .ok (.aload_n 0, 1) := by decide +kernel
theorem d_M_reads_6 : decode b_M_reads 6 = .ok (.invokevirtual 124, 3) := by decide +kernel
theorem d_M_reads_9 : decode b_M_reads 9 = .ok (.invokestatic 127, 3) := by decide +kernel
theorem d_M_reads_12 : decode b_M_reads 12 = .ok (.istore_n 1, 1) := by decide +kernel
theorem d_M_reads_13 : decode b_M_reads 13 = .ok (.iload_n 1, 1) := by decide +kernel
theorem d_M_reads_14 : decode b_M_reads 14 = .ok (.ifCond .ge 5, 3) := by decide +kernel
theorem d_M_reads_17 : decode b_M_reads 17 = .ok (.iconst 0, 1) := by decide +kernel
theorem d_M_reads_18 : decode b_M_reads 18 = .ok (.ireturn, 1) := by decide +kernel
theorem d_M_reads_19 : decode b_M_reads 19 = .ok (.aload_n 0, 1) := by decide +kernel
theorem d_M_reads_20 : decode b_M_reads 20 = .ok (.invokevirtual 131, 3) := by decide +kernel
theorem d_M_reads_23 : decode b_M_reads 23 = .ok (.ifCond .ne 8, 3) := by decide +kernel
theorem d_M_reads_26 : decode b_M_reads 26 = .ok (.aload_n 0, 1) := by decide +kernel
theorem d_M_reads_27 : decode b_M_reads 27 = .ok (.getfield 87, 3) := by decide +kernel
theorem d_M_reads_30 : decode b_M_reads 30 = .ok (.ireturn, 1) := by decide +kernel
theorem d_M_reads_31 : decode b_M_reads 31 = .ok (.aload_n 0, 1) := by decide +kernel
theorem d_M_reads_32 : decode b_M_reads 32 = .ok (.invokevirtual 134, 3) := by decide +kernel
theorem d_M_reads_35 : decode b_M_reads 35 = .ok (.istore_n 2, 1) := by decide +kernel
theorem d_M_reads_36 : decode b_M_reads 36 = .ok (.iload_n 2, 1) := by decide +kernel
theorem d_M_reads_37 : decode b_M_reads 37 = .ok (.ifCond .lt 10, 3) := by decide +kernel
theorem d_M_reads_40 : decode b_M_reads 40 = .ok (.aload_n 0, 1) := by decide +kernel
theorem d_M_reads_41 : decode b_M_reads 41 = .ok (.invokevirtual 131, 3) := by decide +kernel
theorem d_M_reads_44 : decode b_M_reads 44 = .ok (.ifCond .ne 8, 3) := by decide +kernel
theorem d_M_reads_47 : decode b_M_reads 47 = .ok (.aload_n 0, 1) := by decide +kernel
theorem d_M_reads_48 : decode b_M_reads 48 = .ok (.getfield 87, 3) := by decide +kernel
theorem d_M_reads_51 : decode b_M_reads 51 = .ok (.ireturn, 1) := by decide +kernel
theorem d_M_reads_52 : decode b_M_reads 52 = .ok (.aload_n 0, 1) := by decide +kernel
theorem d_M_reads_53 : decode b_M_reads 53 = .ok (.getfield 87, 3) := by decide +kernel
theorem d_M_reads_56 : decode b_M_reads 56 = .ok (.istore_n 3, 1) := by decide +kernel
theorem d_M_reads_57 : decode b_M_reads 57 = .ok (.aload_n 0, 1) := by decide +kernel
theorem d_M_reads_58 : decode b_M_reads 58 = .ok (.invokevirtual 124, 3) := by decide +kernel
theorem d_M_reads_61 : decode b_M_reads 61 = .ok (.invokestatic 137, 3) := by decide +kernel
theorem d_M_reads_64 : decode b_M_reads 64 = .ok (.istore 4, 2) := by decide +kernel
theorem d_M_reads_66 : decode b_M_reads 66 = .ok (.iload 4, 2) := by decide +kernel
theorem d_M_reads_68 : decode b_M_reads 68 = .ok (.ifCond .ge 5, 3) := by decide +kernel
theorem d_M_reads_71 : decode b_M_reads 71 = .ok (.iload_n 3, 1) := by decide +kernel
theorem d_M_reads_72 : decode b_M_reads 72 = .ok (.ireturn, 1) := by decide +kernel
theorem d_M_reads_73 : decode b_M_reads 73 = .ok (.aload_n 0, 1) := by decide +kernel
theorem d_M_reads_74 : decode b_M_reads 74 = .ok (.getfield 87, 3) := by decide +kernel
theorem d_M_reads_77 : decode b_M_reads 77 = .ok (.aload_n 0, 1) := by decide +kernel
theorem d_M_reads_78 : decode b_M_reads 78 = .ok (.getfield 84, 3) := by decide +kernel
theorem d_M_reads_81 : decode b_M_reads 81 = .ok (.if_icmp .ge 8, 3) := by decide +kernel
theorem d_M_reads_84 : decode b_M_reads 84 = .ok (.aload_n 0, 1) := by decide +kernel
theorem d_M_reads_85 : decode b_M_reads 85 = .ok (.getfield 87, 3) := by decide +kernel
theorem d_M_reads_88 : decode b_M_reads 88 = .ok (.ireturn, 1) := by decide +kernel
theorem d_M_reads_89 : decode b_M_reads 89 = .ok (.aload_n 0, 1) := by decide +kernel
theorem d_M_reads_90 : decode b_M_reads 90 = .ok (.getfield 81, 3) := by decide +kernel
theorem d_M_reads_93 : decode b_M_reads 93 = .ok (.bipush 20, 2) := by decide +kernel
theorem d_M_reads_95 : decode b_M_reads 95 = .ok (.if_icmp .ne 5, 3) := by decide +kernel
theorem d_M_reads_98 : decode b_M_reads 98 = .ok (.iconst (-1), 1) := by decide +kernel
theorem d_M_reads_99 : decode b_M_reads 99 = .ok (.ireturn, 1) := by decide +kernel
theorem d_M_reads_100 : decode b_M_reads 100 = .ok (.aload_n 0, 1) := by decide +kernel
theorem d_M_reads_101 : decode b_M_reads 101 = .ok (.getfield 13, 3) := by decide +kernel
theorem d_M_reads_104 : decode b_M_reads 104 = .ok (.aload_n 0, 1) := by decide +kernel
theorem d_M_reads_105 : decode b_M_reads 105 = .ok (.getfield 81, 3) := by decide +kernel
theorem d_M_reads_108 : decode b_M_reads 108 = .ok (.iload_n 1, 1) := by decide +kernel
theorem d_M_reads_109 : decode b_M_reads 109 = .ok (.iastore, 1) := by decide +kernel
theorem d_M_reads_110 : decode b_M_reads 110 = .ok (.aload_n 0, 1) := by decide +kernel
theorem d_M_reads_111 : decode b_M_reads 111 = .ok (.getfield 27, 3) := by decide +kernel
theorem d_M_reads_114 : decode b_M_reads 114 = .ok (.bipush 6, 2) := by decide +kernel
theorem d_M_reads_116 : decode b_M_reads 116 = .ok (.aload_n 0, 1) := by decide +kernel
theorem d_M_reads_117 : decode b_M_reads 117 = .ok (.getfield 81, 3) := by decide +kernel
theorem d_M_reads_120 : decode b_M_reads 120 = .ok (.imul, 1) := by decide +kernel
theorem d_M_reads_121 : decode b_M_reads 121 = .ok (.iload_n 2, 1) := by decide +kernel
theorem d_M_reads_122 : decode b_M_reads 122 = .ok (.iastore, 1) := by decide +kernel
theorem d_M_reads_123 : decode b_M_reads 123 = .ok (.aload_n 0, 1) := by decide +kernel
theorem d_M_reads_124 : decode b_M_reads 124 = .ok (.getfield 30, 3) := by decide +kernel
theorem d_M_reads_127 : decode b_M_reads 127 = .ok (.bipush 6, 2) := by decide +kernel
theorem d_M_reads_129 : decode b_M_reads 129 = .ok (.aload_n 0, 1) := by decide +kernel
theorem d_M_reads_130 : decode b_M_reads 130 = .ok (.getfield 81, 3) := by decide +kernel
theorem d_M_reads_133 : decode b_M_reads 133 = .ok (.imul, 1) := by decide +kernel
theorem d_M_reads_134 : decode b_M_reads 134 = .ok (.iconst (-1), 1) := by decide +kernel
theorem d_M_reads_135 : decode b_M_reads 135 = .ok (.iastore, 1) := by decide +kernel
theorem d_M_reads_136 : decode b_M_reads 136 = .ok (.aload_n 0, 1) := by decide +kernel
theorem d_M_reads_137 : decode b_M_reads 137 = .ok (.getfield 17, 3) := by decide +kernel
theorem d_M_reads_140 : decode b_M_reads 140 = .ok (.aload_n 0, 1) := by decide +kernel
theorem d_M_reads_141 : decode b_M_reads 141 = .ok (.getfield 81, 3) := by decide +kernel
theorem d_M_reads_144 : decode b_M_reads 144 = .ok (.iload 4, 2) := by decide +kernel
theorem d_M_reads_146 : decode b_M_reads 146 = .ok (.iastore, 1) := by decide +kernel
theorem d_M_reads_147 : decode b_M_reads 147 = .ok (.iconst (-1), 1) := by decide +kernel
theorem d_M_reads_148 : decode b_M_reads 148 = .ok (.ireturn, 1) := by decide +kernel
theorem d_M_rule_0 : decode b_M_rule 0 = .ok (.aload_n 0, 1) := by decide +kernel
theorem d_M_rule_1 : decode b_M_rule 1 = .ok (.iconst 0, 1) := by decide +kernel
theorem d_M_rule_2 : decode b_M_rule 2 = .ok (.putfield 72, 3) := by decide +kernel
theorem d_M_rule_5 : decode b_M_rule 5 = .ok (.aload_n 0, 1) := by decide +kernel
theorem d_M_rule_6 : decode b_M_rule 6 = .ok (.invokevirtual 139, 3) := by decide +kernel
theorem d_M_rule_9 : decode b_M_rule 9 = .ok (.istore_n 1, 1) := by decide +kernel
theorem d_M_rule_10 : decode b_M_rule 10 = .ok (.aload_n 0, 1) := by decide +kernel
theorem d_M_rule_11 : decode b_M_rule 11 = .ok (.iconst 0, 1) := by decide +kernel
theorem d_M_rule_12 : decode b_M_rule 12 = .ok (.putfield 84, 3) := by decide +kernel
theorem d_M_rule_15 : decode b_M_rule 15 = .ok (.iload_n 1, 1) := by decide +kernel
theorem d_M_rule_16 : decode b_M_rule 16 = .ok (.ifCond .lt 8, 3) := by decide +kernel
theorem d_M_rule_19 : decode b_M_rule 19 = .ok (.bipush (-10), 2) := by decide +kernel
theorem d_M_rule_21 : decode b_M_rule 21 = .ok (.iload_n 1, 1) := by decide +kernel
theorem d_M_rule_22 : decode b_M_rule 22 = .ok (.isub, 1) := by decide +kernel
theorem d_M_rule_23 : decode b_M_rule 23 = .ok (.ireturn, 1) := by decide +kernel
theorem d_M_rule_24 : decode b_M_rule 24 = .ok (.aload_n 0, 1) := by decide +kernel
theorem d_M_rule_25 : decode b_M_rule 25 = .ok (.getfield 81, 3) := by decide +kernel
theorem d_M_rule_28 : decode b_M_rule 28 = .ok (.bipush 20, 2) := by decide +kernel
theorem d_M_rule_30 : decode b_M_rule 30 = .ok (.if_icmp .ne 6, 3) := by decide +kernel
theorem d_M_rule_33 : decode b_M_rule 33 = .ok (.bipush (-4), 2) := by decide +kernel
theorem d_M_rule_35 : decode b_M_rule 35 = .ok (.ireturn, 1) := by decide +kernel
theorem d_M_rule_36 : decode b_M_rule 36 = .ok (.aload_n 0, 1) := by decide +kernel
theorem d_M_rule_37 : decode b_M_rule 37 = .ok (.dup, 1) := by decide +kernel
theorem d_M_rule_38 : decode b_M_rule 38 = .ok (.getfield 81, 3) := by decide +kernel
theorem d_M_rule_41 : decode b_M_rule 41 = .ok (.iconst 1, 1) := by decide +kernel
theorem d_M_rule_42 : decode b_M_rule 42 = .ok (.iadd, 1) := by decide +kernel
theorem d_M_rule_43 : decode b_M_rule 43 = .ok (.putfield 81, 3) := by decide +kernel
theorem d_M_rule_46 : decode b_M_rule 46 = .ok (.aload_n 0, 1) := by decide +kernel
theorem d_M_rule_47 : decode b_M_rule 47 = .ok (.getfield 81, 3) := by decide +kernel
theorem d_M_rule_50 : decode b_M_rule 50 = .ok (.iconst 1, 1) := by decide +kernel
theorem d_M_rule_51 : decode b_M_rule 51 = .ok (.isub, 1) := by decide +kernel
theorem d_M_rule_52 : decode b_M_rule 52 = .ok (.ireturn, 1) := by decide +kernel
theorem d_M_schedule_0 : decode b_M_schedule 0 = .ok (.aload_n 0, 1) := by decide +kernel
theorem d_M_schedule_1 : decode b_M_schedule 1 = .ok (.iconst 0, 1) := by decide +kernel
theorem d_M_schedule_2 : decode b_M_schedule 2 = .ok (.putfield 72, 3) := by decide +kernel
theorem d_M_schedule_5 : decode b_M_schedule 5 = .ok (.iload_n 1, 1) := by decide +kernel
theorem d_M_schedule_6 : decode b_M_schedule 6 = .ok (.invokestatic 149, 3) := by decide +kernel
theorem d_M_schedule_9 : decode b_M_schedule 9 = .ok (.ifCond .eq 11, 3) := by decide +kernel
theorem d_M_schedule_12 : decode b_M_schedule 12 = .ok (.aload_n 0, 1) := by decide +kernel
theorem d_M_schedule_13 : decode b_M_schedule 13 = .ok (.iload_n 2, 1) := by decide +kernel
theorem d_M_schedule_14 : decode b_M_schedule 14 = .ok (.invokevirtual 142, 3) := by decide +kernel
theorem d_M_schedule_17 : decode b_M_schedule 17 = .ok (.ifCond .ne 5, 3) := by decide +kernel
theorem d_M_schedule_20 : decode b_M_schedule 20 = .ok (.iconst (-1), 1) := by decide +kernel
theorem d_M_schedule_21 : decode b_M_schedule 21 = .ok (.ireturn, 1) := by decide +kernel
theorem d_M_schedule_22 : decode b_M_schedule 22 = .ok (.aload_n 0, 1) := by decide +kernel
theorem d_M_schedule_23 : decode b_M_schedule 23 = .ok (.getfield 54, 3) := by decide +kernel
theorem d_M_schedule_26 : decode b_M_schedule 26 = .ok (.iload_n 1, 1) := by decide +kernel
theorem d_M_schedule_27 : decode b_M_schedule 27 = .ok (.iaload, 1) := by decide +kernel
theorem d_M_schedule_28 : decode b_M_schedule 28 = .ok (.ifCond .lt 7, 3) := by decide +kernel
theorem d_M_schedule_31 : decode b_M_schedule 31 = .ok (.iconst 1, 1) := by decide +kernel
theorem d_M_schedule_32 : decode b_M_schedule 32 = .ok (.goto 4, 3) := by decide +kernel
theorem d_M_schedule_35 : decode b_M_schedule 35 = .ok (.iconst 0, 1) := by decide +kernel
theorem d_M_schedule_36 : decode b_M_schedule 36 = .ok (.istore_n 3, 1) := by decide +kernel
theorem d_M_schedule_37 : decode b_M_schedule 37 = .ok (.iconst 0, 1) := by decide +kernel
theorem d_M_schedule_38 : decode b_M_schedule 38 = .ok (.istore 4, 2) := by decide +kernel
theorem d_M_schedule_40 : decode b_M_schedule 40 = .ok (.iload 4, 2) := by decide +kernel
theorem d_M_schedule_42 : decode b_M_schedule 42 = .ok (.aload_n 0, 1) := by decide +kernel
theorem d_M_schedule_43 : decode b_M_schedule 43 = .ok (.getfield 39, 3) := by decide +kernel
theorem d_M_schedule_46 : decode b_M_schedule 46 = .ok (.iload_n 1, 1) := by decide +kernel
theorem d_M_schedule_47 : decode b_M_schedule 47 = .ok (.iaload, 1) := by decide +kernel
theorem d_M_schedule_48 : decode b_M_schedule 48 = .ok (.if_icmp .ge 34, 3) := by decide +kernel
theorem d_M_schedule_51 : decode b_M_schedule 51 = .ok (.iload_n 3, 1) := by decide +kernel
theorem d_M_schedule_52 : decode b_M_schedule 52 = .ok (.ifCond .ne 18, 3) := by decide +kernel
theorem d_M_schedule_55 : decode b_M_schedule 55 = .ok (.aload_n 0, 1) := by decide +kernel
theorem d_M_schedule_56 : decode b_M_schedule 56 = .ok (.getfield 36, 3) := by decide +kernel
theorem d_M_schedule_59 : decode b_M_schedule 59 = .ok (.iconst 4, 1) := by decide +kernel
theorem d_M_schedule_60 : decode b_M_schedule 60 = .ok (.iload_n 1, 1) := by decide +kernel
theorem d_M_schedule_61 : decode b_M_schedule 61 = .ok (.imul, 1) := by decide +kernel
theorem d_M_schedule_62 : decode b_M_schedule 62 = .ok (.iload 4, 2) := by decide +kernel
theorem d_M_schedule_64 : decode b_M_schedule 64 = .ok (.iadd, 1) := by decide +kernel
theorem d_M_schedule_65 : decode b_M_schedule 65 = .ok (.iaload, 1) := by decide +kernel
theorem d_M_schedule_66 : decode b_M_schedule 66 = .ok (.iload_n 2, 1) := by decide +kernel
theorem d_M_schedule_67 : decode b_M_schedule 67 = .ok (.if_icmp .ne 7, 3) := by decide +kernel
theorem d_M_schedule_70 : decode b_M_schedule 70 = .ok (.iconst 1, 1) := by decide +kernel
theorem d_M_schedule_71 : decode b_M_schedule 71 = .ok (.goto 4, 3) := by decide +kernel
theorem d_M_schedule_74 : decode b_M_schedule 74 = .ok (.iconst 0, 1) := by decide +kernel
theorem d_M_schedule_75 : decode b_M_schedule 75 = .ok (.istore_n 3, 1) := by decide +kernel
theorem d_M_schedule_76 : decode b_M_schedule 76 = .ok (.iinc 4 1, 3) := by decide +kernel
theorem d_M_schedule_79 : decode b_M_schedule 79 = .ok (.goto (-39), 3) := by decide +kernel
theorem d_M_schedule_82 : decode b_M_schedule 82 = .ok (.iload_n 3, 1) := by decide +kernel
theorem d_M_schedule_83 : decode b_M_schedule 83 = .ok (.ifCond .eq 6, 3) := by decide +kernel
theorem d_M_schedule_86 : decode b_M_schedule 86 = .ok (.bipush (-3), 2) := by decide +kernel
theorem d_M_schedule_88 : decode b_M_schedule 88 = .ok (.ireturn, 1) := by decide +kernel
theorem d_M_schedule_89 : decode b_M_schedule 89 = .ok (.aload_n 0, 1) := by decide +kernel
theorem d_M_schedule_90 : decode b_M_schedule 90 = .ok (.getfield 39, 3) := by decide +kernel
theorem d_M_schedule_93 : decode b_M_schedule 93 = .ok (.iload_n 1, 1) := by decide +kernel
theorem d_M_schedule_94 : decode b_M_schedule 94 = .ok (.iaload, 1) := by decide +kernel
theorem d_M_schedule_95 : decode b_M_schedule 95 = .ok (.iconst 4, 1) := by decide +kernel
theorem d_M_schedule_96 : decode b_M_schedule 96 = .ok (.if_icmp .ne 6, 3) := by decide +kernel
theorem d_M_schedule_99 : decode b_M_schedule 99 = .ok (.bipush (-4), 2) := by decide +kernel
theorem d_M_schedule_101 : decode b_M_schedule 101 = .ok (.ireturn, 1) := by decide +kernel
theorem d_M_schedule_102 : decode b_M_schedule 102 = .ok (.aload_n 0, 1) := by decide +kernel
theorem d_M_schedule_103 : decode b_M_schedule 103 = .ok (.getfield 36, 3) := by decide +kernel
theorem d_M_schedule_106 : decode b_M_schedule 106 = .ok (.iconst 4, 1) := by decide +kernel
theorem d_M_schedule_107 : decode b_M_schedule 107 = .ok (.iload_n 1, 1) := by decide +kernel
theorem d_M_schedule_108 : decode b_M_schedule 108 = .ok (.imul, 1) := by decide +kernel
theorem d_M_schedule_109 : decode b_M_schedule 109 = .ok (.aload_n 0, 1) := by decide +kernel
theorem d_M_schedule_110 : decode b_M_schedule 110 = .ok (.getfield 39, 3) := by decide +kernel
theorem d_M_schedule_113 : decode b_M_schedule 113 = .ok (.iload_n 1, 1) := by decide +kernel
theorem d_M_schedule_114 : decode b_M_schedule 114 = .ok (.iaload, 1) := by decide +kernel
theorem d_M_schedule_115 : decode b_M_schedule 115 = .ok (.iadd, 1) := by decide +kernel
theorem d_M_schedule_116 : decode b_M_schedule 116 = .ok (.iload_n 2, 1) := by decide +kernel
theorem d_M_schedule_117 : decode b_M_schedule 117 = .ok (.iastore, 1) := by decide +kernel
theorem d_M_schedule_118 : decode b_M_schedule 118 = .ok (.aload_n 0, 1) := by decide +kernel
theorem d_M_schedule_119 : decode b_M_schedule 119 = .ok (.getfield 39, 3) := by decide +kernel
theorem d_M_schedule_122 : decode b_M_schedule 122 = .ok (.iload_n 1, 1) := by decide +kernel
theorem d_M_schedule_123 : decode b_M_schedule 123 = .ok (.dup2, 1) := by decide +kernel
theorem d_M_schedule_124 : decode b_M_schedule 124 = .ok (.iaload, 1) := by decide +kernel
theorem d_M_schedule_125 : decode b_M_schedule 125 = .ok (.iconst 1, 1) := by decide +kernel
theorem d_M_schedule_126 : decode b_M_schedule 126 = .ok (.iadd, 1) := by decide +kernel
theorem d_M_schedule_127 : decode b_M_schedule 127 = .ok (.iastore, 1) := by decide +kernel
theorem d_M_schedule_128 : decode b_M_schedule 128 = .ok (.aload_n 0, 1) := by decide +kernel
theorem d_M_schedule_129 : decode b_M_schedule 129 = .ok (.getfield 48, 3) := by decide +kernel
theorem d_M_schedule_132 : decode b_M_schedule 132 = .ok (.iload_n 1, 1) := by decide +kernel
theorem d_M_schedule_133 : decode b_M_schedule 133 = .ok (.iconst 0, 1) := by decide +kernel
theorem d_M_schedule_134 : decode b_M_schedule 134 = .ok (.iastore, 1) := by decide +kernel
theorem d_M_schedule_135 : decode b_M_schedule 135 = .ok (.aload_n 0, 1) := by decide +kernel
theorem d_M_schedule_136 : decode b_M_schedule 136 = .ok (.getfield 39, 3) := by decide +kernel
theorem d_M_schedule_139 : decode b_M_schedule 139 = .ok (.iload_n 1, 1) := by decide +kernel
theorem d_M_schedule_140 : decode b_M_schedule 140 = .ok (.iaload, 1) := by decide +kernel
theorem d_M_schedule_141 : decode b_M_schedule 141 = .ok (.ireturn, 1) := by decide +kernel
theorem d_M_sign_0 : decode b_M_sign 0 = .ok (.aload_n 0, 1) := by decide +kernel
theorem d_M_sign_1 : decode b_M_sign 1 = .ok (.iconst 0, 1) := by decide +kernel
theorem d_M_sign_2 : decode b_M_sign 2 = .ok (.putfield 72, 3) := by decide +kernel
theorem d_M_sign_5 : decode b_M_sign 5 = .ok (.aload_n 0, 1) := by decide +kernel
theorem d_M_sign_6 : decode b_M_sign 6 = .ok (.getfield 84, 3) := by decide +kernel
theorem d_M_sign_9 : decode b_M_sign 9 = .ok (.bipush 40, 2) := by decide +kernel
theorem d_M_sign_11 : decode b_M_sign 11 = .ok (.if_icmp .ne 4, 3) := by decide +kernel
theorem d_M_sign_14 : decode b_M_sign 14 = .ok (.return_, 1) := by decide +kernel
theorem d_M_sign_15 : decode b_M_sign 15 = .ok (.aload_n 0, 1) := by decide +kernel
theorem d_M_sign_16 : decode b_M_sign 16 = .ok (.getfield 7, 3) := by decide +kernel
theorem d_M_sign_19 : decode b_M_sign 19 = .ok (.aload_n 0, 1) := by decide +kernel
theorem d_M_sign_20 : decode b_M_sign 20 = .ok (.getfield 84, 3) := by decide +kernel
theorem d_M_sign_23 : decode b_M_sign 23 = .ok (.iload_n 1, 1) := by decide +kernel
theorem d_M_sign_24 : decode b_M_sign 24 = .ok (.i2b, 1) := by decide +kernel
theorem d_M_sign_25 : decode b_M_sign 25 = .ok (.bastore, 1) := by decide +kernel
theorem d_M_sign_26 : decode b_M_sign 26 = .ok (.aload_n 0, 1) := by decide +kernel
theorem d_M_sign_27 : decode b_M_sign 27 = .ok (.dup, 1) := by decide +kernel
theorem d_M_sign_28 : decode b_M_sign 28 = .ok (.getfield 84, 3) := by decide +kernel
theorem d_M_sign_31 : decode b_M_sign 31 = .ok (.iconst 1, 1) := by decide +kernel
theorem d_M_sign_32 : decode b_M_sign 32 = .ok (.iadd, 1) := by decide +kernel
theorem d_M_sign_33 : decode b_M_sign 33 = .ok (.putfield 84, 3) := by decide +kernel
theorem d_M_sign_36 : decode b_M_sign 36 = .ok (.return_, 1) := by decide +kernel
theorem d_M_space_0 : decode b_M_space 0 = .ok (.aload_n 0, 1) := by decide +kernel
theorem d_M_space_1 : decode b_M_space 1 = .ok (.invokevirtual 90, 3) := by decide +kernel
theorem d_M_space_4 : decode b_M_space 4 = .ok (.bipush 32, 2) := by decide +kernel
theorem d_M_space_6 : decode b_M_space 6 = .ok (.if_icmp .eq 5, 3) := by decide +kernel
theorem d_M_space_9 : decode b_M_space 9 = .ok (.iconst 0, 1) := by decide +kernel
theorem d_M_space_10 : decode b_M_space 10 = .ok (.ireturn, 1) := by decide +kernel
theorem d_M_space_11 : decode b_M_space 11 = .ok (.aload_n 0, 1) := by decide +kernel
theorem d_M_space_12 : decode b_M_space 12 = .ok (.dup, 1) := by decide +kernel
theorem d_M_space_13 : decode b_M_space 13 = .ok (.getfield 87, 3) := by decide +kernel
theorem d_M_space_16 : decode b_M_space 16 = .ok (.iconst 1, 1) := by decide +kernel
theorem d_M_space_17 : decode b_M_space 17 = .ok (.iadd, 1) := by decide +kernel
theorem d_M_space_18 : decode b_M_space 18 = .ok (.putfield 87, 3) := by decide +kernel
theorem d_M_space_21 : decode b_M_space 21 = .ok (.iconst 1, 1) := by decide +kernel
theorem d_M_space_22 : decode b_M_space 22 = .ok (.ireturn, 1) := by decide +kernel
theorem d_M_thrown_0 : decode b_M_thrown 0 = .ok (.aload_n 0, 1) := by decide +kernel
theorem d_M_thrown_1 : decode b_M_thrown 1 = .ok (.getfield 72, 3) := by decide +kernel
theorem d_M_thrown_4 : decode b_M_thrown 4 = .ok (.ireturn, 1) := by decide +kernel
theorem d_M_word_0 : decode b_M_word 0 = .ok (.lconst 0, 1) := by decide +kernel
theorem d_M_word_1 : decode b_M_word 1 = .ok (.lstore_n 1, 1) := by decide +kernel
theorem d_M_word_2 : decode b_M_word 2 = .ok (.iconst 0, 1) := by decide +kernel
theorem d_M_word_3 : decode b_M_word 3 = .ok (.istore_n 3, 1) := by decide +kernel
theorem d_M_word_4 : decode b_M_word 4 = .ok (.aload_n 0, 1) := by decide +kernel
theorem d_M_word_5 : decode b_M_word 5 = .ok (.invokevirtual 94, 3) := by decide +kernel
theorem d_M_word_8 : decode b_M_word 8 = .ok (.ifCond .eq 61, 3) := by decide +kernel
theorem d_M_word_11 : decode b_M_word 11 = .ok (.iload_n 3, 1) := by decide +kernel
theorem d_M_word_12 : decode b_M_word 12 = .ok (.bipush 9, 2) := by decide +kernel
theorem d_M_word_14 : decode b_M_word 14 = .ok (.if_icmp .ge 23, 3) := by decide +kernel
theorem d_M_word_17 : decode b_M_word 17 = .ok (.lload_n 1, 1) := by decide +kernel
theorem d_M_word_18 : decode b_M_word 18 = .ok (.ldc2_w 98, 3) := by decide +kernel
theorem d_M_word_21 : decode b_M_word 21 = .ok (.lmul, 1) := by decide +kernel
theorem d_M_word_22 : decode b_M_word 22 = .ok (.aload_n 0, 1) := by decide +kernel
theorem d_M_word_23 : decode b_M_word 23 = .ok (.invokevirtual 90, 3) := by decide +kernel
theorem d_M_word_26 : decode b_M_word 26 = .ok (.i2l, 1) := by decide +kernel
theorem d_M_word_27 : decode b_M_word 27 = .ok (.ladd, 1) := by decide +kernel
theorem d_M_word_28 : decode b_M_word 28 = .ok (.ldc2_w 100, 3) := by decide +kernel
theorem d_M_word_31 : decode b_M_word 31 = .ok (.lsub, 1) := by decide +kernel
theorem d_M_word_32 : decode b_M_word 32 = .ok (.lconst 1, 1) := by decide +kernel
theorem d_M_word_33 : decode b_M_word 33 = .ok (.ladd, 1) := by decide +kernel
theorem d_M_word_34 : decode b_M_word 34 = .ok (.goto 6, 3) := by decide +kernel
theorem d_M_word_37 : decode b_M_word 37 = .ok (.ldc2_w 102, 3) := by decide +kernel
theorem d_M_word_40 : decode b_M_word 40 = .ok (.lstore_n 1, 1) := by decide +kernel
theorem d_M_word_41 : decode b_M_word 41 = .ok (.lload_n 1, 1) := by decide +kernel
theorem d_M_word_42 : decode b_M_word 42 = .ok (.lconst 0, 1) := by decide +kernel
theorem d_M_word_43 : decode b_M_word 43 = .ok (.lcmp, 1) := by decide +kernel
theorem d_M_word_44 : decode b_M_word 44 = .ok (.ifCond .ge 8, 3) := by decide +kernel
theorem d_M_word_47 : decode b_M_word 47 = .ok (.bipush 9, 2) := by decide +kernel
theorem d_M_word_49 : decode b_M_word 49 = .ok (.goto 6, 3) := by decide +kernel
theorem d_M_word_52 : decode b_M_word 52 = .ok (.iload_n 3, 1) := by decide +kernel
theorem d_M_word_53 : decode b_M_word 53 = .ok (.iconst 1, 1) := by decide +kernel
theorem d_M_word_54 : decode b_M_word 54 = .ok (.iadd, 1) := by decide +kernel
theorem d_M_word_55 : decode b_M_word 55 = .ok (.istore_n 3, 1) := by decide +kernel
theorem d_M_word_56 : decode b_M_word 56 = .ok (.aload_n 0, 1) := by decide +kernel
theorem d_M_word_57 : decode b_M_word 57 = .ok (.dup, 1) := by decide +kernel
theorem d_M_word_58 : decode b_M_word 58 = .ok (.getfield 87, 3) := by decide +kernel
theorem d_M_word_61 : decode b_M_word 61 = .ok (.iconst 1, 1) := by decide +kernel
theorem d_M_word_62 : decode b_M_word 62 = .ok (.iadd, 1) := by decide +kernel
theorem d_M_word_63 : decode b_M_word 63 = .ok (.putfield 87, 3) := by decide +kernel
theorem d_M_word_66 : decode b_M_word 66 = .ok (.goto (-62), 3) := by decide +kernel
theorem d_M_word_69 : decode b_M_word 69 = .ok (.lload_n 1, 1) := by decide +kernel
theorem d_M_word_70 : decode b_M_word 70 = .ok (.lreturn, 1) := by decide +kernel
theorem d_M_word4_0 : decode b_M_word4 0 = .ok (.iload_n 0, 1) := by decide +kernel
theorem d_M_word4_1 : decode b_M_word4 1 = .ok (.i2l, 1) := by decide +kernel
theorem d_M_word4_2 : decode b_M_word4 2 = .ok (.ldc2_w 98, 3) := by decide +kernel
theorem d_M_word4_5 : decode b_M_word4 5 = .ok (.lmul, 1) := by decide +kernel
theorem d_M_word4_6 : decode b_M_word4 6 = .ok (.iload_n 1, 1) := by decide +kernel
theorem d_M_word4_7 : decode b_M_word4 7 = .ok (.i2l, 1) := by decide +kernel
theorem d_M_word4_8 : decode b_M_word4 8 = .ok (.ladd, 1) := by decide +kernel
theorem d_M_word4_9 : decode b_M_word4 9 = .ok (.ldc2_w 98, 3) := by decide +kernel
theorem d_M_word4_12 : decode b_M_word4 12 = .ok (.lmul, 1) := by decide +kernel
theorem d_M_word4_13 : decode b_M_word4 13 = .ok (.iload_n 2, 1) := by decide +kernel
theorem d_M_word4_14 : decode b_M_word4 14 = .ok (.i2l, 1) := by decide +kernel
theorem d_M_word4_15 : decode b_M_word4 15 = .ok (.ladd, 1) := by decide +kernel
theorem d_M_word4_16 : decode b_M_word4 16 = .ok (.ldc2_w 98, 3) := by decide +kernel
theorem d_M_word4_19 : decode b_M_word4 19 = .ok (.lmul, 1) := by decide +kernel
theorem d_M_word4_20 : decode b_M_word4 20 = .ok (.iload_n 3, 1) := by decide +kernel
theorem d_M_word4_21 : decode b_M_word4 21 = .ok (.i2l, 1) := by decide +kernel
theorem d_M_word4_22 : decode b_M_word4 22 = .ok (.ladd, 1) := by decide +kernel
theorem d_M_word4_23 : decode b_M_word4 23 = .ok (.lreturn, 1) := by decide +kernel
theorem d_M_yearsOn_0 : decode b_M_yearsOn 0 = .ok (.aload_n 0, 1) := by decide +kernel
theorem d_M_yearsOn_1 : decode b_M_yearsOn 1 = .ok (.getfield 27, 3) := by decide +kernel
theorem d_M_yearsOn_4 : decode b_M_yearsOn 4 = .ok (.bipush 6, 2) := by decide +kernel
theorem d_M_yearsOn_6 : decode b_M_yearsOn 6 = .ok (.iload_n 1, 1) := by decide +kernel
theorem d_M_yearsOn_7 : decode b_M_yearsOn 7 = .ok (.imul, 1) := by decide +kernel
theorem d_M_yearsOn_8 : decode b_M_yearsOn 8 = .ok (.iaload, 1) := by decide +kernel
theorem d_M_yearsOn_9 : decode b_M_yearsOn 9 = .ok (.istore_n 3, 1) := by decide +kernel
theorem d_M_yearsOn_10 : decode b_M_yearsOn 10 = .ok (.iconst 1, 1) := by decide +kernel
theorem d_M_yearsOn_11 : decode b_M_yearsOn 11 = .ok (.istore 4, 2) := by decide +kernel
theorem d_M_yearsOn_13 : decode b_M_yearsOn 13 = .ok (.iload 4, 2) := by decide +kernel
theorem d_M_yearsOn_15 : decode b_M_yearsOn 15 = .ok (.aload_n 0, 1) := by decide +kernel
theorem d_M_yearsOn_16 : decode b_M_yearsOn 16 = .ok (.getfield 24, 3) := by decide +kernel
theorem d_M_yearsOn_19 : decode b_M_yearsOn 19 = .ok (.iload_n 1, 1) := by decide +kernel
theorem d_M_yearsOn_20 : decode b_M_yearsOn 20 = .ok (.iaload, 1) := by decide +kernel
theorem d_M_yearsOn_21 : decode b_M_yearsOn 21 = .ok (.if_icmp .gt 42, 3) := by decide +kernel
theorem d_M_yearsOn_24 : decode b_M_yearsOn 24 = .ok (.aload_n 0, 1) := by decide +kernel
theorem d_M_yearsOn_25 : decode b_M_yearsOn 25 = .ok (.getfield 30, 3) := by decide +kernel
theorem d_M_yearsOn_28 : decode b_M_yearsOn 28 = .ok (.bipush 6, 2) := by decide +kernel
theorem d_M_yearsOn_30 : decode b_M_yearsOn 30 = .ok (.iload_n 1, 1) := by decide +kernel
theorem d_M_yearsOn_31 : decode b_M_yearsOn 31 = .ok (.imul, 1) := by decide +kernel
theorem d_M_yearsOn_32 : decode b_M_yearsOn 32 = .ok (.iload 4, 2) := by decide +kernel
theorem d_M_yearsOn_34 : decode b_M_yearsOn 34 = .ok (.iadd, 1) := by decide +kernel
theorem d_M_yearsOn_35 : decode b_M_yearsOn 35 = .ok (.iaload, 1) := by decide +kernel
theorem d_M_yearsOn_36 : decode b_M_yearsOn 36 = .ok (.iload_n 2, 1) := by decide +kernel
theorem d_M_yearsOn_37 : decode b_M_yearsOn 37 = .ok (.if_icmp .gt 18, 3) := by decide +kernel
theorem d_M_yearsOn_40 : decode b_M_yearsOn 40 = .ok (.aload_n 0, 1) := by decide +kernel
theorem d_M_yearsOn_41 : decode b_M_yearsOn 41 = .ok (.getfield 27, 3) := by decide +kernel
theorem d_M_yearsOn_44 : decode b_M_yearsOn 44 = .ok (.bipush 6, 2) := by decide +kernel
theorem d_M_yearsOn_46 : decode b_M_yearsOn 46 = .ok (.iload_n 1, 1) := by decide +kernel
theorem d_M_yearsOn_47 : decode b_M_yearsOn 47 = .ok (.imul, 1) := by decide +kernel
theorem d_M_yearsOn_48 : decode b_M_yearsOn 48 = .ok (.iload 4, 2) := by decide +kernel
theorem d_M_yearsOn_50 : decode b_M_yearsOn 50 = .ok (.iadd, 1) := by decide +kernel
theorem d_M_yearsOn_51 : decode b_M_yearsOn 51 = .ok (.iaload, 1) := by decide +kernel
theorem d_M_yearsOn_52 : decode b_M_yearsOn 52 = .ok (.goto 4, 3) := by decide +kernel
theorem d_M_yearsOn_55 : decode b_M_yearsOn 55 = .ok (.iload_n 3, 1) := by decide +kernel
theorem d_M_yearsOn_56 : decode b_M_yearsOn 56 = .ok (.istore_n 3, 1) := by decide +kernel
theorem d_M_yearsOn_57 : decode b_M_yearsOn 57 = .ok (.iinc 4 1, 3) := by decide +kernel
theorem d_M_yearsOn_60 : decode b_M_yearsOn 60 = .ok (.goto (-47), 3) := by decide +kernel
theorem d_M_yearsOn_63 : decode b_M_yearsOn 63 = .ok (.iload_n 3, 1) := by decide +kernel
theorem d_M_yearsOn_64 : decode b_M_yearsOn 64 = .ok (.ireturn, 1) := by decide +kernel
theorem d_R_action_0 : decode b_R_action 0 = .ok (.aload_n 0, 1) := by decide +kernel
theorem d_R_action_1 : decode b_R_action 1 = .ok (.getfield 25, 3) := by decide +kernel
theorem d_R_action_4 : decode b_R_action 4 = .ok (.ireturn, 1) := by decide +kernel
theorem d_R_addChange_0 : decode b_R_addChange 0 = .ok (.aload_n 0, 1) := by decide +kernel
theorem d_R_addChange_1 : decode b_R_addChange 1 = .ok (.getfield 32, 3) := by decide +kernel
theorem d_R_addChange_4 : decode b_R_addChange 4 = .ok (.istore_n 3, 1) := by decide +kernel
theorem d_R_addChange_5 : decode b_R_addChange 5 = .ok (.iload_n 3, 1) := by decide +kernel
theorem d_R_addChange_6 : decode b_R_addChange 6 = .ok (.ifCond .lt 8, 3) := by decide +kernel
theorem d_R_addChange_9 : decode b_R_addChange 9 = .ok (.iload_n 3, 1) := by decide +kernel
theorem d_R_addChange_10 : decode b_R_addChange 10 = .ok (.iconst 5, 1) := by decide +kernel
theorem d_R_addChange_11 : decode b_R_addChange 11 = .ok (.if_icmp .lt 5, 3) := by decide +kernel
theorem d_R_addChange_14 : decode b_R_addChange 14 = .ok (.iconst 0, 1) := by decide +kernel
theorem d_R_addChange_15 : decode b_R_addChange 15 = .ok (.ireturn, 1) := by decide +kernel
theorem d_R_addChange_16 : decode b_R_addChange 16 = .ok (.aload_n 0, 1) := by decide +kernel
theorem d_R_addChange_17 : decode b_R_addChange 17 = .ok (.getfield 9, 3) := by decide +kernel
theorem d_R_addChange_20 : decode b_R_addChange 20 = .ok (.iload_n 3, 1) := by decide +kernel
theorem d_R_addChange_21 : decode b_R_addChange 21 = .ok (.iload_n 2, 1) := by decide +kernel
theorem d_R_addChange_22 : decode b_R_addChange 22 = .ok (.iastore, 1) := by decide +kernel
theorem d_R_addChange_23 : decode b_R_addChange 23 = .ok (.aload_n 0, 1) := by decide +kernel
theorem d_R_addChange_24 : decode b_R_addChange 24 = .ok (.getfield 15, 3) := by decide +kernel
theorem d_R_addChange_27 : decode b_R_addChange 27 = .ok (.iload_n 3, 1) := by decide +kernel
theorem d_R_addChange_28 : decode b_R_addChange 28 = .ok (.iload_n 1, 1) := by decide +kernel
theorem d_R_addChange_29 : decode b_R_addChange 29 = .ok (.iastore, 1) := by decide +kernel
theorem d_R_addChange_30 : decode b_R_addChange 30 = .ok (.aload_n 0, 1) := by decide +kernel
theorem d_R_addChange_31 : decode b_R_addChange 31 = .ok (.iload_n 3, 1) := by decide +kernel
theorem d_R_addChange_32 : decode b_R_addChange 32 = .ok (.iconst 1, 1) := by decide +kernel
theorem d_R_addChange_33 : decode b_R_addChange 33 = .ok (.iadd, 1) := by decide +kernel
theorem d_R_addChange_34 : decode b_R_addChange 34 = .ok (.putfield 32, 3) := by decide +kernel
theorem d_R_addChange_37 : decode b_R_addChange 37 = .ok (.iconst 1, 1) := by decide +kernel
theorem d_R_addChange_38 : decode b_R_addChange 38 = .ok (.ireturn, 1) := by decide +kernel
theorem d_R_dueDay_0 : decode b_R_dueDay 0 = .ok (.iload_n 1, 1) := by decide +kernel
theorem d_R_dueDay_1 : decode b_R_dueDay 1 = .ok (.iconst (-1), 1) := by decide +kernel
theorem d_R_dueDay_2 : decode b_R_dueDay 2 = .ok (.if_icmp .ne 7, 3) := by decide +kernel
theorem d_R_dueDay_5 : decode b_R_dueDay 5 = .ok (.iconst (-1), 1) := by decide +kernel
theorem d_R_dueDay_6 : decode b_R_dueDay 6 = .ok (.goto 14, 3) := by decide +kernel
theorem d_R_dueDay_9 : decode b_R_dueDay 9 = .ok (.iload_n 1, 1) := by decide +kernel
theorem d_R_dueDay_10 : decode b_R_dueDay 10 = .ok (.aload_n 0, 1) := by decide +kernel
theorem d_R_dueDay_11 : decode b_R_dueDay 11 = .ok (.iload_n 2, 1) := by decide +kernel
theorem d_R_dueDay_12 : decode b_R_dueDay 12 = .ok (.invokevirtual 35, 3) := by decide +kernel
theorem d_R_dueDay_15 : decode b_R_dueDay 15 = .ok (.sipush 365, 3) := by decide +kernel
theorem d_R_dueDay_18 : decode b_R_dueDay 18 = .ok (.imul, 1) := by decide +kernel
theorem d_R_dueDay_19 : decode b_R_dueDay 19 = .ok (.iadd, 1) := by decide +kernel
theorem d_R_dueDay_20 : decode b_R_dueDay 20 = .ok (.ireturn, 1) := by decide +kernel
theorem d_R_eventKind_0 : decode b_R_eventKind 0 = .ok (.aload_n 0, 1) := by decide +kernel
theorem d_R_eventKind_1 : decode b_R_eventKind 1 = .ok (.getfield 18, 3) := by decide +kernel
theorem d_R_eventKind_4 : decode b_R_eventKind 4 = .ok (.ireturn, 1) := by decide +kernel
theorem d_R_init_0 : decode b_R_init 0 = .ok (.aload_n 0, 1) := by decide +kernel
theorem d_R_init_1 : decode b_R_init 1 = .ok (.invokespecial 3, 3) := by decide +kernel
theorem d_R_init_4 : decode b_R_init 4 = .ok (.aload_n 0, 1) := by decide +kernel
theorem d_R_init_5 : decode b_R_init 5 = .ok (.iconst 5, 1) := by decide +kernel
theorem d_R_init_6 : decode b_R_init 6 = .ok (.newarray .int, 2) := by decide +kernel
theorem d_R_init_8 : decode b_R_init 8 = .ok (.putfield 9, 3) := by decide +kernel
theorem d_R_init_11 : decode b_R_init 11 = .ok (.aload_n 0, 1) := by decide +kernel
theorem d_R_init_12 : decode b_R_init 12 = .ok (.iconst 5, 1) := by decide +kernel
theorem d_R_init_13 : decode b_R_init 13 = .ok (.newarray .int, 2) := by decide +kernel
theorem d_R_init_15 : decode b_R_init 15 = .ok (.putfield 15, 3) := by decide +kernel
theorem d_R_init_18 : decode b_R_init 18 = .ok (.aload_n 0, 1) := by decide +kernel
theorem d_R_init_19 : decode b_R_init 19 = .ok (.iload_n 1, 1) := by decide +kernel
theorem d_R_init_20 : decode b_R_init 20 = .ok (.putfield 18, 3) := by decide +kernel
theorem d_R_init_23 : decode b_R_init 23 = .ok (.aload_n 0, 1) := by decide +kernel
theorem d_R_init_24 : decode b_R_init 24 = .ok (.iload_n 2, 1) := by decide +kernel
theorem d_R_init_25 : decode b_R_init 25 = .ok (.putfield 22, 3) := by decide +kernel
theorem d_R_init_28 : decode b_R_init 28 = .ok (.aload_n 0, 1) := by decide +kernel
theorem d_R_init_29 : decode b_R_init 29 = .ok (.iload_n 3, 1) := by decide +kernel
theorem d_R_init_30 : decode b_R_init 30 = .ok (.putfield 25, 3) := by decide +kernel
theorem d_R_init_33 : decode b_R_init 33 = .ok (.return_, 1) := by decide +kernel
theorem d_R_isBroken_0 : decode b_R_isBroken 0 = .ok (.aload_n 0, 1) := by decide +kernel
theorem d_R_isBroken_1 : decode b_R_isBroken 1 = .ok (.getfield 28, 3) := by decide +kernel
theorem d_R_isBroken_4 : decode b_R_isBroken 4 = .ok (.ireturn, 1) := by decide +kernel
theorem d_R_isChangedFrom_0 : decode b_R_isChangedFrom 0 = .ok (.aload_n 0, 1) := by decide +kernel
theorem d_R_isChangedFrom_1 : decode b_R_isChangedFrom 1 = .ok (.getfield 32, 3) := by decide +kernel
theorem d_R_isChangedFrom_4 : decode b_R_isChangedFrom 4 = .ok (.iconst 1, 1) := by decide +kernel
theorem d_R_isChangedFrom_5 : decode b_R_isChangedFrom 5 = .ok (.isub, 1) := by decide +kernel
theorem d_R_isChangedFrom_6 : decode b_R_isChangedFrom 6 = .ok (.istore_n 2, 1) := by decide +kernel
theorem d_R_isChangedFrom_7 : decode b_R_isChangedFrom 7 = .ok (.iload_n 2, 1) := by decide +kernel
theorem d_R_isChangedFrom_8 : decode b_R_isChangedFrom 8 = .ok (.ifCond .lt 22, 3) := by decide +kernel
theorem d_R_isChangedFrom_11 : decode b_R_isChangedFrom 11 = .ok (.iload_n 2, 1) := by decide +kernel
theorem d_R_isChangedFrom_12 : decode b_R_isChangedFrom 12 = .ok (.iconst 5, 1) := by decide +kernel
theorem d_R_isChangedFrom_13 : decode b_R_isChangedFrom 13 = .ok (.if_icmp .ge 17, 3) := by decide +kernel
theorem d_R_isChangedFrom_16 : decode b_R_isChangedFrom 16 = .ok (.aload_n 0, 1) := by decide +kernel
theorem d_R_isChangedFrom_17 : decode b_R_isChangedFrom 17 = .ok (.getfield 9, 3) := by decide +kernel
theorem d_R_isChangedFrom_20 : decode b_R_isChangedFrom 20 = .ok (.iload_n 2, 1) := by decide +kernel
theorem d_R_isChangedFrom_21 : decode b_R_isChangedFrom 21 = .ok (.iaload, 1) := by decide +kernel
theorem d_R_isChangedFrom_22 : decode b_R_isChangedFrom 22 = .ok (.iload_n 1, 1) := by decide +kernel
theorem d_R_isChangedFrom_23 : decode b_R_isChangedFrom 23 = .ok (.if_icmp .lt 7, 3) := by decide +kernel
theorem d_R_isChangedFrom_26 : decode b_R_isChangedFrom 26 = .ok (.iconst 1, 1) := by decide +kernel
theorem d_R_isChangedFrom_27 : decode b_R_isChangedFrom 27 = .ok (.goto 4, 3) := by decide +kernel
theorem d_R_isChangedFrom_30 : decode b_R_isChangedFrom 30 = .ok (.iconst 0, 1) := by decide +kernel
theorem d_R_isChangedFrom_31 : decode b_R_isChangedFrom 31 = .ok (.ireturn, 1) := by decide +kernel
theorem d_R_setBroken_0 : decode b_R_setBroken 0 = .ok (.aload_n 0, 1) := by decide +kernel
theorem d_R_setBroken_1 : decode b_R_setBroken 1 = .ok (.iload_n 1, 1) := by decide +kernel
theorem d_R_setBroken_2 : decode b_R_setBroken 2 = .ok (.putfield 28, 3) := by decide +kernel
theorem d_R_setBroken_5 : decode b_R_setBroken 5 = .ok (.return_, 1) := by decide +kernel
theorem d_R_yearsOn_0 : decode b_R_yearsOn 0 = .ok (.aload_n 0, 1) := by decide +kernel
theorem d_R_yearsOn_1 : decode b_R_yearsOn 1 = .ok (.getfield 22, 3) := by decide +kernel
theorem d_R_yearsOn_4 : decode b_R_yearsOn 4 = .ok (.istore_n 2, 1) := by decide +kernel
theorem d_R_yearsOn_5 : decode b_R_yearsOn 5 = .ok (.iconst 0, 1) := by decide +kernel
theorem d_R_yearsOn_6 : decode b_R_yearsOn 6 = .ok (.istore_n 3, 1) := by decide +kernel
theorem d_R_yearsOn_7 : decode b_R_yearsOn 7 = .ok (.iload_n 3, 1) := by decide +kernel
theorem d_R_yearsOn_8 : decode b_R_yearsOn 8 = .ok (.aload_n 0, 1) := by decide +kernel
theorem d_R_yearsOn_9 : decode b_R_yearsOn 9 = .ok (.getfield 32, 3) := by decide +kernel
theorem d_R_yearsOn_12 : decode b_R_yearsOn 12 = .ok (.if_icmp .ge 31, 3) := by decide +kernel
theorem d_R_yearsOn_15 : decode b_R_yearsOn 15 = .ok (.iload_n 3, 1) := by decide +kernel
theorem d_R_yearsOn_16 : decode b_R_yearsOn 16 = .ok (.iconst 5, 1) := by decide +kernel
theorem d_R_yearsOn_17 : decode b_R_yearsOn 17 = .ok (.if_icmp .ge 26, 3) := by decide +kernel
theorem d_R_yearsOn_20 : decode b_R_yearsOn 20 = .ok (.aload_n 0, 1) := by decide +kernel
theorem d_R_yearsOn_21 : decode b_R_yearsOn 21 = .ok (.getfield 9, 3) := by decide +kernel
theorem d_R_yearsOn_24 : decode b_R_yearsOn 24 = .ok (.iload_n 3, 1) := by decide +kernel
theorem d_R_yearsOn_25 : decode b_R_yearsOn 25 = .ok (.iaload, 1) := by decide +kernel
theorem d_R_yearsOn_26 : decode b_R_yearsOn 26 = .ok (.iload_n 1, 1) := by decide +kernel
theorem d_R_yearsOn_27 : decode b_R_yearsOn 27 = .ok (.if_icmp .gt 10, 3) := by decide +kernel
theorem d_R_yearsOn_30 : decode b_R_yearsOn 30 = .ok (.aload_n 0, 1) := by decide +kernel
theorem d_R_yearsOn_31 : decode b_R_yearsOn 31 = .ok (.getfield 15, 3) := by decide +kernel
theorem d_R_yearsOn_34 : decode b_R_yearsOn 34 = .ok (.iload_n 3, 1) := by decide +kernel
theorem d_R_yearsOn_35 : decode b_R_yearsOn 35 = .ok (.iaload, 1) := by decide +kernel
theorem d_R_yearsOn_36 : decode b_R_yearsOn 36 = .ok (.istore_n 2, 1) := by decide +kernel
theorem d_R_yearsOn_37 : decode b_R_yearsOn 37 = .ok (.iinc 3 1, 3) := by decide +kernel
theorem d_R_yearsOn_40 : decode b_R_yearsOn 40 = .ok (.goto (-33), 3) := by decide +kernel
theorem d_R_yearsOn_43 : decode b_R_yearsOn 43 = .ok (.iload_n 2, 1) := by decide +kernel
theorem d_R_yearsOn_44 : decode b_R_yearsOn 44 = .ok (.ireturn, 1) := by decide +kernel
theorem d_S_charAt_0 : decode b_S_charAt 0 = .ok (.aload_n 0, 1) := by decide +kernel
theorem d_S_charAt_1 : decode b_S_charAt 1 = .ok (.invokevirtual 492, 3) := by decide +kernel
theorem d_S_charAt_4 : decode b_S_charAt 4 = .ok (.ifCond .eq 12, 3) := by decide +kernel
theorem d_S_charAt_7 : decode b_S_charAt 7 = .ok (.aload_n 0, 1) := by decide +kernel
theorem d_S_charAt_8 : decode b_S_charAt 8 = .ok (.getfield 9, 3) := by decide +kernel
theorem d_S_charAt_11 : decode b_S_charAt 11 = .ok (.iload_n 1, 1) := by decide +kernel
theorem d_S_charAt_12 : decode b_S_charAt 12 = .ok (.invokestatic 495, 3) := by decide +kernel
theorem d_S_charAt_15 : decode b_S_charAt 15 = .ok (.ireturn, 1) := by decide +kernel
theorem d_S_charAt_16 : decode b_S_charAt 16 = .ok (.aload_n 0, 1) := by decide +kernel
theorem d_S_charAt_17 : decode b_S_charAt 17 = .ok (.getfield 9, 3) := by decide +kernel
theorem d_S_charAt_20 : decode b_S_charAt 20 = .ok (.iload_n 1, 1) := by decide +kernel
theorem d_S_charAt_21 : decode b_S_charAt 21 = .ok (.invokestatic 498, 3) := by decide +kernel
theorem d_S_charAt_24 : decode b_S_charAt 24 = .ok (.ireturn, 1) := by decide +kernel
theorem d_S_coder_0 : decode b_S_coder 0 = .ok (.getstatic 38, 3) := by decide +kernel
theorem d_S_coder_3 : decode b_S_coder 3 = .ok (.ifCond .eq 10, 3) := by decide +kernel
theorem d_S_coder_6 : decode b_S_coder 6 = .ok (.aload_n 0, 1) := by decide +kernel
theorem d_S_coder_7 : decode b_S_coder 7 = .ok (.getfield 15, 3) := by decide +kernel
theorem d_S_coder_10 : decode b_S_coder 10 = .ok (.goto 4, 3) := by decide +kernel
theorem d_S_coder_13 : decode b_S_coder 13 = .ok (.iconst 1, 1) := by decide +kernel
theorem d_S_coder_14 : decode b_S_coder 14 = .ok (.ireturn, 1) := by decide +kernel
theorem d_S_isLatin1_0 : decode b_S_isLatin1 0 = .ok (.getstatic 38, 3) := by decide +kernel
theorem d_S_isLatin1_3 : decode b_S_isLatin1 3 = .ok (.ifCond .eq 14, 3) := by decide +kernel
theorem d_S_isLatin1_6 : decode b_S_isLatin1 6 = .ok (.aload_n 0, 1) := by decide +kernel
theorem d_S_isLatin1_7 : decode b_S_isLatin1 7 = .ok (.getfield 15, 3) := by decide +kernel
theorem d_S_isLatin1_10 : decode b_S_isLatin1 10 = .ok (.ifCond .ne 7, 3) := by decide +kernel
theorem d_S_isLatin1_13 : decode b_S_isLatin1 13 = .ok (.iconst 1, 1) := by decide +kernel
theorem d_S_isLatin1_14 : decode b_S_isLatin1 14 = .ok (.goto 4, 3) := by decide +kernel
theorem d_S_isLatin1_17 : decode b_S_isLatin1 17 = .ok (.iconst 0, 1) := by decide +kernel
theorem d_S_isLatin1_18 : decode b_S_isLatin1 18 = .ok (.ireturn, 1) := by decide +kernel
theorem d_S_length_0 : decode b_S_length 0 = .ok (.aload_n 0, 1) := by decide +kernel
theorem d_S_length_1 : decode b_S_length 1 = .ok (.getfield 9, 3) := by decide +kernel
theorem d_S_length_4 : decode b_S_length 4 = .ok (.arraylength, 1) := by decide +kernel
theorem d_S_length_5 : decode b_S_length 5 = .ok (.aload_n 0, 1) := by decide +kernel
theorem d_S_length_6 : decode b_S_length 6 = .ok (.invokevirtual 335, 3) := by decide +kernel
theorem d_S_length_9 : decode b_S_length 9 = .ok (.ishr, 1) := by decide +kernel
theorem d_S_length_10 : decode b_S_length 10 = .ok (.ireturn, 1) := by decide +kernel
theorem d_T_action_0 : decode b_T_action 0 = .ok (.aload_n 0, 1) := by decide +kernel
theorem d_T_action_1 : decode b_T_action 1 = .ok (.getfield 41, 3) := by decide +kernel
theorem d_T_action_4 : decode b_T_action 4 = .ok (.ireturn, 1) := by decide +kernel
theorem d_T_clear_0 : decode b_T_clear 0 = .ok (.aload_n 0, 1) := by decide +kernel
theorem d_T_clear_1 : decode b_T_clear 1 = .ok (.iconst 0, 1) := by decide +kernel
theorem d_T_clear_2 : decode b_T_clear 2 = .ok (.putfield 15, 3) := by decide +kernel
theorem d_T_clear_5 : decode b_T_clear 5 = .ok (.return_, 1) := by decide +kernel
theorem d_T_collect_0 : decode b_T_collect 0 = .ok (.aload_n 0, 1) := by decide +kernel
theorem d_T_collect_1 : decode b_T_collect 1 = .ok (.getfield 15, 3) := by decide +kernel
theorem d_T_collect_4 : decode b_T_collect 4 = .ok (.ifCond .lt 39, 3) := by decide +kernel
theorem d_T_collect_7 : decode b_T_collect 7 = .ok (.aload_n 0, 1) := by decide +kernel
theorem d_T_collect_8 : decode b_T_collect 8 = .ok (.getfield 15, 3) := by decide +kernel
theorem d_T_collect_11 : decode b_T_collect 11 = .ok (.aload_n 0, 1) := by decide +kernel
theorem d_T_collect_12 : decode b_T_collect 12 = .ok (.getfield 9, 3) := by decide +kernel
theorem d_T_collect_15 : decode b_T_collect 15 = .ok (.arraylength, 1) := by decide +kernel
theorem d_T_collect_16 : decode b_T_collect 16 = .ok (.if_icmp .ge 27, 3) := by decide +kernel
theorem d_T_collect_19 : decode b_T_collect 19 = .ok (.aload_n 0, 1) := by decide +kernel
theorem d_T_collect_20 : decode b_T_collect 20 = .ok (.getfield 9, 3) := by decide +kernel
theorem d_T_collect_23 : decode b_T_collect 23 = .ok (.aload_n 0, 1) := by decide +kernel
theorem d_T_collect_24 : decode b_T_collect 24 = .ok (.getfield 15, 3) := by decide +kernel
theorem d_T_collect_27 : decode b_T_collect 27 = .ok (.iload_n 1, 1) := by decide +kernel
theorem d_T_collect_28 : decode b_T_collect 28 = .ok (.sipush 255, 3) := by decide +kernel
theorem d_T_collect_31 : decode b_T_collect 31 = .ok (.iand, 1) := by decide +kernel
theorem d_T_collect_32 : decode b_T_collect 32 = .ok (.iastore, 1) := by decide +kernel
theorem d_T_collect_33 : decode b_T_collect 33 = .ok (.aload_n 0, 1) := by decide +kernel
theorem d_T_collect_34 : decode b_T_collect 34 = .ok (.dup, 1) := by decide +kernel
theorem d_T_collect_35 : decode b_T_collect 35 = .ok (.getfield 15, 3) := by decide +kernel
theorem d_T_collect_38 : decode b_T_collect 38 = .ok (.iconst 1, 1) := by decide +kernel
theorem d_T_collect_39 : decode b_T_collect 39 = .ok (.iadd, 1) := by decide +kernel
theorem d_T_collect_40 : decode b_T_collect 40 = .ok (.putfield 15, 3) := by decide +kernel
theorem d_T_collect_43 : decode b_T_collect 43 = .ok (.return_, 1) := by decide +kernel
theorem d_T_eventKind_0 : decode b_T_eventKind 0 = .ok (.aload_n 0, 1) := by decide +kernel
theorem d_T_eventKind_1 : decode b_T_eventKind 1 = .ok (.getfield 35, 3) := by decide +kernel
theorem d_T_eventKind_4 : decode b_T_eventKind 4 = .ok (.ireturn, 1) := by decide +kernel
theorem d_T_eventWord_0 : decode b_T_eventWord 0 = .ok (.iload_n 0, 1) := by decide +kernel
theorem d_T_eventWord_1 : decode b_T_eventWord 1 = .ok (.tableswitch 36 0 2 #[27, 30, 33], 27) := by decide +kernel
theorem d_T_eventWord_28 : decode b_T_eventWord 28 = .ok (.ldc 68, 2) := by decide +kernel
theorem d_T_eventWord_30 : decode b_T_eventWord 30 = .ok (.areturn, 1) := by decide +kernel
theorem d_T_eventWord_31 : decode b_T_eventWord 31 = .ok (.ldc 70, 2) := by decide +kernel
theorem d_T_eventWord_33 : decode b_T_eventWord 33 = .ok (.areturn, 1) := by decide +kernel
theorem d_T_eventWord_34 : decode b_T_eventWord 34 = .ok (.ldc 72, 2) := by decide +kernel
theorem d_T_eventWord_36 : decode b_T_eventWord 36 = .ok (.areturn, 1) := by decide +kernel
theorem d_T_eventWord_37 : decode b_T_eventWord 37 = .ok (.ldc 74, 2) := by decide +kernel
theorem d_T_eventWord_39 : decode b_T_eventWord 39 = .ok (.areturn, 1) := by decide +kernel
theorem d_T_init_0 : decode b_T_init 0 = .ok (.aload_n 0, 1) := by decide +kernel
theorem d_T_init_1 : decode b_T_init 1 = .ok (.invokespecial 3, 3) := by decide +kernel
theorem d_T_init_4 : decode b_T_init 4 = .ok (.aload_n 0, 1) := by decide +kernel
theorem d_T_init_5 : decode b_T_init 5 = .ok (.bipush 40, 2) := by decide +kernel
theorem d_T_init_7 : decode b_T_init 7 = .ok (.newarray .int, 2) := by decide +kernel
theorem d_T_init_9 : decode b_T_init 9 = .ok (.putfield 9, 3) := by decide +kernel
theorem d_T_init_12 : decode b_T_init 12 = .ok (.return_, 1) := by decide +kernel
theorem d_T_isDigit_0 : decode b_T_isDigit 0 = .ok (.iload_n 0, 1) := by decide +kernel
theorem d_T_isDigit_1 : decode b_T_isDigit 1 = .ok (.bipush 48, 2) := by decide +kernel
theorem d_T_isDigit_3 : decode b_T_isDigit 3 = .ok (.if_icmp .lt 13, 3) := by decide +kernel
theorem d_T_isDigit_6 : decode b_T_isDigit 6 = .ok (.iload_n 0, 1) := by decide +kernel
theorem d_T_isDigit_7 : decode b_T_isDigit 7 = .ok (.bipush 57, 2) := by decide +kernel
theorem d_T_isDigit_9 : decode b_T_isDigit 9 = .ok (.if_icmp .gt 7, 3) := by decide +kernel
theorem d_T_isDigit_12 : decode b_T_isDigit 12 = .ok (.iconst 1, 1) := by decide +kernel
theorem d_T_isDigit_13 : decode b_T_isDigit 13 = .ok (.goto 4, 3) := by decide +kernel
theorem d_T_isDigit_16 : decode b_T_isDigit 16 = .ok (.iconst 0, 1) := by decide +kernel
theorem d_T_isDigit_17 : decode b_T_isDigit 17 = .ok (.ireturn, 1) := by decide +kernel
theorem d_T_isSmallLetter_0 : decode b_T_isSmallLetter 0 = .ok (.iload_n 0, 1) := by decide +kernel
theorem d_T_isSmallLetter_1 : decode b_T_isSmallLetter 1 = .ok (.bipush 97, 2) := by decide +kernel
theorem d_T_isSmallLetter_3 : decode b_T_isSmallLetter 3 = .ok (.if_icmp .lt 13, 3) := by decide +kernel
theorem d_T_isSmallLetter_6 : decode b_T_isSmallLetter 6 = .ok (.iload_n 0, 1) := by decide +kernel
theorem d_T_isSmallLetter_7 : decode b_T_isSmallLetter 7 = .ok (.bipush 122, 2) := by decide +kernel
theorem d_T_isSmallLetter_9 : decode b_T_isSmallLetter 9 = .ok (.if_icmp .gt 7, 3) := by decide +kernel
theorem d_T_isSmallLetter_12 : decode b_T_isSmallLetter 12 = .ok (.iconst 1, 1) := by decide +kernel
theorem d_T_isSmallLetter_13 : decode b_T_isSmallLetter 13 = .ok (.goto 4, 3) := by decide +kernel
theorem d_T_isSmallLetter_16 : decode b_T_isSmallLetter 16 = .ok (.iconst 0, 1) := by decide +kernel
theorem d_T_isSmallLetter_17 : decode b_T_isSmallLetter 17 = .ok (.ireturn, 1) := by decide +kernel
theorem d_T_isWord_0 : decode b_T_isWord 0 = .ok (.iload_n 2, 1) := by decide +kernel
theorem d_T_isWord_1 : decode b_T_isWord 1 = .ok (.aload_n 0, 1) := by decide +kernel
theorem d_T_isWord_2 : decode b_T_isWord 2 = .ok (.getfield 19, 3) := by decide +kernel
theorem d_T_isWord_5 : decode b_T_isWord 5 = .ok (.isub, 1) := by decide +kernel
theorem d_T_isWord_6 : decode b_T_isWord 6 = .ok (.aload_n 1, 1) := by decide +kernel
theorem d_T_isWord_7 : decode b_T_isWord 7 = .ok (.invokevirtual 79, 3) := by decide +kernel
theorem d_T_isWord_10 : decode b_T_isWord 10 = .ok (.if_icmp .eq 5, 3) := by decide +kernel
theorem d_T_isWord_13 : decode b_T_isWord 13 = .ok (.iconst 0, 1) := by decide +kernel
theorem d_T_isWord_14 : decode b_T_isWord 14 = .ok (.ireturn, 1) := by decide +kernel
theorem d_T_isWord_15 : decode b_T_isWord 15 = .ok (.iconst 0, 1) := by decide +kernel
theorem d_T_isWord_16 : decode b_T_isWord 16 = .ok (.istore_n 3, 1) := by decide +kernel
theorem d_T_isWord_17 : decode b_T_isWord 17 = .ok (.iload_n 3, 1) := by decide +kernel
theorem d_T_isWord_18 : decode b_T_isWord 18 = .ok (.aload_n 1, 1) := by decide +kernel
theorem d_T_isWord_19 : decode b_T_isWord 19 = .ok (.invokevirtual 79, 3) := by decide +kernel
theorem d_T_isWord_22 : decode b_T_isWord 22 = .ok (.if_icmp .ge 29, 3) := by decide +kernel
theorem d_T_isWord_25 : decode b_T_isWord 25 = .ok (.aload_n 0, 1) := by decide +kernel
theorem d_T_isWord_26 : decode b_T_isWord 26 = .ok (.aload_n 0, 1) := by decide +kernel
theorem d_T_isWord_27 : decode b_T_isWord 27 = .ok (.getfield 19, 3) := by decide +kernel
theorem d_T_isWord_30 : decode b_T_isWord 30 = .ok (.iload_n 3, 1) := by decide +kernel
theorem d_T_isWord_31 : decode b_T_isWord 31 = .ok (.iadd, 1) := by decide +kernel
theorem d_T_isWord_32 : decode b_T_isWord 32 = .ok (.invokevirtual 60, 3) := by decide +kernel
theorem d_T_isWord_35 : decode b_T_isWord 35 = .ok (.aload_n 1, 1) := by decide +kernel
theorem d_T_isWord_36 : decode b_T_isWord 36 = .ok (.iload_n 3, 1) := by decide +kernel
theorem d_T_isWord_37 : decode b_T_isWord 37 = .ok (.invokevirtual 83, 3) := by decide +kernel
theorem d_T_isWord_40 : decode b_T_isWord 40 = .ok (.if_icmp .eq 5, 3) := by decide +kernel
theorem d_T_isWord_43 : decode b_T_isWord 43 = .ok (.iconst 0, 1) := by decide +kernel
theorem d_T_isWord_44 : decode b_T_isWord 44 = .ok (.ireturn, 1) := by decide +kernel
theorem d_T_isWord_45 : decode b_T_isWord 45 = .ok (.iinc 3 1, 3) := by decide +kernel
theorem d_T_isWord_48 : decode b_T_isWord 48 = .ok (.goto (-31), 3) := by decide +kernel
theorem d_T_isWord_51 : decode b_T_isWord 51 = .ok (.iconst 1, 1) := by decide +kernel
theorem d_T_isWord_52 : decode b_T_isWord 52 = .ok (.ireturn, 1) := by decide +kernel
theorem d_T_place_0 : decode b_T_place 0 = .ok (.aload_n 0, 1) := by decide +kernel
theorem d_T_place_1 : decode b_T_place 1 = .ok (.getfield 19, 3) := by decide +kernel
theorem d_T_place_4 : decode b_T_place 4 = .ok (.ireturn, 1) := by decide +kernel
theorem d_T_read_0 : decode b_T_read 0 = .ok (.aload_n 0, 1) := by decide +kernel
theorem d_T_read_1 : decode b_T_read 1 = .ok (.iconst 0, 1) := by decide +kernel
theorem d_T_read_2 : decode b_T_read 2 = .ok (.putfield 19, 3) := by decide +kernel
theorem d_T_read_5 : decode b_T_read 5 = .ok (.aload_n 0, 1) := by decide +kernel
theorem d_T_read_6 : decode b_T_read 6 = .ok (.invokevirtual 22, 3) := by decide +kernel
theorem d_T_read_9 : decode b_T_read 9 = .ok (.ifCond .eq 46, 3) := by decide +kernel
theorem d_T_read_12 : decode b_T_read 12 = .ok (.aload_n 0, 1) := by decide +kernel
theorem d_T_read_13 : decode b_T_read 13 = .ok (.invokevirtual 26, 3) := by decide +kernel
theorem d_T_read_16 : decode b_T_read 16 = .ok (.ifCond .eq 39, 3) := by decide +kernel
theorem d_T_read_19 : decode b_T_read 19 = .ok (.aload_n 0, 1) := by decide +kernel
theorem d_T_read_20 : decode b_T_read 20 = .ok (.invokevirtual 29, 3) := by decide +kernel
theorem d_T_read_23 : decode b_T_read 23 = .ok (.ifCond .eq 32, 3) := by decide +kernel
theorem d_T_read_26 : decode b_T_read 26 = .ok (.aload_n 0, 1) := by decide +kernel
theorem d_T_read_27 : decode b_T_read 27 = .ok (.invokevirtual 26, 3) := by decide +kernel
theorem d_T_read_30 : decode b_T_read 30 = .ok (.ifCond .eq 25, 3) := by decide +kernel
theorem d_T_read_33 : decode b_T_read 33 = .ok (.aload_n 0, 1) := by decide +kernel
theorem d_T_read_34 : decode b_T_read 34 = .ok (.invokevirtual 32, 3) := by decide +kernel
theorem d_T_read_37 : decode b_T_read 37 = .ok (.ifCond .eq 18, 3) := by decide +kernel
theorem d_T_read_40 : decode b_T_read 40 = .ok (.aload_n 0, 1) := by decide +kernel
theorem d_T_read_41 : decode b_T_read 41 = .ok (.getfield 19, 3) := by decide +kernel
theorem d_T_read_44 : decode b_T_read 44 = .ok (.aload_n 0, 1) := by decide +kernel
theorem d_T_read_45 : decode b_T_read 45 = .ok (.getfield 15, 3) := by decide +kernel
theorem d_T_read_48 : decode b_T_read 48 = .ok (.if_icmp .ne 7, 3) := by decide +kernel
theorem d_T_read_51 : decode b_T_read 51 = .ok (.iconst 1, 1) := by decide +kernel
theorem d_T_read_52 : decode b_T_read 52 = .ok (.goto 4, 3) := by decide +kernel
theorem d_T_read_55 : decode b_T_read 55 = .ok (.iconst 0, 1) := by decide +kernel
theorem d_T_read_56 : decode b_T_read 56 = .ok (.ireturn, 1) := by decide +kernel
theorem d_T_readAction_0 : decode b_T_readAction 0 = .ok (.aload_n 0, 1) := by decide +kernel
theorem d_T_readAction_1 : decode b_T_readAction 1 = .ok (.invokevirtual 44, 3) := by decide +kernel
theorem d_T_readAction_4 : decode b_T_readAction 4 = .ok (.istore_n 1, 1) := by decide +kernel
theorem d_T_readAction_5 : decode b_T_readAction 5 = .ok (.aload_n 0, 1) := by decide +kernel
theorem d_T_readAction_6 : decode b_T_readAction 6 = .ok (.ldc 56, 2) := by decide +kernel
theorem d_T_readAction_8 : decode b_T_readAction 8 = .ok (.iload_n 1, 1) := by decide +kernel
theorem d_T_readAction_9 : decode b_T_readAction 9 = .ok (.invokevirtual 52, 3) := by decide +kernel
theorem d_T_readAction_12 : decode b_T_readAction 12 = .ok (.ifCond .eq 11, 3) := by decide +kernel
theorem d_T_readAction_15 : decode b_T_readAction 15 = .ok (.aload_n 0, 1) := by decide +kernel
theorem d_T_readAction_16 : decode b_T_readAction 16 = .ok (.iconst 0, 1) := by decide +kernel
theorem d_T_readAction_17 : decode b_T_readAction 17 = .ok (.putfield 41, 3) := by decide +kernel
theorem d_T_readAction_20 : decode b_T_readAction 20 = .ok (.goto 23, 3) := by decide +kernel
theorem d_T_readAction_23 : decode b_T_readAction 23 = .ok (.aload_n 0, 1) := by decide +kernel
theorem d_T_readAction_24 : decode b_T_readAction 24 = .ok (.ldc 58, 2) := by decide +kernel
theorem d_T_readAction_26 : decode b_T_readAction 26 = .ok (.iload_n 1, 1) := by decide +kernel
theorem d_T_readAction_27 : decode b_T_readAction 27 = .ok (.invokevirtual 52, 3) := by decide +kernel
theorem d_T_readAction_30 : decode b_T_readAction 30 = .ok (.ifCond .eq 11, 3) := by decide +kernel
theorem d_T_readAction_33 : decode b_T_readAction 33 = .ok (.aload_n 0, 1) := by decide +kernel
theorem d_T_readAction_34 : decode b_T_readAction 34 = .ok (.iconst 1, 1) := by decide +kernel
theorem d_T_readAction_35 : decode b_T_readAction 35 = .ok (.putfield 41, 3) := by decide +kernel
theorem d_T_readAction_38 : decode b_T_readAction 38 = .ok (.goto 5, 3) := by decide +kernel
theorem d_T_readAction_41 : decode b_T_readAction 41 = .ok (.iconst 0, 1) := by decide +kernel
theorem d_T_readAction_42 : decode b_T_readAction 42 = .ok (.ireturn, 1) := by decide +kernel
theorem d_T_readAction_43 : decode b_T_readAction 43 = .ok (.aload_n 0, 1) := by decide +kernel
theorem d_T_readAction_44 : decode b_T_readAction 44 = .ok (.iload_n 1, 1) := by decide +kernel
theorem d_T_readAction_45 : decode b_T_readAction 45 = .ok (.putfield 19, 3) := by decide +kernel
theorem d_T_readAction_48 : decode b_T_readAction 48 = .ok (.iconst 1, 1) := by decide +kernel
theorem d_T_readAction_49 : decode b_T_readAction 49 = .ok (.ireturn, 1) := by decide +kernel
theorem d_T_readEvent_0 : decode b_T_readEvent 0 = .ok (.aload_n 0, 1) := by decide +kernel
theorem d_T_readEvent_1 : decode b_T_readEvent 1 = .ok (.invokevirtual 44, 3) := by decide +kernel
theorem d_T_readEvent_4 : decode b_T_readEvent 4 = .ok (.istore_n 1, 1) := by decide +kernel
theorem d_T_readEvent_5 : decode b_T_readEvent 5 = .ok (.iconst 0, 1) := by decide +kernel
theorem d_T_readEvent_6 : decode b_T_readEvent 6 = .ok (.istore_n 2, 1) := by decide +kernel
theorem d_T_readEvent_7 : decode b_T_readEvent 7 = .ok (.iload_n 2, 1) := by decide +kernel
theorem d_T_readEvent_8 : decode b_T_readEvent 8 = .ok (.iconst 4, 1) := by decide +kernel
theorem d_T_readEvent_9 : decode b_T_readEvent 9 = .ok (.if_icmp .ge 33, 3) := by decide +kernel
theorem d_T_readEvent_12 : decode b_T_readEvent 12 = .ok (.aload_n 0, 1) := by decide +kernel
theorem d_T_readEvent_13 : decode b_T_readEvent 13 = .ok (.iload_n 2, 1) := by decide +kernel
theorem d_T_readEvent_14 : decode b_T_readEvent 14 = .ok (.invokestatic 48, 3) := by decide +kernel
theorem d_T_readEvent_17 : decode b_T_readEvent 17 = .ok (.iload_n 1, 1) := by decide +kernel
theorem d_T_readEvent_18 : decode b_T_readEvent 18 = .ok (.invokevirtual 52, 3) := by decide +kernel
theorem d_T_readEvent_21 : decode b_T_readEvent 21 = .ok (.ifCond .eq 15, 3) := by decide +kernel
theorem d_T_readEvent_24 : decode b_T_readEvent 24 = .ok (.aload_n 0, 1) := by decide +kernel
theorem d_T_readEvent_25 : decode b_T_readEvent 25 = .ok (.iload_n 2, 1) := by decide +kernel
theorem d_T_readEvent_26 : decode b_T_readEvent 26 = .ok (.putfield 35, 3) := by decide +kernel
theorem d_T_readEvent_29 : decode b_T_readEvent 29 = .ok (.aload_n 0, 1) := by decide +kernel
theorem d_T_readEvent_30 : decode b_T_readEvent 30 = .ok (.iload_n 1, 1) := by decide +kernel
theorem d_T_readEvent_31 : decode b_T_readEvent 31 = .ok (.putfield 19, 3) := by decide +kernel
theorem d_T_readEvent_34 : decode b_T_readEvent 34 = .ok (.iconst 1, 1) := by decide +kernel
theorem d_T_readEvent_35 : decode b_T_readEvent 35 = .ok (.ireturn, 1) := by decide +kernel
theorem d_T_readEvent_36 : decode b_T_readEvent 36 = .ok (.iinc 2 1, 3) := by decide +kernel
theorem d_T_readEvent_39 : decode b_T_readEvent 39 = .ok (.goto (-32), 3) := by decide +kernel
theorem d_T_readEvent_42 : decode b_T_readEvent 42 = .ok (.iconst 0, 1) := by decide +kernel
theorem d_T_readEvent_43 : decode b_T_readEvent 43 = .ok (.ireturn, 1) := by decide +kernel
theorem d_T_readSpace_0 : decode b_T_readSpace 0 = .ok (.aload_n 0, 1) := by decide +kernel
theorem d_T_readSpace_1 : decode b_T_readSpace 1 = .ok (.aload_n 0, 1) := by decide +kernel
theorem d_T_readSpace_2 : decode b_T_readSpace 2 = .ok (.getfield 19, 3) := by decide +kernel
theorem d_T_readSpace_5 : decode b_T_readSpace 5 = .ok (.invokevirtual 60, 3) := by decide +kernel
theorem d_T_readSpace_8 : decode b_T_readSpace 8 = .ok (.bipush 32, 2) := by decide +kernel
theorem d_T_readSpace_10 : decode b_T_readSpace 10 = .ok (.if_icmp .eq 5, 3) := by decide +kernel
theorem d_T_readSpace_13 : decode b_T_readSpace 13 = .ok (.iconst 0, 1) := by decide +kernel
theorem d_T_readSpace_14 : decode b_T_readSpace 14 = .ok (.ireturn, 1) := by decide +kernel
theorem d_T_readSpace_15 : decode b_T_readSpace 15 = .ok (.aload_n 0, 1) := by decide +kernel
theorem d_T_readSpace_16 : decode b_T_readSpace 16 = .ok (.dup, 1) := by decide +kernel
theorem d_T_readSpace_17 : decode b_T_readSpace 17 = .ok (.getfield 19, 3) := by decide +kernel
theorem d_T_readSpace_20 : decode b_T_readSpace 20 = .ok (.iconst 1, 1) := by decide +kernel
theorem d_T_readSpace_21 : decode b_T_readSpace 21 = .ok (.iadd, 1) := by decide +kernel
theorem d_T_readSpace_22 : decode b_T_readSpace 22 = .ok (.putfield 19, 3) := by decide +kernel
theorem d_T_readSpace_25 : decode b_T_readSpace 25 = .ok (.iconst 1, 1) := by decide +kernel
theorem d_T_readSpace_26 : decode b_T_readSpace 26 = .ok (.ireturn, 1) := by decide +kernel
theorem d_T_readYears_0 : decode b_T_readYears 0 = .ok (.aload_n 0, 1) := by decide +kernel
theorem d_T_readYears_1 : decode b_T_readYears 1 = .ok (.getfield 19, 3) := by decide +kernel
theorem d_T_readYears_4 : decode b_T_readYears 4 = .ok (.istore_n 1, 1) := by decide +kernel
theorem d_T_readYears_5 : decode b_T_readYears 5 = .ok (.aload_n 0, 1) := by decide +kernel
theorem d_T_readYears_6 : decode b_T_readYears 6 = .ok (.iconst 0, 1) := by decide +kernel
theorem d_T_readYears_7 : decode b_T_readYears 7 = .ok (.putfield 38, 3) := by decide +kernel
theorem d_T_readYears_10 : decode b_T_readYears 10 = .ok (.aload_n 0, 1) := by decide +kernel
theorem d_T_readYears_11 : decode b_T_readYears 11 = .ok (.getfield 19, 3) := by decide +kernel
theorem d_T_readYears_14 : decode b_T_readYears 14 = .ok (.iload_n 1, 1) := by decide +kernel
theorem d_T_readYears_15 : decode b_T_readYears 15 = .ok (.isub, 1) := by decide +kernel
theorem d_T_readYears_16 : decode b_T_readYears 16 = .ok (.iconst 3, 1) := by decide +kernel
theorem d_T_readYears_17 : decode b_T_readYears 17 = .ok (.if_icmp .ge 53, 3) := by decide +kernel
theorem d_T_readYears_20 : decode b_T_readYears 20 = .ok (.aload_n 0, 1) := by decide +kernel
theorem d_T_readYears_21 : decode b_T_readYears 21 = .ok (.aload_n 0, 1) := by decide +kernel
theorem d_T_readYears_22 : decode b_T_readYears 22 = .ok (.getfield 19, 3) := by decide +kernel
theorem d_T_readYears_25 : decode b_T_readYears 25 = .ok (.invokevirtual 60, 3) := by decide +kernel
theorem d_T_readYears_28 : decode b_T_readYears 28 = .ok (.invokestatic 64, 3) := by decide +kernel
theorem d_T_readYears_31 : decode b_T_readYears 31 = .ok (.ifCond .eq 39, 3) := by decide +kernel
theorem d_T_readYears_34 : decode b_T_readYears 34 = .ok (.aload_n 0, 1) := by decide +kernel
theorem d_T_readYears_35 : decode b_T_readYears 35 = .ok (.aload_n 0, 1) := by decide +kernel
theorem d_T_readYears_36 : decode b_T_readYears 36 = .ok (.getfield 38, 3) := by decide +kernel
theorem d_T_readYears_39 : decode b_T_readYears 39 = .ok (.bipush 10, 2) := by decide +kernel
theorem d_T_readYears_41 : decode b_T_readYears 41 = .ok (.imul, 1) := by decide +kernel
theorem d_T_readYears_42 : decode b_T_readYears 42 = .ok (.aload_n 0, 1) := by decide +kernel
theorem d_T_readYears_43 : decode b_T_readYears 43 = .ok (.aload_n 0, 1) := by decide +kernel
theorem d_T_readYears_44 : decode b_T_readYears 44 = .ok (.getfield 19, 3) := by decide +kernel
theorem d_T_readYears_47 : decode b_T_readYears 47 = .ok (.invokevirtual 60, 3) := by decide +kernel
theorem d_T_readYears_50 : decode b_T_readYears 50 = .ok (.iadd, 1) := by decide +kernel
theorem d_T_readYears_51 : decode b_T_readYears 51 = .ok (.bipush 48, 2) := by decide +kernel
theorem d_T_readYears_53 : decode b_T_readYears 53 = .ok (.isub, 1) := by decide +kernel
theorem d_T_readYears_54 : decode b_T_readYears 54 = .ok (.putfield 38, 3) := by decide +kernel
theorem d_T_readYears_57 : decode b_T_readYears 57 = .ok (.aload_n 0, 1) := by decide +kernel
theorem d_T_readYears_58 : decode b_T_readYears 58 = .ok (.dup, 1) := by decide +kernel
theorem d_T_readYears_59 : decode b_T_readYears 59 = .ok (.getfield 19, 3) := by decide +kernel
theorem d_T_readYears_62 : decode b_T_readYears 62 = .ok (.iconst 1, 1) := by decide +kernel
theorem d_T_readYears_63 : decode b_T_readYears 63 = .ok (.iadd, 1) := by decide +kernel
theorem d_T_readYears_64 : decode b_T_readYears 64 = .ok (.putfield 19, 3) := by decide +kernel
theorem d_T_readYears_67 : decode b_T_readYears 67 = .ok (.goto (-57), 3) := by decide +kernel
theorem d_T_readYears_70 : decode b_T_readYears 70 = .ok (.aload_n 0, 1) := by decide +kernel
theorem d_T_readYears_71 : decode b_T_readYears 71 = .ok (.getfield 19, 3) := by decide +kernel
theorem d_T_readYears_74 : decode b_T_readYears 74 = .ok (.iload_n 1, 1) := by decide +kernel
theorem d_T_readYears_75 : decode b_T_readYears 75 = .ok (.if_icmp .le 7, 3) := by decide +kernel
theorem d_T_readYears_78 : decode b_T_readYears 78 = .ok (.iconst 1, 1) := by decide +kernel
theorem d_T_readYears_79 : decode b_T_readYears 79 = .ok (.goto 4, 3) := by decide +kernel
theorem d_T_readYears_82 : decode b_T_readYears 82 = .ok (.iconst 0, 1) := by decide +kernel
theorem d_T_readYears_83 : decode b_T_readYears 83 = .ok (.ireturn, 1) := by decide +kernel
theorem d_T_signAt_0 : decode b_T_signAt 0 = .ok (.iload_n 1, 1) := by decide +kernel
theorem d_T_signAt_1 : decode b_T_signAt 1 = .ok (.ifCond .lt 29, 3) := by decide +kernel
theorem d_T_signAt_4 : decode b_T_signAt 4 = .ok (.iload_n 1, 1) := by decide +kernel
theorem d_T_signAt_5 : decode b_T_signAt 5 = .ok (.aload_n 0, 1) := by decide +kernel
theorem d_T_signAt_6 : decode b_T_signAt 6 = .ok (.getfield 15, 3) := by decide +kernel
theorem d_T_signAt_9 : decode b_T_signAt 9 = .ok (.if_icmp .ge 21, 3) := by decide +kernel
theorem d_T_signAt_12 : decode b_T_signAt 12 = .ok (.iload_n 1, 1) := by decide +kernel
theorem d_T_signAt_13 : decode b_T_signAt 13 = .ok (.aload_n 0, 1) := by decide +kernel
end
section
theorem d_T_signAt_14 : decode b_T_signAt 14 = .ok (.getfield 9, 3) := by decide +kernel
theorem d_T_signAt_17 : decode b_T_signAt 17 = .ok (.arraylength, 1) := by decide +kernel
theorem d_T_signAt_18 : decode b_T_signAt 18 = .ok (.if_icmp .ge 12, 3) := by decide +kernel
theorem d_T_signAt_21 : decode b_T_signAt 21 = .ok (.aload_n 0, 1) := by decide +kernel
theorem d_T_signAt_22 : decode b_T_signAt 22 = .ok (.getfield 9, 3) := by decide +kernel
theorem d_T_signAt_25 : decode b_T_signAt 25 = .ok (.iload_n 1, 1) := by decide +kernel
theorem d_T_signAt_26 : decode b_T_signAt 26 = .ok (.iaload, 1) := by decide +kernel
theorem d_T_signAt_27 : decode b_T_signAt 27 = .ok (.goto 4, 3) := by decide +kernel
theorem d_T_signAt_30 : decode b_T_signAt 30 = .ok (.iconst (-1), 1) := by decide +kernel
theorem d_T_signAt_31 : decode b_T_signAt 31 = .ok (.ireturn, 1) := by decide +kernel
theorem d_T_wordEnd_0 : decode b_T_wordEnd 0 = .ok (.aload_n 0, 1) := by decide +kernel
theorem d_T_wordEnd_1 : decode b_T_wordEnd 1 = .ok (.getfield 19, 3) := by decide +kernel
theorem d_T_wordEnd_4 : decode b_T_wordEnd 4 = .ok (.istore_n 1, 1) := by decide +kernel
theorem d_T_wordEnd_5 : decode b_T_wordEnd 5 = .ok (.iload_n 1, 1) := by decide +kernel
theorem d_T_wordEnd_6 : decode b_T_wordEnd 6 = .ok (.aload_n 0, 1) := by decide +kernel
theorem d_T_wordEnd_7 : decode b_T_wordEnd 7 = .ok (.getfield 15, 3) := by decide +kernel
theorem d_T_wordEnd_10 : decode b_T_wordEnd 10 = .ok (.if_icmp .ge 20, 3) := by decide +kernel
theorem d_T_wordEnd_13 : decode b_T_wordEnd 13 = .ok (.aload_n 0, 1) := by decide +kernel
theorem d_T_wordEnd_14 : decode b_T_wordEnd 14 = .ok (.iload_n 1, 1) := by decide +kernel
theorem d_T_wordEnd_15 : decode b_T_wordEnd 15 = .ok (.invokevirtual 60, 3) := by decide +kernel
theorem d_T_wordEnd_18 : decode b_T_wordEnd 18 = .ok (.invokestatic 76, 3) := by decide +kernel
theorem d_T_wordEnd_21 : decode b_T_wordEnd 21 = .ok (.ifCond .eq 9, 3) := by decide +kernel
theorem d_T_wordEnd_24 : decode b_T_wordEnd 24 = .ok (.iinc 1 1, 3) := by decide +kernel
theorem d_T_wordEnd_27 : decode b_T_wordEnd 27 = .ok (.goto (-22), 3) := by decide +kernel
theorem d_T_wordEnd_30 : decode b_T_wordEnd 30 = .ok (.iload_n 1, 1) := by decide +kernel
theorem d_T_wordEnd_31 : decode b_T_wordEnd 31 = .ok (.ireturn, 1) := by decide +kernel
theorem d_T_years_0 : decode b_T_years 0 = .ok (.aload_n 0, 1) := by decide +kernel
theorem d_T_years_1 : decode b_T_years 1 = .ok (.getfield 38, 3) := by decide +kernel
theorem d_T_years_4 : decode b_T_years 4 = .ok (.ireturn, 1) := by decide +kernel
theorem d_U_addApproval_0 : decode b_U_addApproval 0 = .ok (.aload_n 0, 1) := by decide +kernel
theorem d_U_addApproval_1 : decode b_U_addApproval 1 = .ok (.getfield 71, 3) := by decide +kernel
theorem d_U_addApproval_4 : decode b_U_addApproval 4 = .ok (.ifCond .ne 8, 3) := by decide +kernel
theorem d_U_addApproval_7 : decode b_U_addApproval 7 = .ok (.aload_n 0, 1) := by decide +kernel
theorem d_U_addApproval_8 : decode b_U_addApproval 8 = .ok (.iload_n 1, 1) := by decide +kernel
theorem d_U_addApproval_9 : decode b_U_addApproval 9 = .ok (.putfield 28, 3) := by decide +kernel
theorem d_U_addApproval_12 : decode b_U_addApproval 12 = .ok (.aload_n 0, 1) := by decide +kernel
theorem d_U_addApproval_13 : decode b_U_addApproval 13 = .ok (.dup, 1) := by decide +kernel
theorem d_U_addApproval_14 : decode b_U_addApproval 14 = .ok (.getfield 71, 3) := by decide +kernel
theorem d_U_addApproval_17 : decode b_U_addApproval 17 = .ok (.iconst 1, 1) := by decide +kernel
theorem d_U_addApproval_18 : decode b_U_addApproval 18 = .ok (.iadd, 1) := by decide +kernel
theorem d_U_addApproval_19 : decode b_U_addApproval 19 = .ok (.putfield 71, 3) := by decide +kernel
theorem d_U_addApproval_22 : decode b_U_addApproval 22 = .ok (.return_, 1) := by decide +kernel
theorem d_U_addRule_0 : decode b_U_addRule 0 = .ok (.aload_n 0, 1) := by decide +kernel
theorem d_U_addRule_1 : decode b_U_addRule 1 = .ok (.getfield 40, 3) := by decide +kernel
theorem d_U_addRule_4 : decode b_U_addRule 4 = .ok (.ifCond .lt 15, 3) := by decide +kernel
theorem d_U_addRule_7 : decode b_U_addRule 7 = .ok (.aload_n 0, 1) := by decide +kernel
theorem d_U_addRule_8 : decode b_U_addRule 8 = .ok (.getfield 40, 3) := by decide +kernel
theorem d_U_addRule_11 : decode b_U_addRule 11 = .ok (.aload_n 0, 1) := by decide +kernel
theorem d_U_addRule_12 : decode b_U_addRule 12 = .ok (.getfield 17, 3) := by decide +kernel
theorem d_U_addRule_15 : decode b_U_addRule 15 = .ok (.arraylength, 1) := by decide +kernel
theorem d_U_addRule_16 : decode b_U_addRule 16 = .ok (.if_icmp .lt 5, 3) := by decide +kernel
theorem d_U_addRule_19 : decode b_U_addRule 19 = .ok (.iconst 0, 1) := by decide +kernel
theorem d_U_addRule_20 : decode b_U_addRule 20 = .ok (.ireturn, 1) := by decide +kernel
theorem d_U_addRule_21 : decode b_U_addRule 21 = .ok (.aload_n 0, 1) := by decide +kernel
theorem d_U_addRule_22 : decode b_U_addRule 22 = .ok (.getfield 17, 3) := by decide +kernel
theorem d_U_addRule_25 : decode b_U_addRule 25 = .ok (.aload_n 0, 1) := by decide +kernel
theorem d_U_addRule_26 : decode b_U_addRule 26 = .ok (.getfield 40, 3) := by decide +kernel
theorem d_U_addRule_29 : decode b_U_addRule 29 = .ok (.aload_n 1, 1) := by decide +kernel
theorem d_U_addRule_30 : decode b_U_addRule 30 = .ok (.aastore, 1) := by decide +kernel
theorem d_U_addRule_31 : decode b_U_addRule 31 = .ok (.aload_n 0, 1) := by decide +kernel
theorem d_U_addRule_32 : decode b_U_addRule 32 = .ok (.dup, 1) := by decide +kernel
theorem d_U_addRule_33 : decode b_U_addRule 33 = .ok (.getfield 40, 3) := by decide +kernel
theorem d_U_addRule_36 : decode b_U_addRule 36 = .ok (.iconst 1, 1) := by decide +kernel
theorem d_U_addRule_37 : decode b_U_addRule 37 = .ok (.iadd, 1) := by decide +kernel
theorem d_U_addRule_38 : decode b_U_addRule 38 = .ok (.putfield 40, 3) := by decide +kernel
theorem d_U_addRule_41 : decode b_U_addRule 41 = .ok (.aload_n 0, 1) := by decide +kernel
theorem d_U_addRule_42 : decode b_U_addRule 42 = .ok (.invokevirtual 37, 3) := by decide +kernel
theorem d_U_addRule_45 : decode b_U_addRule 45 = .ok (.iconst 1, 1) := by decide +kernel
theorem d_U_addRule_46 : decode b_U_addRule 46 = .ok (.ireturn, 1) := by decide +kernel
theorem d_U_approvalCount_0 : decode b_U_approvalCount 0 = .ok (.aload_n 0, 1) := by decide +kernel
theorem d_U_approvalCount_1 : decode b_U_approvalCount 1 = .ok (.getfield 71, 3) := by decide +kernel
theorem d_U_approvalCount_4 : decode b_U_approvalCount 4 = .ok (.ireturn, 1) := by decide +kernel
theorem d_U_certificateNumber_0 : decode b_U_certificateNumber 0 = .ok (.aload_n 0, 1) := by decide +kernel
theorem d_U_certificateNumber_1 : decode b_U_certificateNumber 1 = .ok (.getfield 34, 3) := by decide +kernel
theorem d_U_certificateNumber_4 : decode b_U_certificateNumber 4 = .ok (.ireturn, 1) := by decide +kernel
theorem d_U_decidingRule_0 : decode b_U_decidingRule 0 = .ok (.aconst_null, 1) := by decide +kernel
theorem d_U_decidingRule_1 : decode b_U_decidingRule 1 = .ok (.astore_n 2, 1) := by decide +kernel
theorem d_U_decidingRule_2 : decode b_U_decidingRule 2 = .ok (.iconst (-1), 1) := by decide +kernel
theorem d_U_decidingRule_3 : decode b_U_decidingRule 3 = .ok (.istore_n 3, 1) := by decide +kernel
theorem d_U_decidingRule_4 : decode b_U_decidingRule 4 = .ok (.iconst 0, 1) := by decide +kernel
theorem d_U_decidingRule_5 : decode b_U_decidingRule 5 = .ok (.istore 4, 2) := by decide +kernel
theorem d_U_decidingRule_7 : decode b_U_decidingRule 7 = .ok (.iload 4, 2) := by decide +kernel
theorem d_U_decidingRule_9 : decode b_U_decidingRule 9 = .ok (.aload_n 0, 1) := by decide +kernel
theorem d_U_decidingRule_10 : decode b_U_decidingRule 10 = .ok (.getfield 40, 3) := by decide +kernel
theorem d_U_decidingRule_13 : decode b_U_decidingRule 13 = .ok (.if_icmp .ge 80, 3) := by decide +kernel
theorem d_U_decidingRule_16 : decode b_U_decidingRule 16 = .ok (.iload 4, 2) := by decide +kernel
theorem d_U_decidingRule_18 : decode b_U_decidingRule 18 = .ok (.aload_n 0, 1) := by decide +kernel
theorem d_U_decidingRule_19 : decode b_U_decidingRule 19 = .ok (.getfield 17, 3) := by decide +kernel
theorem d_U_decidingRule_22 : decode b_U_decidingRule 22 = .ok (.arraylength, 1) := by decide +kernel
theorem d_U_decidingRule_23 : decode b_U_decidingRule 23 = .ok (.if_icmp .ge 70, 3) := by decide +kernel
theorem d_U_decidingRule_26 : decode b_U_decidingRule 26 = .ok (.aload_n 0, 1) := by decide +kernel
theorem d_U_decidingRule_27 : decode b_U_decidingRule 27 = .ok (.getfield 17, 3) := by decide +kernel
theorem d_U_decidingRule_30 : decode b_U_decidingRule 30 = .ok (.iload 4, 2) := by decide +kernel
theorem d_U_decidingRule_32 : decode b_U_decidingRule 32 = .ok (.aaload, 1) := by decide +kernel
theorem d_U_decidingRule_33 : decode b_U_decidingRule 33 = .ok (.astore 5, 2) := by decide +kernel
theorem d_U_decidingRule_35 : decode b_U_decidingRule 35 = .ok (.aload 5, 2) := by decide +kernel
theorem d_U_decidingRule_37 : decode b_U_decidingRule 37 = .ok (.ifnull 11, 3) := by decide +kernel
theorem d_U_decidingRule_40 : decode b_U_decidingRule 40 = .ok (.aload 5, 2) := by decide +kernel
theorem d_U_decidingRule_42 : decode b_U_decidingRule 42 = .ok (.invokevirtual 43, 3) := by decide +kernel
theorem d_U_decidingRule_45 : decode b_U_decidingRule 45 = .ok (.ifCond .eq 5, 3) := by decide +kernel
theorem d_U_decidingRule_48 : decode b_U_decidingRule 48 = .ok (.aconst_null, 1) := by decide +kernel
theorem d_U_decidingRule_49 : decode b_U_decidingRule 49 = .ok (.areturn, 1) := by decide +kernel
theorem d_U_decidingRule_50 : decode b_U_decidingRule 50 = .ok (.aload 5, 2) := by decide +kernel
theorem d_U_decidingRule_52 : decode b_U_decidingRule 52 = .ok (.aload_n 0, 1) := by decide +kernel
theorem d_U_decidingRule_53 : decode b_U_decidingRule 53 = .ok (.aload 5, 2) := by decide +kernel
theorem d_U_decidingRule_55 : decode b_U_decidingRule 55 = .ok (.invokevirtual 51, 3) := by decide +kernel
theorem d_U_decidingRule_58 : decode b_U_decidingRule 58 = .ok (.invokevirtual 55, 3) := by decide +kernel
theorem d_U_decidingRule_61 : decode b_U_decidingRule 61 = .ok (.iload_n 1, 1) := by decide +kernel
theorem d_U_decidingRule_62 : decode b_U_decidingRule 62 = .ok (.invokevirtual 59, 3) := by decide +kernel
theorem d_U_decidingRule_65 : decode b_U_decidingRule 65 = .ok (.istore 6, 2) := by decide +kernel
theorem d_U_decidingRule_67 : decode b_U_decidingRule 67 = .ok (.iload 6, 2) := by decide +kernel
theorem d_U_decidingRule_69 : decode b_U_decidingRule 69 = .ok (.iconst (-1), 1) := by decide +kernel
theorem d_U_decidingRule_70 : decode b_U_decidingRule 70 = .ok (.if_icmp .ne 5, 3) := by decide +kernel
theorem d_U_decidingRule_73 : decode b_U_decidingRule 73 = .ok (.aconst_null, 1) := by decide +kernel
theorem d_U_decidingRule_74 : decode b_U_decidingRule 74 = .ok (.areturn, 1) := by decide +kernel
theorem d_U_decidingRule_75 : decode b_U_decidingRule 75 = .ok (.iload 6, 2) := by decide +kernel
theorem d_U_decidingRule_77 : decode b_U_decidingRule 77 = .ok (.iload_n 3, 1) := by decide +kernel
theorem d_U_decidingRule_78 : decode b_U_decidingRule 78 = .ok (.if_icmp .le 9, 3) := by decide +kernel
theorem d_U_decidingRule_81 : decode b_U_decidingRule 81 = .ok (.iload 6, 2) := by decide +kernel
theorem d_U_decidingRule_83 : decode b_U_decidingRule 83 = .ok (.istore_n 3, 1) := by decide +kernel
theorem d_U_decidingRule_84 : decode b_U_decidingRule 84 = .ok (.aload 5, 2) := by decide +kernel
theorem d_U_decidingRule_86 : decode b_U_decidingRule 86 = .ok (.astore_n 2, 1) := by decide +kernel
theorem d_U_decidingRule_87 : decode b_U_decidingRule 87 = .ok (.iinc 4 1, 3) := by decide +kernel
theorem d_U_decidingRule_90 : decode b_U_decidingRule 90 = .ok (.goto (-83), 3) := by decide +kernel
theorem d_U_decidingRule_93 : decode b_U_decidingRule 93 = .ok (.aload_n 2, 1) := by decide +kernel
theorem d_U_decidingRule_94 : decode b_U_decidingRule 94 = .ok (.areturn, 1) := by decide +kernel
theorem d_U_disposalDay_0 : decode b_U_disposalDay 0 = .ok (.aload_n 0, 1) := by decide +kernel
theorem d_U_disposalDay_1 : decode b_U_disposalDay 1 = .ok (.getfield 31, 3) := by decide +kernel
theorem d_U_disposalDay_4 : decode b_U_disposalDay 4 = .ok (.ireturn, 1) := by decide +kernel
theorem d_U_dueAction_0 : decode b_U_dueAction 0 = .ok (.aload_n 0, 1) := by decide +kernel
theorem d_U_dueAction_1 : decode b_U_dueAction 1 = .ok (.iload_n 1, 1) := by decide +kernel
theorem d_U_dueAction_2 : decode b_U_dueAction 2 = .ok (.invokevirtual 47, 3) := by decide +kernel
theorem d_U_dueAction_5 : decode b_U_dueAction 5 = .ok (.astore_n 2, 1) := by decide +kernel
theorem d_U_dueAction_6 : decode b_U_dueAction 6 = .ok (.aload_n 2, 1) := by decide +kernel
theorem d_U_dueAction_7 : decode b_U_dueAction 7 = .ok (.ifnonnull 7, 3) := by decide +kernel
theorem d_U_dueAction_10 : decode b_U_dueAction 10 = .ok (.iconst (-1), 1) := by decide +kernel
theorem d_U_dueAction_11 : decode b_U_dueAction 11 = .ok (.goto 7, 3) := by decide +kernel
theorem d_U_dueAction_14 : decode b_U_dueAction 14 = .ok (.aload_n 2, 1) := by decide +kernel
theorem d_U_dueAction_15 : decode b_U_dueAction 15 = .ok (.invokevirtual 63, 3) := by decide +kernel
theorem d_U_dueAction_18 : decode b_U_dueAction 18 = .ok (.ireturn, 1) := by decide +kernel
theorem d_U_dueDay_0 : decode b_U_dueDay 0 = .ok (.aload_n 0, 1) := by decide +kernel
theorem d_U_dueDay_1 : decode b_U_dueDay 1 = .ok (.iload_n 1, 1) := by decide +kernel
theorem d_U_dueDay_2 : decode b_U_dueDay 2 = .ok (.invokevirtual 47, 3) := by decide +kernel
theorem d_U_dueDay_5 : decode b_U_dueDay 5 = .ok (.astore_n 2, 1) := by decide +kernel
theorem d_U_dueDay_6 : decode b_U_dueDay 6 = .ok (.aload_n 2, 1) := by decide +kernel
theorem d_U_dueDay_7 : decode b_U_dueDay 7 = .ok (.ifnonnull 7, 3) := by decide +kernel
theorem d_U_dueDay_10 : decode b_U_dueDay 10 = .ok (.iconst (-1), 1) := by decide +kernel
theorem d_U_dueDay_11 : decode b_U_dueDay 11 = .ok (.goto 16, 3) := by decide +kernel
theorem d_U_dueDay_14 : decode b_U_dueDay 14 = .ok (.aload_n 2, 1) := by decide +kernel
theorem d_U_dueDay_15 : decode b_U_dueDay 15 = .ok (.aload_n 0, 1) := by decide +kernel
theorem d_U_dueDay_16 : decode b_U_dueDay 16 = .ok (.aload_n 2, 1) := by decide +kernel
theorem d_U_dueDay_17 : decode b_U_dueDay 17 = .ok (.invokevirtual 51, 3) := by decide +kernel
theorem d_U_dueDay_20 : decode b_U_dueDay 20 = .ok (.invokevirtual 55, 3) := by decide +kernel
theorem d_U_dueDay_23 : decode b_U_dueDay 23 = .ok (.iload_n 1, 1) := by decide +kernel
theorem d_U_dueDay_24 : decode b_U_dueDay 24 = .ok (.invokevirtual 59, 3) := by decide +kernel
theorem d_U_dueDay_27 : decode b_U_dueDay 27 = .ok (.ireturn, 1) := by decide +kernel
theorem d_U_eventDay_0 : decode b_U_eventDay 0 = .ok (.iload_n 1, 1) := by decide +kernel
theorem d_U_eventDay_1 : decode b_U_eventDay 1 = .ok (.ifCond .lt 21, 3) := by decide +kernel
theorem d_U_eventDay_4 : decode b_U_eventDay 4 = .ok (.iload_n 1, 1) := by decide +kernel
theorem d_U_eventDay_5 : decode b_U_eventDay 5 = .ok (.aload_n 0, 1) := by decide +kernel
theorem d_U_eventDay_6 : decode b_U_eventDay 6 = .ok (.getfield 9, 3) := by decide +kernel
theorem d_U_eventDay_9 : decode b_U_eventDay 9 = .ok (.arraylength, 1) := by decide +kernel
theorem d_U_eventDay_10 : decode b_U_eventDay 10 = .ok (.if_icmp .ge 12, 3) := by decide +kernel
theorem d_U_eventDay_13 : decode b_U_eventDay 13 = .ok (.aload_n 0, 1) := by decide +kernel
theorem d_U_eventDay_14 : decode b_U_eventDay 14 = .ok (.getfield 9, 3) := by decide +kernel
theorem d_U_eventDay_17 : decode b_U_eventDay 17 = .ok (.iload_n 1, 1) := by decide +kernel
theorem d_U_eventDay_18 : decode b_U_eventDay 18 = .ok (.iaload, 1) := by decide +kernel
theorem d_U_eventDay_19 : decode b_U_eventDay 19 = .ok (.goto 4, 3) := by decide +kernel
theorem d_U_eventDay_22 : decode b_U_eventDay 22 = .ok (.iconst (-1), 1) := by decide +kernel
theorem d_U_eventDay_23 : decode b_U_eventDay 23 = .ok (.ireturn, 1) := by decide +kernel
theorem d_U_hasBrokenRule_0 : decode b_U_hasBrokenRule 0 = .ok (.iconst 0, 1) := by decide +kernel
theorem d_U_hasBrokenRule_1 : decode b_U_hasBrokenRule 1 = .ok (.istore_n 1, 1) := by decide +kernel
theorem d_U_hasBrokenRule_2 : decode b_U_hasBrokenRule 2 = .ok (.iload_n 1, 1) := by decide +kernel
theorem d_U_hasBrokenRule_3 : decode b_U_hasBrokenRule 3 = .ok (.aload_n 0, 1) := by decide +kernel
theorem d_U_hasBrokenRule_4 : decode b_U_hasBrokenRule 4 = .ok (.getfield 40, 3) := by decide +kernel
theorem d_U_hasBrokenRule_7 : decode b_U_hasBrokenRule 7 = .ok (.if_icmp .ge 38, 3) := by decide +kernel
theorem d_U_hasBrokenRule_10 : decode b_U_hasBrokenRule 10 = .ok (.iload_n 1, 1) := by decide +kernel
theorem d_U_hasBrokenRule_11 : decode b_U_hasBrokenRule 11 = .ok (.aload_n 0, 1) := by decide +kernel
theorem d_U_hasBrokenRule_12 : decode b_U_hasBrokenRule 12 = .ok (.getfield 17, 3) := by decide +kernel
theorem d_U_hasBrokenRule_15 : decode b_U_hasBrokenRule 15 = .ok (.arraylength, 1) := by decide +kernel
theorem d_U_hasBrokenRule_16 : decode b_U_hasBrokenRule 16 = .ok (.if_icmp .ge 29, 3) := by decide +kernel
theorem d_U_hasBrokenRule_19 : decode b_U_hasBrokenRule 19 = .ok (.aload_n 0, 1) := by decide +kernel
theorem d_U_hasBrokenRule_20 : decode b_U_hasBrokenRule 20 = .ok (.getfield 17, 3) := by decide +kernel
theorem d_U_hasBrokenRule_23 : decode b_U_hasBrokenRule 23 = .ok (.iload_n 1, 1) := by decide +kernel
theorem d_U_hasBrokenRule_24 : decode b_U_hasBrokenRule 24 = .ok (.aaload, 1) := by decide +kernel
theorem d_U_hasBrokenRule_25 : decode b_U_hasBrokenRule 25 = .ok (.astore_n 2, 1) := by decide +kernel
theorem d_U_hasBrokenRule_26 : decode b_U_hasBrokenRule 26 = .ok (.aload_n 2, 1) := by decide +kernel
theorem d_U_hasBrokenRule_27 : decode b_U_hasBrokenRule 27 = .ok (.ifnull 12, 3) := by decide +kernel
theorem d_U_hasBrokenRule_30 : decode b_U_hasBrokenRule 30 = .ok (.aload_n 2, 1) := by decide +kernel
theorem d_U_hasBrokenRule_31 : decode b_U_hasBrokenRule 31 = .ok (.invokevirtual 43, 3) := by decide +kernel
theorem d_U_hasBrokenRule_34 : decode b_U_hasBrokenRule 34 = .ok (.ifCond .eq 5, 3) := by decide +kernel
theorem d_U_hasBrokenRule_37 : decode b_U_hasBrokenRule 37 = .ok (.iconst 1, 1) := by decide +kernel
theorem d_U_hasBrokenRule_38 : decode b_U_hasBrokenRule 38 = .ok (.ireturn, 1) := by decide +kernel
theorem d_U_hasBrokenRule_39 : decode b_U_hasBrokenRule 39 = .ok (.iinc 1 1, 3) := by decide +kernel
theorem d_U_hasBrokenRule_42 : decode b_U_hasBrokenRule 42 = .ok (.goto (-40), 3) := by decide +kernel
theorem d_U_hasBrokenRule_45 : decode b_U_hasBrokenRule 45 = .ok (.iconst 0, 1) := by decide +kernel
theorem d_U_hasBrokenRule_46 : decode b_U_hasBrokenRule 46 = .ok (.ireturn, 1) := by decide +kernel
theorem d_U_hasCertificate_0 : decode b_U_hasCertificate 0 = .ok (.aload_n 0, 1) := by decide +kernel
theorem d_U_hasCertificate_1 : decode b_U_hasCertificate 1 = .ok (.getfield 34, 3) := by decide +kernel
theorem d_U_hasCertificate_4 : decode b_U_hasCertificate 4 = .ok (.iconst (-1), 1) := by decide +kernel
theorem d_U_hasCertificate_5 : decode b_U_hasCertificate 5 = .ok (.if_icmp .eq 7, 3) := by decide +kernel
theorem d_U_hasCertificate_8 : decode b_U_hasCertificate 8 = .ok (.iconst 1, 1) := by decide +kernel
theorem d_U_hasCertificate_9 : decode b_U_hasCertificate 9 = .ok (.goto 4, 3) := by decide +kernel
theorem d_U_hasCertificate_12 : decode b_U_hasCertificate 12 = .ok (.iconst 0, 1) := by decide +kernel
theorem d_U_hasCertificate_13 : decode b_U_hasCertificate 13 = .ok (.ireturn, 1) := by decide +kernel
theorem d_U_hasRule_0 : decode b_U_hasRule 0 = .ok (.iconst 0, 1) := by decide +kernel
theorem d_U_hasRule_1 : decode b_U_hasRule 1 = .ok (.istore_n 2, 1) := by decide +kernel
theorem d_U_hasRule_2 : decode b_U_hasRule 2 = .ok (.iload_n 2, 1) := by decide +kernel
theorem d_U_hasRule_3 : decode b_U_hasRule 3 = .ok (.aload_n 0, 1) := by decide +kernel
theorem d_U_hasRule_4 : decode b_U_hasRule 4 = .ok (.getfield 40, 3) := by decide +kernel
theorem d_U_hasRule_7 : decode b_U_hasRule 7 = .ok (.if_icmp .ge 30, 3) := by decide +kernel
theorem d_U_hasRule_10 : decode b_U_hasRule 10 = .ok (.iload_n 2, 1) := by decide +kernel
theorem d_U_hasRule_11 : decode b_U_hasRule 11 = .ok (.aload_n 0, 1) := by decide +kernel
theorem d_U_hasRule_12 : decode b_U_hasRule 12 = .ok (.getfield 17, 3) := by decide +kernel
theorem d_U_hasRule_15 : decode b_U_hasRule 15 = .ok (.arraylength, 1) := by decide +kernel
theorem d_U_hasRule_16 : decode b_U_hasRule 16 = .ok (.if_icmp .ge 21, 3) := by decide +kernel
theorem d_U_hasRule_19 : decode b_U_hasRule 19 = .ok (.aload_n 0, 1) := by decide +kernel
theorem d_U_hasRule_20 : decode b_U_hasRule 20 = .ok (.getfield 17, 3) := by decide +kernel
theorem d_U_hasRule_23 : decode b_U_hasRule 23 = .ok (.iload_n 2, 1) := by decide +kernel
theorem d_U_hasRule_24 : decode b_U_hasRule 24 = .ok (.aaload, 1) := by decide +kernel
theorem d_U_hasRule_25 : decode b_U_hasRule 25 = .ok (.aload_n 1, 1) := by decide +kernel
theorem d_U_hasRule_26 : decode b_U_hasRule 26 = .ok (.if_acmp .ne 5, 3) := by decide +kernel
theorem d_U_hasRule_29 : decode b_U_hasRule 29 = .ok (.iconst 1, 1) := by decide +kernel
theorem d_U_hasRule_30 : decode b_U_hasRule 30 = .ok (.ireturn, 1) := by decide +kernel
theorem d_U_hasRule_31 : decode b_U_hasRule 31 = .ok (.iinc 2 1, 3) := by decide +kernel
theorem d_U_hasRule_34 : decode b_U_hasRule 34 = .ok (.goto (-32), 3) := by decide +kernel
theorem d_U_hasRule_37 : decode b_U_hasRule 37 = .ok (.iconst 0, 1) := by decide +kernel
theorem d_U_hasRule_38 : decode b_U_hasRule 38 = .ok (.ireturn, 1) := by decide +kernel
theorem d_U_init_0 : decode b_U_init 0 = .ok (.aload_n 0, 1) := by decide +kernel
theorem d_U_init_1 : decode b_U_init 1 = .ok (.invokespecial 3, 3) := by decide +kernel
theorem d_U_init_4 : decode b_U_init 4 = .ok (.aload_n 0, 1) := by decide +kernel
theorem d_U_init_5 : decode b_U_init 5 = .ok (.iconst 4, 1) := by decide +kernel
theorem d_U_init_6 : decode b_U_init 6 = .ok (.newarray .int, 2) := by decide +kernel
theorem d_U_init_8 : decode b_U_init 8 = .ok (.putfield 9, 3) := by decide +kernel
theorem d_U_init_11 : decode b_U_init 11 = .ok (.aload_n 0, 1) := by decide +kernel
theorem d_U_init_12 : decode b_U_init 12 = .ok (.iconst 4, 1) := by decide +kernel
theorem d_U_init_13 : decode b_U_init 13 = .ok (.anewarray 15, 3) := by decide +kernel
theorem d_U_init_16 : decode b_U_init 16 = .ok (.putfield 17, 3) := by decide +kernel
theorem d_U_init_19 : decode b_U_init 19 = .ok (.aload_n 0, 1) := by decide +kernel
theorem d_U_init_20 : decode b_U_init 20 = .ok (.iconst 4, 1) := by decide +kernel
theorem d_U_init_21 : decode b_U_init 21 = .ok (.newarray .int, 2) := by decide +kernel
theorem d_U_init_23 : decode b_U_init 23 = .ok (.putfield 21, 3) := by decide +kernel
theorem d_U_init_26 : decode b_U_init 26 = .ok (.aload_n 0, 1) := by decide +kernel
theorem d_U_init_27 : decode b_U_init 27 = .ok (.iconst (-1), 1) := by decide +kernel
theorem d_U_init_28 : decode b_U_init 28 = .ok (.putfield 24, 3) := by decide +kernel
theorem d_U_init_31 : decode b_U_init 31 = .ok (.aload_n 0, 1) := by decide +kernel
theorem d_U_init_32 : decode b_U_init 32 = .ok (.iconst (-1), 1) := by decide +kernel
theorem d_U_init_33 : decode b_U_init 33 = .ok (.putfield 28, 3) := by decide +kernel
theorem d_U_init_36 : decode b_U_init 36 = .ok (.aload_n 0, 1) := by decide +kernel
theorem d_U_init_37 : decode b_U_init 37 = .ok (.iconst (-1), 1) := by decide +kernel
theorem d_U_init_38 : decode b_U_init 38 = .ok (.putfield 31, 3) := by decide +kernel
theorem d_U_init_41 : decode b_U_init 41 = .ok (.aload_n 0, 1) := by decide +kernel
theorem d_U_init_42 : decode b_U_init 42 = .ok (.iconst (-1), 1) := by decide +kernel
theorem d_U_init_43 : decode b_U_init 43 = .ok (.putfield 34, 3) := by decide +kernel
theorem d_U_init_46 : decode b_U_init 46 = .ok (.iconst 0, 1) := by decide +kernel
theorem d_U_init_47 : decode b_U_init 47 = .ok (.istore_n 1, 1) := by decide +kernel
theorem d_U_init_48 : decode b_U_init 48 = .ok (.iload_n 1, 1) := by decide +kernel
theorem d_U_init_49 : decode b_U_init 49 = .ok (.aload_n 0, 1) := by decide +kernel
theorem d_U_init_50 : decode b_U_init 50 = .ok (.getfield 9, 3) := by decide +kernel
theorem d_U_init_53 : decode b_U_init 53 = .ok (.arraylength, 1) := by decide +kernel
theorem d_U_init_54 : decode b_U_init 54 = .ok (.if_icmp .ge 16, 3) := by decide +kernel
theorem d_U_init_57 : decode b_U_init 57 = .ok (.aload_n 0, 1) := by decide +kernel
theorem d_U_init_58 : decode b_U_init 58 = .ok (.getfield 9, 3) := by decide +kernel
theorem d_U_init_61 : decode b_U_init 61 = .ok (.iload_n 1, 1) := by decide +kernel
theorem d_U_init_62 : decode b_U_init 62 = .ok (.iconst (-1), 1) := by decide +kernel
theorem d_U_init_63 : decode b_U_init 63 = .ok (.iastore, 1) := by decide +kernel
theorem d_U_init_64 : decode b_U_init 64 = .ok (.iinc 1 1, 3) := by decide +kernel
theorem d_U_init_67 : decode b_U_init 67 = .ok (.goto (-19), 3) := by decide +kernel
theorem d_U_init_70 : decode b_U_init 70 = .ok (.iconst 0, 1) := by decide +kernel
theorem d_U_init_71 : decode b_U_init 71 = .ok (.istore_n 1, 1) := by decide +kernel
theorem d_U_init_72 : decode b_U_init 72 = .ok (.iload_n 1, 1) := by decide +kernel
theorem d_U_init_73 : decode b_U_init 73 = .ok (.aload_n 0, 1) := by decide +kernel
theorem d_U_init_74 : decode b_U_init 74 = .ok (.getfield 21, 3) := by decide +kernel
theorem d_U_init_77 : decode b_U_init 77 = .ok (.arraylength, 1) := by decide +kernel
theorem d_U_init_78 : decode b_U_init 78 = .ok (.if_icmp .ge 17, 3) := by decide +kernel
theorem d_U_init_81 : decode b_U_init 81 = .ok (.aload_n 0, 1) := by decide +kernel
theorem d_U_init_82 : decode b_U_init 82 = .ok (.getfield 21, 3) := by decide +kernel
theorem d_U_init_85 : decode b_U_init 85 = .ok (.iload_n 1, 1) := by decide +kernel
theorem d_U_init_86 : decode b_U_init 86 = .ok (.bipush (-2), 2) := by decide +kernel
theorem d_U_init_88 : decode b_U_init 88 = .ok (.iastore, 1) := by decide +kernel
theorem d_U_init_89 : decode b_U_init 89 = .ok (.iinc 1 1, 3) := by decide +kernel
theorem d_U_init_92 : decode b_U_init 92 = .ok (.goto (-20), 3) := by decide +kernel
theorem d_U_init_95 : decode b_U_init 95 = .ok (.return_, 1) := by decide +kernel
theorem d_U_isApproved_0 : decode b_U_isApproved 0 = .ok (.aload_n 0, 1) := by decide +kernel
theorem d_U_isApproved_1 : decode b_U_isApproved 1 = .ok (.getfield 71, 3) := by decide +kernel
theorem d_U_isApproved_4 : decode b_U_isApproved 4 = .ok (.iconst 2, 1) := by decide +kernel
theorem d_U_isApproved_5 : decode b_U_isApproved 5 = .ok (.if_icmp .lt 7, 3) := by decide +kernel
theorem d_U_isApproved_8 : decode b_U_isApproved 8 = .ok (.iconst 1, 1) := by decide +kernel
theorem d_U_isApproved_9 : decode b_U_isApproved 9 = .ok (.goto 4, 3) := by decide +kernel
theorem d_U_isApproved_12 : decode b_U_isApproved 12 = .ok (.iconst 0, 1) := by decide +kernel
theorem d_U_isApproved_13 : decode b_U_isApproved 13 = .ok (.ireturn, 1) := by decide +kernel
theorem d_U_isApprovedBy_0 : decode b_U_isApprovedBy 0 = .ok (.aload_n 0, 1) := by decide +kernel
theorem d_U_isApprovedBy_1 : decode b_U_isApprovedBy 1 = .ok (.getfield 71, 3) := by decide +kernel
theorem d_U_isApprovedBy_4 : decode b_U_isApprovedBy 4 = .ok (.ifCond .le 15, 3) := by decide +kernel
theorem d_U_isApprovedBy_7 : decode b_U_isApprovedBy 7 = .ok (.aload_n 0, 1) := by decide +kernel
theorem d_U_isApprovedBy_8 : decode b_U_isApprovedBy 8 = .ok (.getfield 28, 3) := by decide +kernel
theorem d_U_isApprovedBy_11 : decode b_U_isApprovedBy 11 = .ok (.iload_n 1, 1) := by decide +kernel
theorem d_U_isApprovedBy_12 : decode b_U_isApprovedBy 12 = .ok (.if_icmp .ne 7, 3) := by decide +kernel
theorem d_U_isApprovedBy_15 : decode b_U_isApprovedBy 15 = .ok (.iconst 1, 1) := by decide +kernel
theorem d_U_isApprovedBy_16 : decode b_U_isApprovedBy 16 = .ok (.goto 4, 3) := by decide +kernel
theorem d_U_isApprovedBy_19 : decode b_U_isApprovedBy 19 = .ok (.iconst 0, 1) := by decide +kernel
theorem d_U_isApprovedBy_20 : decode b_U_isApprovedBy 20 = .ok (.ireturn, 1) := by decide +kernel
theorem d_U_isDisposed_0 : decode b_U_isDisposed 0 = .ok (.aload_n 0, 1) := by decide +kernel
theorem d_U_isDisposed_1 : decode b_U_isDisposed 1 = .ok (.getfield 31, 3) := by decide +kernel
theorem d_U_isDisposed_4 : decode b_U_isDisposed 4 = .ok (.iconst (-1), 1) := by decide +kernel
theorem d_U_isDisposed_5 : decode b_U_isDisposed 5 = .ok (.if_icmp .eq 7, 3) := by decide +kernel
theorem d_U_isDisposed_8 : decode b_U_isDisposed 8 = .ok (.iconst 1, 1) := by decide +kernel
theorem d_U_isDisposed_9 : decode b_U_isDisposed 9 = .ok (.goto 4, 3) := by decide +kernel
theorem d_U_isDisposed_12 : decode b_U_isDisposed 12 = .ok (.iconst 0, 1) := by decide +kernel
theorem d_U_isDisposed_13 : decode b_U_isDisposed 13 = .ok (.ireturn, 1) := by decide +kernel
theorem d_U_isDue_0 : decode b_U_isDue 0 = .ok (.aload_n 0, 1) := by decide +kernel
theorem d_U_isDue_1 : decode b_U_isDue 1 = .ok (.invokevirtual 66, 3) := by decide +kernel
theorem d_U_isDue_4 : decode b_U_isDue 4 = .ok (.ifCond .ne 11, 3) := by decide +kernel
theorem d_U_isDue_7 : decode b_U_isDue 7 = .ok (.aload_n 0, 1) := by decide +kernel
theorem d_U_isDue_8 : decode b_U_isDue 8 = .ok (.getfield 24, 3) := by decide +kernel
theorem d_U_isDue_11 : decode b_U_isDue 11 = .ok (.iload_n 1, 1) := by decide +kernel
theorem d_U_isDue_12 : decode b_U_isDue 12 = .ok (.if_icmp .lt 5, 3) := by decide +kernel
theorem d_U_isDue_15 : decode b_U_isDue 15 = .ok (.iconst 0, 1) := by decide +kernel
theorem d_U_isDue_16 : decode b_U_isDue 16 = .ok (.ireturn, 1) := by decide +kernel
theorem d_U_isDue_17 : decode b_U_isDue 17 = .ok (.aload_n 0, 1) := by decide +kernel
theorem d_U_isDue_18 : decode b_U_isDue 18 = .ok (.iload_n 1, 1) := by decide +kernel
theorem d_U_isDue_19 : decode b_U_isDue 19 = .ok (.invokevirtual 69, 3) := by decide +kernel
theorem d_U_isDue_22 : decode b_U_isDue 22 = .ok (.istore_n 2, 1) := by decide +kernel
theorem d_U_isDue_23 : decode b_U_isDue 23 = .ok (.iload_n 2, 1) := by decide +kernel
theorem d_U_isDue_24 : decode b_U_isDue 24 = .ok (.iconst (-1), 1) := by decide +kernel
theorem d_U_isDue_25 : decode b_U_isDue 25 = .ok (.if_icmp .eq 12, 3) := by decide +kernel
theorem d_U_isDue_28 : decode b_U_isDue 28 = .ok (.iload_n 2, 1) := by decide +kernel
theorem d_U_isDue_29 : decode b_U_isDue 29 = .ok (.iload_n 1, 1) := by decide +kernel
theorem d_U_isDue_30 : decode b_U_isDue 30 = .ok (.if_icmp .gt 7, 3) := by decide +kernel
theorem d_U_isDue_33 : decode b_U_isDue 33 = .ok (.iconst 1, 1) := by decide +kernel
theorem d_U_isDue_34 : decode b_U_isDue 34 = .ok (.goto 4, 3) := by decide +kernel
theorem d_U_isDue_37 : decode b_U_isDue 37 = .ok (.iconst 0, 1) := by decide +kernel
theorem d_U_isDue_38 : decode b_U_isDue 38 = .ok (.ireturn, 1) := by decide +kernel
theorem d_U_isHeld_0 : decode b_U_isHeld 0 = .ok (.iconst 0, 1) := by decide +kernel
theorem d_U_isHeld_1 : decode b_U_isHeld 1 = .ok (.istore_n 2, 1) := by decide +kernel
theorem d_U_isHeld_2 : decode b_U_isHeld 2 = .ok (.iload_n 2, 1) := by decide +kernel
theorem d_U_isHeld_3 : decode b_U_isHeld 3 = .ok (.aload_n 0, 1) := by decide +kernel
theorem d_U_isHeld_4 : decode b_U_isHeld 4 = .ok (.getfield 21, 3) := by decide +kernel
theorem d_U_isHeld_7 : decode b_U_isHeld 7 = .ok (.arraylength, 1) := by decide +kernel
theorem d_U_isHeld_8 : decode b_U_isHeld 8 = .ok (.if_icmp .ge 31, 3) := by decide +kernel
theorem d_U_isHeld_11 : decode b_U_isHeld 11 = .ok (.aload_n 0, 1) := by decide +kernel
theorem d_U_isHeld_12 : decode b_U_isHeld 12 = .ok (.getfield 21, 3) := by decide +kernel
theorem d_U_isHeld_15 : decode b_U_isHeld 15 = .ok (.iload_n 2, 1) := by decide +kernel
theorem d_U_isHeld_16 : decode b_U_isHeld 16 = .ok (.iaload, 1) := by decide +kernel
theorem d_U_isHeld_17 : decode b_U_isHeld 17 = .ok (.iconst (-1), 1) := by decide +kernel
theorem d_U_isHeld_18 : decode b_U_isHeld 18 = .ok (.if_icmp .eq 13, 3) := by decide +kernel
theorem d_U_isHeld_21 : decode b_U_isHeld 21 = .ok (.aload_n 0, 1) := by decide +kernel
theorem d_U_isHeld_22 : decode b_U_isHeld 22 = .ok (.getfield 21, 3) := by decide +kernel
theorem d_U_isHeld_25 : decode b_U_isHeld 25 = .ok (.iload_n 2, 1) := by decide +kernel
theorem d_U_isHeld_26 : decode b_U_isHeld 26 = .ok (.iaload, 1) := by decide +kernel
theorem d_U_isHeld_27 : decode b_U_isHeld 27 = .ok (.iload_n 1, 1) := by decide +kernel
theorem d_U_isHeld_28 : decode b_U_isHeld 28 = .ok (.if_icmp .lt 5, 3) := by decide +kernel
theorem d_U_isHeld_31 : decode b_U_isHeld 31 = .ok (.iconst 1, 1) := by decide +kernel
theorem d_U_isHeld_32 : decode b_U_isHeld 32 = .ok (.ireturn, 1) := by decide +kernel
theorem d_U_isHeld_33 : decode b_U_isHeld 33 = .ok (.iinc 2 1, 3) := by decide +kernel
theorem d_U_isHeld_36 : decode b_U_isHeld 36 = .ok (.goto (-34), 3) := by decide +kernel
theorem d_U_isHeld_39 : decode b_U_isHeld 39 = .ok (.iconst 0, 1) := by decide +kernel
theorem d_U_isHeld_40 : decode b_U_isHeld 40 = .ok (.ireturn, 1) := by decide +kernel
theorem d_U_ruleCount_0 : decode b_U_ruleCount 0 = .ok (.aload_n 0, 1) := by decide +kernel
theorem d_U_ruleCount_1 : decode b_U_ruleCount 1 = .ok (.getfield 40, 3) := by decide +kernel
theorem d_U_ruleCount_4 : decode b_U_ruleCount 4 = .ok (.ireturn, 1) := by decide +kernel
theorem d_U_setCertificate_0 : decode b_U_setCertificate 0 = .ok (.aload_n 0, 1) := by decide +kernel
theorem d_U_setCertificate_1 : decode b_U_setCertificate 1 = .ok (.iload_n 1, 1) := by decide +kernel
theorem d_U_setCertificate_2 : decode b_U_setCertificate 2 = .ok (.putfield 34, 3) := by decide +kernel
theorem d_U_setCertificate_5 : decode b_U_setCertificate 5 = .ok (.return_, 1) := by decide +kernel
theorem d_U_setDisposed_0 : decode b_U_setDisposed 0 = .ok (.aload_n 0, 1) := by decide +kernel
theorem d_U_setDisposed_1 : decode b_U_setDisposed 1 = .ok (.iload_n 1, 1) := by decide +kernel
theorem d_U_setDisposed_2 : decode b_U_setDisposed 2 = .ok (.putfield 31, 3) := by decide +kernel
theorem d_U_setDisposed_5 : decode b_U_setDisposed 5 = .ok (.return_, 1) := by decide +kernel
theorem d_U_setEvent_0 : decode b_U_setEvent 0 = .ok (.iload_n 1, 1) := by decide +kernel
theorem d_U_setEvent_1 : decode b_U_setEvent 1 = .ok (.ifCond .lt 23, 3) := by decide +kernel
theorem d_U_setEvent_4 : decode b_U_setEvent 4 = .ok (.iload_n 1, 1) := by decide +kernel
theorem d_U_setEvent_5 : decode b_U_setEvent 5 = .ok (.aload_n 0, 1) := by decide +kernel
theorem d_U_setEvent_6 : decode b_U_setEvent 6 = .ok (.getfield 9, 3) := by decide +kernel
theorem d_U_setEvent_9 : decode b_U_setEvent 9 = .ok (.arraylength, 1) := by decide +kernel
theorem d_U_setEvent_10 : decode b_U_setEvent 10 = .ok (.if_icmp .ge 14, 3) := by decide +kernel
theorem d_U_setEvent_13 : decode b_U_setEvent 13 = .ok (.aload_n 0, 1) := by decide +kernel
theorem d_U_setEvent_14 : decode b_U_setEvent 14 = .ok (.getfield 9, 3) := by decide +kernel
theorem d_U_setEvent_17 : decode b_U_setEvent 17 = .ok (.iload_n 1, 1) := by decide +kernel
theorem d_U_setEvent_18 : decode b_U_setEvent 18 = .ok (.iload_n 2, 1) := by decide +kernel
theorem d_U_setEvent_19 : decode b_U_setEvent 19 = .ok (.iastore, 1) := by decide +kernel
theorem d_U_setEvent_20 : decode b_U_setEvent 20 = .ok (.aload_n 0, 1) := by decide +kernel
theorem d_U_setEvent_21 : decode b_U_setEvent 21 = .ok (.invokevirtual 37, 3) := by decide +kernel
theorem d_U_setEvent_24 : decode b_U_setEvent 24 = .ok (.return_, 1) := by decide +kernel
theorem d_U_setException_0 : decode b_U_setException 0 = .ok (.aload_n 0, 1) := by decide +kernel
theorem d_U_setException_1 : decode b_U_setException 1 = .ok (.iload_n 1, 1) := by decide +kernel
theorem d_U_setException_2 : decode b_U_setException 2 = .ok (.putfield 24, 3) := by decide +kernel
theorem d_U_setException_5 : decode b_U_setException 5 = .ok (.aload_n 0, 1) := by decide +kernel
theorem d_U_setException_6 : decode b_U_setException 6 = .ok (.invokevirtual 37, 3) := by decide +kernel
theorem d_U_setException_9 : decode b_U_setException 9 = .ok (.return_, 1) := by decide +kernel
theorem d_U_setHold_0 : decode b_U_setHold 0 = .ok (.iload_n 1, 1) := by decide +kernel
theorem d_U_setHold_1 : decode b_U_setHold 1 = .ok (.ifCond .lt 23, 3) := by decide +kernel
theorem d_U_setHold_4 : decode b_U_setHold 4 = .ok (.iload_n 1, 1) := by decide +kernel
theorem d_U_setHold_5 : decode b_U_setHold 5 = .ok (.aload_n 0, 1) := by decide +kernel
theorem d_U_setHold_6 : decode b_U_setHold 6 = .ok (.getfield 21, 3) := by decide +kernel
theorem d_U_setHold_9 : decode b_U_setHold 9 = .ok (.arraylength, 1) := by decide +kernel
theorem d_U_setHold_10 : decode b_U_setHold 10 = .ok (.if_icmp .ge 14, 3) := by decide +kernel
theorem d_U_setHold_13 : decode b_U_setHold 13 = .ok (.aload_n 0, 1) := by decide +kernel
theorem d_U_setHold_14 : decode b_U_setHold 14 = .ok (.getfield 21, 3) := by decide +kernel
theorem d_U_setHold_17 : decode b_U_setHold 17 = .ok (.iload_n 1, 1) := by decide +kernel
theorem d_U_setHold_18 : decode b_U_setHold 18 = .ok (.iload_n 2, 1) := by decide +kernel
theorem d_U_setHold_19 : decode b_U_setHold 19 = .ok (.iastore, 1) := by decide +kernel
theorem d_U_setHold_20 : decode b_U_setHold 20 = .ok (.aload_n 0, 1) := by decide +kernel
theorem d_U_setHold_21 : decode b_U_setHold 21 = .ok (.invokevirtual 37, 3) := by decide +kernel
theorem d_U_setHold_24 : decode b_U_setHold 24 = .ok (.return_, 1) := by decide +kernel
theorem d_U_takeApprovalsAway_0 : decode b_U_takeApprovalsAway 0 = .ok (.aload_n 0, 1) := by decide +kernel
theorem d_U_takeApprovalsAway_1 : decode b_U_takeApprovalsAway 1 = .ok (.iconst 0, 1) := by decide +kernel
theorem d_U_takeApprovalsAway_2 : decode b_U_takeApprovalsAway 2 = .ok (.putfield 71, 3) := by decide +kernel
theorem d_U_takeApprovalsAway_5 : decode b_U_takeApprovalsAway 5 = .ok (.return_, 1) := by decide +kernel
theorem d_W_law_0 : decode b_W_law 0 = .ok (.new 8, 3) := by decide +kernel
theorem d_W_law_3 : decode b_W_law 3 = .ok (.dup, 1) := by decide +kernel
theorem d_W_law_4 : decode b_W_law 4 = .ok (.invokespecial 19, 3) := by decide +kernel
theorem d_W_law_7 : decode b_W_law 7 = .ok (.astore_n 1, 1) := by decide +kernel
theorem d_W_law_8 : decode b_W_law 8 = .ok (.new 20, 3) := by decide +kernel
theorem d_W_law_11 : decode b_W_law 11 = .ok (.dup, 1) := by decide +kernel
theorem d_W_law_12 : decode b_W_law 12 = .ok (.invokespecial 22, 3) := by decide +kernel
theorem d_W_law_15 : decode b_W_law 15 = .ok (.astore_n 2, 1) := by decide +kernel
theorem d_W_law_16 : decode b_W_law 16 = .ok (.iconst 1, 1) := by decide +kernel
theorem d_W_law_17 : decode b_W_law 17 = .ok (.newarray .long, 2) := by decide +kernel
theorem d_W_law_19 : decode b_W_law 19 = .ok (.astore_n 3, 1) := by decide +kernel
theorem d_W_law_20 : decode b_W_law 20 = .ok (.iconst 0, 1) := by decide +kernel
theorem d_W_law_21 : decode b_W_law 21 = .ok (.istore 4, 2) := by decide +kernel
theorem d_W_law_23 : decode b_W_law 23 = .ok (.iload 4, 2) := by decide +kernel
theorem d_W_law_25 : decode b_W_law 25 = .ok (.aload_n 0, 1) := by decide +kernel
theorem d_W_law_26 : decode b_W_law 26 = .ok (.arraylength, 1) := by decide +kernel
theorem d_W_law_27 : decode b_W_law 27 = .ok (.iconst 4, 1) := by decide +kernel
theorem d_W_law_28 : decode b_W_law 28 = .ok (.isub, 1) := by decide +kernel
theorem d_W_law_29 : decode b_W_law 29 = .ok (.if_icmp .gt 749, 3) := by decide +kernel
theorem d_W_law_32 : decode b_W_law 32 = .ok (.aload_n 0, 1) := by decide +kernel
theorem d_W_law_33 : decode b_W_law 33 = .ok (.iload 4, 2) := by decide +kernel
theorem d_W_law_35 : decode b_W_law 35 = .ok (.iaload, 1) := by decide +kernel
theorem d_W_law_36 : decode b_W_law 36 = .ok (.bipush 15, 2) := by decide +kernel
theorem d_W_law_38 : decode b_W_law 38 = .ok (.iand, 1) := by decide +kernel
theorem d_W_law_39 : decode b_W_law 39 = .ok (.tableswitch 733 0 15 #[77, 100, 113, 162, 215, 264, 301, 350, 387, 424, 449, 517, 554, 603, 640, 677], 77) := by decide +kernel
theorem d_W_law_116 : decode b_W_law 116 = .ok (.aload_n 1, 1) := by decide +kernel
theorem d_W_law_117 : decode b_W_law 117 = .ok (.aload_n 0, 1) := by decide +kernel
theorem d_W_law_118 : decode b_W_law 118 = .ok (.iload 4, 2) := by decide +kernel
theorem d_W_law_120 : decode b_W_law 120 = .ok (.iconst 1, 1) := by decide +kernel
theorem d_W_law_121 : decode b_W_law 121 = .ok (.iadd, 1) := by decide +kernel
theorem d_W_law_122 : decode b_W_law 122 = .ok (.iaload, 1) := by decide +kernel
theorem d_W_law_123 : decode b_W_law 123 = .ok (.invokevirtual 23, 3) := by decide +kernel
theorem d_W_law_126 : decode b_W_law 126 = .ok (.aload_n 2, 1) := by decide +kernel
theorem d_W_law_127 : decode b_W_law 127 = .ok (.aload_n 0, 1) := by decide +kernel
theorem d_W_law_128 : decode b_W_law 128 = .ok (.iload 4, 2) := by decide +kernel
theorem d_W_law_130 : decode b_W_law 130 = .ok (.iconst 1, 1) := by decide +kernel
theorem d_W_law_131 : decode b_W_law 131 = .ok (.iadd, 1) := by decide +kernel
theorem d_W_law_132 : decode b_W_law 132 = .ok (.iaload, 1) := by decide +kernel
theorem d_W_law_133 : decode b_W_law 133 = .ok (.invokevirtual 27, 3) := by decide +kernel
theorem d_W_law_136 : decode b_W_law 136 = .ok (.goto 636, 3) := by decide +kernel
theorem d_W_law_139 : decode b_W_law 139 = .ok (.aload_n 1, 1) := by decide +kernel
theorem d_W_law_140 : decode b_W_law 140 = .ok (.invokevirtual 28, 3) := by decide +kernel
theorem d_W_law_143 : decode b_W_law 143 = .ok (.aload_n 2, 1) := by decide +kernel
theorem d_W_law_144 : decode b_W_law 144 = .ok (.invokevirtual 32, 3) := by decide +kernel
theorem d_W_law_147 : decode b_W_law 147 = .ok (.if_icmp .eq 625, 3) := by decide +kernel
theorem d_W_law_150 : decode b_W_law 150 = .ok (.iconst 0, 1) := by decide +kernel
theorem d_W_law_151 : decode b_W_law 151 = .ok (.ireturn, 1) := by decide +kernel
theorem d_W_law_152 : decode b_W_law 152 = .ok (.aload_n 1, 1) := by decide +kernel
theorem d_W_law_153 : decode b_W_law 153 = .ok (.aload_n 0, 1) := by decide +kernel
theorem d_W_law_154 : decode b_W_law 154 = .ok (.iload 4, 2) := by decide +kernel
theorem d_W_law_156 : decode b_W_law 156 = .ok (.iconst 1, 1) := by decide +kernel
theorem d_W_law_157 : decode b_W_law 157 = .ok (.iadd, 1) := by decide +kernel
theorem d_W_law_158 : decode b_W_law 158 = .ok (.iaload, 1) := by decide +kernel
theorem d_W_law_159 : decode b_W_law 159 = .ok (.aload_n 0, 1) := by decide +kernel
theorem d_W_law_160 : decode b_W_law 160 = .ok (.iload 4, 2) := by decide +kernel
theorem d_W_law_162 : decode b_W_law 162 = .ok (.iconst 2, 1) := by decide +kernel
theorem d_W_law_163 : decode b_W_law 163 = .ok (.iadd, 1) := by decide +kernel
theorem d_W_law_164 : decode b_W_law 164 = .ok (.iaload, 1) := by decide +kernel
theorem d_W_law_165 : decode b_W_law 165 = .ok (.aload_n 0, 1) := by decide +kernel
theorem d_W_law_166 : decode b_W_law 166 = .ok (.iload 4, 2) := by decide +kernel
theorem d_W_law_168 : decode b_W_law 168 = .ok (.iconst 3, 1) := by decide +kernel
theorem d_W_law_169 : decode b_W_law 169 = .ok (.iadd, 1) := by decide +kernel
theorem d_W_law_170 : decode b_W_law 170 = .ok (.iaload, 1) := by decide +kernel
theorem d_W_law_171 : decode b_W_law 171 = .ok (.invokevirtual 33, 3) := by decide +kernel
theorem d_W_law_174 : decode b_W_law 174 = .ok (.aload_n 2, 1) := by decide +kernel
theorem d_W_law_175 : decode b_W_law 175 = .ok (.aload_n 0, 1) := by decide +kernel
theorem d_W_law_176 : decode b_W_law 176 = .ok (.iload 4, 2) := by decide +kernel
theorem d_W_law_178 : decode b_W_law 178 = .ok (.iconst 1, 1) := by decide +kernel
theorem d_W_law_179 : decode b_W_law 179 = .ok (.iadd, 1) := by decide +kernel
theorem d_W_law_180 : decode b_W_law 180 = .ok (.iaload, 1) := by decide +kernel
theorem d_W_law_181 : decode b_W_law 181 = .ok (.aload_n 0, 1) := by decide +kernel
theorem d_W_law_182 : decode b_W_law 182 = .ok (.iload 4, 2) := by decide +kernel
theorem d_W_law_184 : decode b_W_law 184 = .ok (.iconst 2, 1) := by decide +kernel
theorem d_W_law_185 : decode b_W_law 185 = .ok (.iadd, 1) := by decide +kernel
theorem d_W_law_186 : decode b_W_law 186 = .ok (.iaload, 1) := by decide +kernel
theorem d_W_law_187 : decode b_W_law 187 = .ok (.aload_n 0, 1) := by decide +kernel
theorem d_W_law_188 : decode b_W_law 188 = .ok (.iload 4, 2) := by decide +kernel
theorem d_W_law_190 : decode b_W_law 190 = .ok (.iconst 3, 1) := by decide +kernel
theorem d_W_law_191 : decode b_W_law 191 = .ok (.iadd, 1) := by decide +kernel
theorem d_W_law_192 : decode b_W_law 192 = .ok (.iaload, 1) := by decide +kernel
theorem d_W_law_193 : decode b_W_law 193 = .ok (.invokevirtual 37, 3) := by decide +kernel
theorem d_W_law_196 : decode b_W_law 196 = .ok (.if_icmp .eq 576, 3) := by decide +kernel
theorem d_W_law_199 : decode b_W_law 199 = .ok (.iconst 0, 1) := by decide +kernel
theorem d_W_law_200 : decode b_W_law 200 = .ok (.ireturn, 1) := by decide +kernel
theorem d_W_law_201 : decode b_W_law 201 = .ok (.aload_n 1, 1) := by decide +kernel
theorem d_W_law_202 : decode b_W_law 202 = .ok (.aload_n 0, 1) := by decide +kernel
theorem d_W_law_203 : decode b_W_law 203 = .ok (.iload 4, 2) := by decide +kernel
theorem d_W_law_205 : decode b_W_law 205 = .ok (.iconst 1, 1) := by decide +kernel
theorem d_W_law_206 : decode b_W_law 206 = .ok (.iadd, 1) := by decide +kernel
theorem d_W_law_207 : decode b_W_law 207 = .ok (.iaload, 1) := by decide +kernel
theorem d_W_law_208 : decode b_W_law 208 = .ok (.aload_n 0, 1) := by decide +kernel
theorem d_W_law_209 : decode b_W_law 209 = .ok (.iload 4, 2) := by decide +kernel
theorem d_W_law_211 : decode b_W_law 211 = .ok (.iconst 2, 1) := by decide +kernel
theorem d_W_law_212 : decode b_W_law 212 = .ok (.iadd, 1) := by decide +kernel
theorem d_W_law_213 : decode b_W_law 213 = .ok (.iaload, 1) := by decide +kernel
theorem d_W_law_214 : decode b_W_law 214 = .ok (.ifCond .eq 7, 3) := by decide +kernel
theorem d_W_law_217 : decode b_W_law 217 = .ok (.iconst 1, 1) := by decide +kernel
theorem d_W_law_218 : decode b_W_law 218 = .ok (.goto 4, 3) := by decide +kernel
theorem d_W_law_221 : decode b_W_law 221 = .ok (.iconst 0, 1) := by decide +kernel
theorem d_W_law_222 : decode b_W_law 222 = .ok (.invokevirtual 38, 3) := by decide +kernel
theorem d_W_law_225 : decode b_W_law 225 = .ok (.aload_n 2, 1) := by decide +kernel
theorem d_W_law_226 : decode b_W_law 226 = .ok (.aload_n 0, 1) := by decide +kernel
theorem d_W_law_227 : decode b_W_law 227 = .ok (.iload 4, 2) := by decide +kernel
theorem d_W_law_229 : decode b_W_law 229 = .ok (.iconst 1, 1) := by decide +kernel
theorem d_W_law_230 : decode b_W_law 230 = .ok (.iadd, 1) := by decide +kernel
theorem d_W_law_231 : decode b_W_law 231 = .ok (.iaload, 1) := by decide +kernel
theorem d_W_law_232 : decode b_W_law 232 = .ok (.aload_n 0, 1) := by decide +kernel
theorem d_W_law_233 : decode b_W_law 233 = .ok (.iload 4, 2) := by decide +kernel
theorem d_W_law_235 : decode b_W_law 235 = .ok (.iconst 2, 1) := by decide +kernel
theorem d_W_law_236 : decode b_W_law 236 = .ok (.iadd, 1) := by decide +kernel
theorem d_W_law_237 : decode b_W_law 237 = .ok (.iaload, 1) := by decide +kernel
theorem d_W_law_238 : decode b_W_law 238 = .ok (.ifCond .eq 7, 3) := by decide +kernel
theorem d_W_law_241 : decode b_W_law 241 = .ok (.iconst 1, 1) := by decide +kernel
theorem d_W_law_242 : decode b_W_law 242 = .ok (.goto 4, 3) := by decide +kernel
theorem d_W_law_245 : decode b_W_law 245 = .ok (.iconst 0, 1) := by decide +kernel
theorem d_W_law_246 : decode b_W_law 246 = .ok (.invokevirtual 42, 3) := by decide +kernel
theorem d_W_law_249 : decode b_W_law 249 = .ok (.if_icmp .eq 523, 3) := by decide +kernel
theorem d_W_law_252 : decode b_W_law 252 = .ok (.iconst 0, 1) := by decide +kernel
theorem d_W_law_253 : decode b_W_law 253 = .ok (.ireturn, 1) := by decide +kernel
theorem d_W_law_254 : decode b_W_law 254 = .ok (.aload_n 1, 1) := by decide +kernel
theorem d_W_law_255 : decode b_W_law 255 = .ok (.aload_n 0, 1) := by decide +kernel
theorem d_W_law_256 : decode b_W_law 256 = .ok (.iload 4, 2) := by decide +kernel
theorem d_W_law_258 : decode b_W_law 258 = .ok (.iconst 1, 1) := by decide +kernel
theorem d_W_law_259 : decode b_W_law 259 = .ok (.iadd, 1) := by decide +kernel
theorem d_W_law_260 : decode b_W_law 260 = .ok (.iaload, 1) := by decide +kernel
theorem d_W_law_261 : decode b_W_law 261 = .ok (.aload_n 0, 1) := by decide +kernel
theorem d_W_law_262 : decode b_W_law 262 = .ok (.iload 4, 2) := by decide +kernel
theorem d_W_law_264 : decode b_W_law 264 = .ok (.iconst 2, 1) := by decide +kernel
theorem d_W_law_265 : decode b_W_law 265 = .ok (.iadd, 1) := by decide +kernel
theorem d_W_law_266 : decode b_W_law 266 = .ok (.iaload, 1) := by decide +kernel
theorem d_W_law_267 : decode b_W_law 267 = .ok (.aload_n 0, 1) := by decide +kernel
theorem d_W_law_268 : decode b_W_law 268 = .ok (.iload 4, 2) := by decide +kernel
theorem d_W_law_270 : decode b_W_law 270 = .ok (.iconst 3, 1) := by decide +kernel
theorem d_W_law_271 : decode b_W_law 271 = .ok (.iadd, 1) := by decide +kernel
theorem d_W_law_272 : decode b_W_law 272 = .ok (.iaload, 1) := by decide +kernel
theorem d_W_law_273 : decode b_W_law 273 = .ok (.invokevirtual 43, 3) := by decide +kernel
theorem d_W_law_276 : decode b_W_law 276 = .ok (.aload_n 2, 1) := by decide +kernel
theorem d_W_law_277 : decode b_W_law 277 = .ok (.aload_n 0, 1) := by decide +kernel
theorem d_W_law_278 : decode b_W_law 278 = .ok (.iload 4, 2) := by decide +kernel
theorem d_W_law_280 : decode b_W_law 280 = .ok (.iconst 1, 1) := by decide +kernel
theorem d_W_law_281 : decode b_W_law 281 = .ok (.iadd, 1) := by decide +kernel
theorem d_W_law_282 : decode b_W_law 282 = .ok (.iaload, 1) := by decide +kernel
theorem d_W_law_283 : decode b_W_law 283 = .ok (.aload_n 0, 1) := by decide +kernel
theorem d_W_law_284 : decode b_W_law 284 = .ok (.iload 4, 2) := by decide +kernel
theorem d_W_law_286 : decode b_W_law 286 = .ok (.iconst 2, 1) := by decide +kernel
theorem d_W_law_287 : decode b_W_law 287 = .ok (.iadd, 1) := by decide +kernel
theorem d_W_law_288 : decode b_W_law 288 = .ok (.iaload, 1) := by decide +kernel
theorem d_W_law_289 : decode b_W_law 289 = .ok (.aload_n 0, 1) := by decide +kernel
theorem d_W_law_290 : decode b_W_law 290 = .ok (.iload 4, 2) := by decide +kernel
theorem d_W_law_292 : decode b_W_law 292 = .ok (.iconst 3, 1) := by decide +kernel
theorem d_W_law_293 : decode b_W_law 293 = .ok (.iadd, 1) := by decide +kernel
theorem d_W_law_294 : decode b_W_law 294 = .ok (.iaload, 1) := by decide +kernel
theorem d_W_law_295 : decode b_W_law 295 = .ok (.invokevirtual 46, 3) := by decide +kernel
theorem d_W_law_298 : decode b_W_law 298 = .ok (.if_icmp .eq 474, 3) := by decide +kernel
theorem d_W_law_301 : decode b_W_law 301 = .ok (.iconst 0, 1) := by decide +kernel
theorem d_W_law_302 : decode b_W_law 302 = .ok (.ireturn, 1) := by decide +kernel
theorem d_W_law_303 : decode b_W_law 303 = .ok (.aload_n 1, 1) := by decide +kernel
theorem d_W_law_304 : decode b_W_law 304 = .ok (.aload_n 0, 1) := by decide +kernel
theorem d_W_law_305 : decode b_W_law 305 = .ok (.iload 4, 2) := by decide +kernel
theorem d_W_law_307 : decode b_W_law 307 = .ok (.iconst 1, 1) := by decide +kernel
theorem d_W_law_308 : decode b_W_law 308 = .ok (.iadd, 1) := by decide +kernel
theorem d_W_law_309 : decode b_W_law 309 = .ok (.iaload, 1) := by decide +kernel
theorem d_W_law_310 : decode b_W_law 310 = .ok (.aload_n 0, 1) := by decide +kernel
theorem d_W_law_311 : decode b_W_law 311 = .ok (.iload 4, 2) := by decide +kernel
theorem d_W_law_313 : decode b_W_law 313 = .ok (.iconst 2, 1) := by decide +kernel
theorem d_W_law_314 : decode b_W_law 314 = .ok (.iadd, 1) := by decide +kernel
theorem d_W_law_315 : decode b_W_law 315 = .ok (.iaload, 1) := by decide +kernel
theorem d_W_law_316 : decode b_W_law 316 = .ok (.invokevirtual 47, 3) := by decide +kernel
theorem d_W_law_319 : decode b_W_law 319 = .ok (.aload_n 2, 1) := by decide +kernel
theorem d_W_law_320 : decode b_W_law 320 = .ok (.aload_n 0, 1) := by decide +kernel
theorem d_W_law_321 : decode b_W_law 321 = .ok (.iload 4, 2) := by decide +kernel
theorem d_W_law_323 : decode b_W_law 323 = .ok (.iconst 1, 1) := by decide +kernel
theorem d_W_law_324 : decode b_W_law 324 = .ok (.iadd, 1) := by decide +kernel
theorem d_W_law_325 : decode b_W_law 325 = .ok (.iaload, 1) := by decide +kernel
theorem d_W_law_326 : decode b_W_law 326 = .ok (.aload_n 0, 1) := by decide +kernel
theorem d_W_law_327 : decode b_W_law 327 = .ok (.iload 4, 2) := by decide +kernel
theorem d_W_law_329 : decode b_W_law 329 = .ok (.iconst 2, 1) := by decide +kernel
theorem d_W_law_330 : decode b_W_law 330 = .ok (.iadd, 1) := by decide +kernel
theorem d_W_law_331 : decode b_W_law 331 = .ok (.iaload, 1) := by decide +kernel
theorem d_W_law_332 : decode b_W_law 332 = .ok (.invokevirtual 50, 3) := by decide +kernel
theorem d_W_law_335 : decode b_W_law 335 = .ok (.if_icmp .eq 437, 3) := by decide +kernel
theorem d_W_law_338 : decode b_W_law 338 = .ok (.iconst 0, 1) := by decide +kernel
theorem d_W_law_339 : decode b_W_law 339 = .ok (.ireturn, 1) := by decide +kernel
theorem d_W_law_340 : decode b_W_law 340 = .ok (.aload_n 1, 1) := by decide +kernel
theorem d_W_law_341 : decode b_W_law 341 = .ok (.aload_n 0, 1) := by decide +kernel
theorem d_W_law_342 : decode b_W_law 342 = .ok (.iload 4, 2) := by decide +kernel
theorem d_W_law_344 : decode b_W_law 344 = .ok (.iconst 1, 1) := by decide +kernel
theorem d_W_law_345 : decode b_W_law 345 = .ok (.iadd, 1) := by decide +kernel
theorem d_W_law_346 : decode b_W_law 346 = .ok (.iaload, 1) := by decide +kernel
theorem d_W_law_347 : decode b_W_law 347 = .ok (.aload_n 0, 1) := by decide +kernel
theorem d_W_law_348 : decode b_W_law 348 = .ok (.iload 4, 2) := by decide +kernel
theorem d_W_law_350 : decode b_W_law 350 = .ok (.iconst 2, 1) := by decide +kernel
theorem d_W_law_351 : decode b_W_law 351 = .ok (.iadd, 1) := by decide +kernel
theorem d_W_law_352 : decode b_W_law 352 = .ok (.iaload, 1) := by decide +kernel
theorem d_W_law_353 : decode b_W_law 353 = .ok (.aload_n 0, 1) := by decide +kernel
theorem d_W_law_354 : decode b_W_law 354 = .ok (.iload 4, 2) := by decide +kernel
theorem d_W_law_356 : decode b_W_law 356 = .ok (.iconst 3, 1) := by decide +kernel
theorem d_W_law_357 : decode b_W_law 357 = .ok (.iadd, 1) := by decide +kernel
theorem d_W_law_358 : decode b_W_law 358 = .ok (.iaload, 1) := by decide +kernel
theorem d_W_law_359 : decode b_W_law 359 = .ok (.invokevirtual 51, 3) := by decide +kernel
theorem d_W_law_362 : decode b_W_law 362 = .ok (.aload_n 2, 1) := by decide +kernel
theorem d_W_law_363 : decode b_W_law 363 = .ok (.aload_n 0, 1) := by decide +kernel
theorem d_W_law_364 : decode b_W_law 364 = .ok (.iload 4, 2) := by decide +kernel
theorem d_W_law_366 : decode b_W_law 366 = .ok (.iconst 1, 1) := by decide +kernel
theorem d_W_law_367 : decode b_W_law 367 = .ok (.iadd, 1) := by decide +kernel
theorem d_W_law_368 : decode b_W_law 368 = .ok (.iaload, 1) := by decide +kernel
theorem d_W_law_369 : decode b_W_law 369 = .ok (.aload_n 0, 1) := by decide +kernel
theorem d_W_law_370 : decode b_W_law 370 = .ok (.iload 4, 2) := by decide +kernel
theorem d_W_law_372 : decode b_W_law 372 = .ok (.iconst 2, 1) := by decide +kernel
theorem d_W_law_373 : decode b_W_law 373 = .ok (.iadd, 1) := by decide +kernel
theorem d_W_law_374 : decode b_W_law 374 = .ok (.iaload, 1) := by decide +kernel
theorem d_W_law_375 : decode b_W_law 375 = .ok (.aload_n 0, 1) := by decide +kernel
theorem d_W_law_376 : decode b_W_law 376 = .ok (.iload 4, 2) := by decide +kernel
theorem d_W_law_378 : decode b_W_law 378 = .ok (.iconst 3, 1) := by decide +kernel
theorem d_W_law_379 : decode b_W_law 379 = .ok (.iadd, 1) := by decide +kernel
theorem d_W_law_380 : decode b_W_law 380 = .ok (.iaload, 1) := by decide +kernel
theorem d_W_law_381 : decode b_W_law 381 = .ok (.invokevirtual 54, 3) := by decide +kernel
theorem d_W_law_384 : decode b_W_law 384 = .ok (.if_icmp .eq 388, 3) := by decide +kernel
theorem d_W_law_387 : decode b_W_law 387 = .ok (.iconst 0, 1) := by decide +kernel
theorem d_W_law_388 : decode b_W_law 388 = .ok (.ireturn, 1) := by decide +kernel
theorem d_W_law_389 : decode b_W_law 389 = .ok (.aload_n 1, 1) := by decide +kernel
theorem d_W_law_390 : decode b_W_law 390 = .ok (.aload_n 0, 1) := by decide +kernel
theorem d_W_law_391 : decode b_W_law 391 = .ok (.iload 4, 2) := by decide +kernel
theorem d_W_law_393 : decode b_W_law 393 = .ok (.iconst 1, 1) := by decide +kernel
theorem d_W_law_394 : decode b_W_law 394 = .ok (.iadd, 1) := by decide +kernel
theorem d_W_law_395 : decode b_W_law 395 = .ok (.iaload, 1) := by decide +kernel
theorem d_W_law_396 : decode b_W_law 396 = .ok (.aload_n 0, 1) := by decide +kernel
theorem d_W_law_397 : decode b_W_law 397 = .ok (.iload 4, 2) := by decide +kernel
theorem d_W_law_399 : decode b_W_law 399 = .ok (.iconst 2, 1) := by decide +kernel
theorem d_W_law_400 : decode b_W_law 400 = .ok (.iadd, 1) := by decide +kernel
theorem d_W_law_401 : decode b_W_law 401 = .ok (.iaload, 1) := by decide +kernel
theorem d_W_law_402 : decode b_W_law 402 = .ok (.invokevirtual 55, 3) := by decide +kernel
theorem d_W_law_405 : decode b_W_law 405 = .ok (.aload_n 2, 1) := by decide +kernel
theorem d_W_law_406 : decode b_W_law 406 = .ok (.aload_n 0, 1) := by decide +kernel
theorem d_W_law_407 : decode b_W_law 407 = .ok (.iload 4, 2) := by decide +kernel
theorem d_W_law_409 : decode b_W_law 409 = .ok (.iconst 1, 1) := by decide +kernel
theorem d_W_law_410 : decode b_W_law 410 = .ok (.iadd, 1) := by decide +kernel
theorem d_W_law_411 : decode b_W_law 411 = .ok (.iaload, 1) := by decide +kernel
theorem d_W_law_412 : decode b_W_law 412 = .ok (.aload_n 0, 1) := by decide +kernel
theorem d_W_law_413 : decode b_W_law 413 = .ok (.iload 4, 2) := by decide +kernel
theorem d_W_law_415 : decode b_W_law 415 = .ok (.iconst 2, 1) := by decide +kernel
theorem d_W_law_416 : decode b_W_law 416 = .ok (.iadd, 1) := by decide +kernel
theorem d_W_law_417 : decode b_W_law 417 = .ok (.iaload, 1) := by decide +kernel
theorem d_W_law_418 : decode b_W_law 418 = .ok (.invokevirtual 58, 3) := by decide +kernel
theorem d_W_law_421 : decode b_W_law 421 = .ok (.if_icmp .eq 351, 3) := by decide +kernel
theorem d_W_law_424 : decode b_W_law 424 = .ok (.iconst 0, 1) := by decide +kernel
theorem d_W_law_425 : decode b_W_law 425 = .ok (.ireturn, 1) := by decide +kernel
theorem d_W_law_426 : decode b_W_law 426 = .ok (.aload_n 1, 1) := by decide +kernel
theorem d_W_law_427 : decode b_W_law 427 = .ok (.aload_n 0, 1) := by decide +kernel
theorem d_W_law_428 : decode b_W_law 428 = .ok (.iload 4, 2) := by decide +kernel
theorem d_W_law_430 : decode b_W_law 430 = .ok (.iconst 1, 1) := by decide +kernel
theorem d_W_law_431 : decode b_W_law 431 = .ok (.iadd, 1) := by decide +kernel
theorem d_W_law_432 : decode b_W_law 432 = .ok (.iaload, 1) := by decide +kernel
theorem d_W_law_433 : decode b_W_law 433 = .ok (.aload_n 0, 1) := by decide +kernel
theorem d_W_law_434 : decode b_W_law 434 = .ok (.iload 4, 2) := by decide +kernel
theorem d_W_law_436 : decode b_W_law 436 = .ok (.iconst 2, 1) := by decide +kernel
theorem d_W_law_437 : decode b_W_law 437 = .ok (.iadd, 1) := by decide +kernel
theorem d_W_law_438 : decode b_W_law 438 = .ok (.iaload, 1) := by decide +kernel
theorem d_W_law_439 : decode b_W_law 439 = .ok (.invokevirtual 59, 3) := by decide +kernel
theorem d_W_law_442 : decode b_W_law 442 = .ok (.aload_n 2, 1) := by decide +kernel
theorem d_W_law_443 : decode b_W_law 443 = .ok (.aload_n 0, 1) := by decide +kernel
theorem d_W_law_444 : decode b_W_law 444 = .ok (.iload 4, 2) := by decide +kernel
theorem d_W_law_446 : decode b_W_law 446 = .ok (.iconst 1, 1) := by decide +kernel
theorem d_W_law_447 : decode b_W_law 447 = .ok (.iadd, 1) := by decide +kernel
theorem d_W_law_448 : decode b_W_law 448 = .ok (.iaload, 1) := by decide +kernel
theorem d_W_law_449 : decode b_W_law 449 = .ok (.aload_n 0, 1) := by decide +kernel
theorem d_W_law_450 : decode b_W_law 450 = .ok (.iload 4, 2) := by decide +kernel
theorem d_W_law_452 : decode b_W_law 452 = .ok (.iconst 2, 1) := by decide +kernel
theorem d_W_law_453 : decode b_W_law 453 = .ok (.iadd, 1) := by decide +kernel
theorem d_W_law_454 : decode b_W_law 454 = .ok (.iaload, 1) := by decide +kernel
theorem d_W_law_455 : decode b_W_law 455 = .ok (.invokevirtual 62, 3) := by decide +kernel
theorem d_W_law_458 : decode b_W_law 458 = .ok (.if_icmp .eq 314, 3) := by decide +kernel
theorem d_W_law_461 : decode b_W_law 461 = .ok (.iconst 0, 1) := by decide +kernel
theorem d_W_law_462 : decode b_W_law 462 = .ok (.ireturn, 1) := by decide +kernel
theorem d_W_law_463 : decode b_W_law 463 = .ok (.aload_n 1, 1) := by decide +kernel
theorem d_W_law_464 : decode b_W_law 464 = .ok (.aload_n 0, 1) := by decide +kernel
theorem d_W_law_465 : decode b_W_law 465 = .ok (.iload 4, 2) := by decide +kernel
theorem d_W_law_467 : decode b_W_law 467 = .ok (.iconst 1, 1) := by decide +kernel
theorem d_W_law_468 : decode b_W_law 468 = .ok (.iadd, 1) := by decide +kernel
theorem d_W_law_469 : decode b_W_law 469 = .ok (.iaload, 1) := by decide +kernel
theorem d_W_law_470 : decode b_W_law 470 = .ok (.invokevirtual 63, 3) := by decide +kernel
theorem d_W_law_473 : decode b_W_law 473 = .ok (.aload_n 2, 1) := by decide +kernel
theorem d_W_law_474 : decode b_W_law 474 = .ok (.aload_n 0, 1) := by decide +kernel
theorem d_W_law_475 : decode b_W_law 475 = .ok (.iload 4, 2) := by decide +kernel
theorem d_W_law_477 : decode b_W_law 477 = .ok (.iconst 1, 1) := by decide +kernel
theorem d_W_law_478 : decode b_W_law 478 = .ok (.iadd, 1) := by decide +kernel
theorem d_W_law_479 : decode b_W_law 479 = .ok (.iaload, 1) := by decide +kernel
theorem d_W_law_480 : decode b_W_law 480 = .ok (.invokevirtual 66, 3) := by decide +kernel
theorem d_W_law_483 : decode b_W_law 483 = .ok (.if_icmp .eq 289, 3) := by decide +kernel
theorem d_W_law_486 : decode b_W_law 486 = .ok (.iconst 0, 1) := by decide +kernel
theorem d_W_law_487 : decode b_W_law 487 = .ok (.ireturn, 1) := by decide +kernel
theorem d_W_law_488 : decode b_W_law 488 = .ok (.aload_n 1, 1) := by decide +kernel
theorem d_W_law_489 : decode b_W_law 489 = .ok (.aload_n 0, 1) := by decide +kernel
theorem d_W_law_490 : decode b_W_law 490 = .ok (.iload 4, 2) := by decide +kernel
theorem d_W_law_492 : decode b_W_law 492 = .ok (.iconst 1, 1) := by decide +kernel
theorem d_W_law_493 : decode b_W_law 493 = .ok (.iadd, 1) := by decide +kernel
theorem d_W_law_494 : decode b_W_law 494 = .ok (.iaload, 1) := by decide +kernel
theorem d_W_law_495 : decode b_W_law 495 = .ok (.aload_n 0, 1) := by decide +kernel
theorem d_W_law_496 : decode b_W_law 496 = .ok (.iload 4, 2) := by decide +kernel
theorem d_W_law_498 : decode b_W_law 498 = .ok (.iconst 2, 1) := by decide +kernel
theorem d_W_law_499 : decode b_W_law 499 = .ok (.iadd, 1) := by decide +kernel
theorem d_W_law_500 : decode b_W_law 500 = .ok (.iaload, 1) := by decide +kernel
theorem d_W_law_501 : decode b_W_law 501 = .ok (.aload_n 3, 1) := by decide +kernel
theorem d_W_law_502 : decode b_W_law 502 = .ok (.invokestatic 67, 3) := by decide +kernel
theorem d_W_law_505 : decode b_W_law 505 = .ok (.istore 5, 2) := by decide +kernel
theorem d_W_law_507 : decode b_W_law 507 = .ok (.aload_n 2, 1) := by decide +kernel
theorem d_W_law_508 : decode b_W_law 508 = .ok (.aload_n 0, 1) := by decide +kernel
theorem d_W_law_509 : decode b_W_law 509 = .ok (.iload 4, 2) := by decide +kernel
theorem d_W_law_511 : decode b_W_law 511 = .ok (.iconst 1, 1) := by decide +kernel
theorem d_W_law_512 : decode b_W_law 512 = .ok (.iadd, 1) := by decide +kernel
theorem d_W_law_513 : decode b_W_law 513 = .ok (.iaload, 1) := by decide +kernel
theorem d_W_law_514 : decode b_W_law 514 = .ok (.aload_n 0, 1) := by decide +kernel
theorem d_W_law_515 : decode b_W_law 515 = .ok (.iload 4, 2) := by decide +kernel
theorem d_W_law_517 : decode b_W_law 517 = .ok (.iconst 2, 1) := by decide +kernel
theorem d_W_law_518 : decode b_W_law 518 = .ok (.iadd, 1) := by decide +kernel
theorem d_W_law_519 : decode b_W_law 519 = .ok (.iaload, 1) := by decide +kernel
theorem d_W_law_520 : decode b_W_law 520 = .ok (.invokevirtual 72, 3) := by decide +kernel
theorem d_W_law_523 : decode b_W_law 523 = .ok (.istore 6, 2) := by decide +kernel
theorem d_W_law_525 : decode b_W_law 525 = .ok (.aload_n 2, 1) := by decide +kernel
theorem d_W_law_526 : decode b_W_law 526 = .ok (.invokevirtual 73, 3) := by decide +kernel
theorem d_W_law_529 : decode b_W_law 529 = .ok (.iload 5, 2) := by decide +kernel
theorem d_W_law_531 : decode b_W_law 531 = .ok (.if_icmp .eq 5, 3) := by decide +kernel
theorem d_W_law_534 : decode b_W_law 534 = .ok (.iconst 0, 1) := by decide +kernel
theorem d_W_law_535 : decode b_W_law 535 = .ok (.ireturn, 1) := by decide +kernel
theorem d_W_law_536 : decode b_W_law 536 = .ok (.iload 5, 2) := by decide +kernel
theorem d_W_law_538 : decode b_W_law 538 = .ok (.ifCond .ne 15, 3) := by decide +kernel
theorem d_W_law_541 : decode b_W_law 541 = .ok (.aload_n 3, 1) := by decide +kernel
theorem d_W_law_542 : decode b_W_law 542 = .ok (.iconst 0, 1) := by decide +kernel
theorem d_W_law_543 : decode b_W_law 543 = .ok (.laload, 1) := by decide +kernel
theorem d_W_law_544 : decode b_W_law 544 = .ok (.iload 6, 2) := by decide +kernel
theorem d_W_law_546 : decode b_W_law 546 = .ok (.i2l, 1) := by decide +kernel
theorem d_W_law_547 : decode b_W_law 547 = .ok (.lcmp, 1) := by decide +kernel
theorem d_W_law_548 : decode b_W_law 548 = .ok (.ifCond .eq 5, 3) := by decide +kernel
theorem d_W_law_551 : decode b_W_law 551 = .ok (.iconst 0, 1) := by decide +kernel
theorem d_W_law_552 : decode b_W_law 552 = .ok (.ireturn, 1) := by decide +kernel
theorem d_W_law_553 : decode b_W_law 553 = .ok (.goto 219, 3) := by decide +kernel
theorem d_W_law_556 : decode b_W_law 556 = .ok (.aload_n 1, 1) := by decide +kernel
theorem d_W_law_557 : decode b_W_law 557 = .ok (.aload_n 0, 1) := by decide +kernel
theorem d_W_law_558 : decode b_W_law 558 = .ok (.iload 4, 2) := by decide +kernel
theorem d_W_law_560 : decode b_W_law 560 = .ok (.iconst 1, 1) := by decide +kernel
theorem d_W_law_561 : decode b_W_law 561 = .ok (.iadd, 1) := by decide +kernel
theorem d_W_law_562 : decode b_W_law 562 = .ok (.iaload, 1) := by decide +kernel
theorem d_W_law_563 : decode b_W_law 563 = .ok (.aload_n 0, 1) := by decide +kernel
theorem d_W_law_564 : decode b_W_law 564 = .ok (.iload 4, 2) := by decide +kernel
theorem d_W_law_566 : decode b_W_law 566 = .ok (.iconst 2, 1) := by decide +kernel
theorem d_W_law_567 : decode b_W_law 567 = .ok (.iadd, 1) := by decide +kernel
theorem d_W_law_568 : decode b_W_law 568 = .ok (.iaload, 1) := by decide +kernel
theorem d_W_law_569 : decode b_W_law 569 = .ok (.invokevirtual 76, 3) := by decide +kernel
theorem d_W_law_572 : decode b_W_law 572 = .ok (.aload_n 2, 1) := by decide +kernel
theorem d_W_law_573 : decode b_W_law 573 = .ok (.aload_n 0, 1) := by decide +kernel
theorem d_W_law_574 : decode b_W_law 574 = .ok (.iload 4, 2) := by decide +kernel
theorem d_W_law_576 : decode b_W_law 576 = .ok (.iconst 1, 1) := by decide +kernel
theorem d_W_law_577 : decode b_W_law 577 = .ok (.iadd, 1) := by decide +kernel
theorem d_W_law_578 : decode b_W_law 578 = .ok (.iaload, 1) := by decide +kernel
theorem d_W_law_579 : decode b_W_law 579 = .ok (.aload_n 0, 1) := by decide +kernel
theorem d_W_law_580 : decode b_W_law 580 = .ok (.iload 4, 2) := by decide +kernel
theorem d_W_law_582 : decode b_W_law 582 = .ok (.iconst 2, 1) := by decide +kernel
theorem d_W_law_583 : decode b_W_law 583 = .ok (.iadd, 1) := by decide +kernel
theorem d_W_law_584 : decode b_W_law 584 = .ok (.iaload, 1) := by decide +kernel
theorem d_W_law_585 : decode b_W_law 585 = .ok (.invokevirtual 79, 3) := by decide +kernel
theorem d_W_law_588 : decode b_W_law 588 = .ok (.if_icmp .eq 184, 3) := by decide +kernel
theorem d_W_law_591 : decode b_W_law 591 = .ok (.iconst 0, 1) := by decide +kernel
theorem d_W_law_592 : decode b_W_law 592 = .ok (.ireturn, 1) := by decide +kernel
theorem d_W_law_593 : decode b_W_law 593 = .ok (.aload_n 1, 1) := by decide +kernel
theorem d_W_law_594 : decode b_W_law 594 = .ok (.aload_n 0, 1) := by decide +kernel
theorem d_W_law_595 : decode b_W_law 595 = .ok (.iload 4, 2) := by decide +kernel
theorem d_W_law_597 : decode b_W_law 597 = .ok (.iconst 1, 1) := by decide +kernel
theorem d_W_law_598 : decode b_W_law 598 = .ok (.iadd, 1) := by decide +kernel
theorem d_W_law_599 : decode b_W_law 599 = .ok (.iaload, 1) := by decide +kernel
theorem d_W_law_600 : decode b_W_law 600 = .ok (.aload_n 0, 1) := by decide +kernel
theorem d_W_law_601 : decode b_W_law 601 = .ok (.iload 4, 2) := by decide +kernel
theorem d_W_law_603 : decode b_W_law 603 = .ok (.iconst 2, 1) := by decide +kernel
theorem d_W_law_604 : decode b_W_law 604 = .ok (.iadd, 1) := by decide +kernel
theorem d_W_law_605 : decode b_W_law 605 = .ok (.iaload, 1) := by decide +kernel
theorem d_W_law_606 : decode b_W_law 606 = .ok (.aload_n 0, 1) := by decide +kernel
theorem d_W_law_607 : decode b_W_law 607 = .ok (.iload 4, 2) := by decide +kernel
theorem d_W_law_609 : decode b_W_law 609 = .ok (.iconst 3, 1) := by decide +kernel
theorem d_W_law_610 : decode b_W_law 610 = .ok (.iadd, 1) := by decide +kernel
theorem d_W_law_611 : decode b_W_law 611 = .ok (.iaload, 1) := by decide +kernel
theorem d_W_law_612 : decode b_W_law 612 = .ok (.invokevirtual 80, 3) := by decide +kernel
theorem d_W_law_615 : decode b_W_law 615 = .ok (.aload_n 2, 1) := by decide +kernel
theorem d_W_law_616 : decode b_W_law 616 = .ok (.aload_n 0, 1) := by decide +kernel
theorem d_W_law_617 : decode b_W_law 617 = .ok (.iload 4, 2) := by decide +kernel
theorem d_W_law_619 : decode b_W_law 619 = .ok (.iconst 1, 1) := by decide +kernel
theorem d_W_law_620 : decode b_W_law 620 = .ok (.iadd, 1) := by decide +kernel
theorem d_W_law_621 : decode b_W_law 621 = .ok (.iaload, 1) := by decide +kernel
theorem d_W_law_622 : decode b_W_law 622 = .ok (.aload_n 0, 1) := by decide +kernel
theorem d_W_law_623 : decode b_W_law 623 = .ok (.iload 4, 2) := by decide +kernel
theorem d_W_law_625 : decode b_W_law 625 = .ok (.iconst 2, 1) := by decide +kernel
theorem d_W_law_626 : decode b_W_law 626 = .ok (.iadd, 1) := by decide +kernel
theorem d_W_law_627 : decode b_W_law 627 = .ok (.iaload, 1) := by decide +kernel
theorem d_W_law_628 : decode b_W_law 628 = .ok (.aload_n 0, 1) := by decide +kernel
theorem d_W_law_629 : decode b_W_law 629 = .ok (.iload 4, 2) := by decide +kernel
theorem d_W_law_631 : decode b_W_law 631 = .ok (.iconst 3, 1) := by decide +kernel
theorem d_W_law_632 : decode b_W_law 632 = .ok (.iadd, 1) := by decide +kernel
theorem d_W_law_633 : decode b_W_law 633 = .ok (.iaload, 1) := by decide +kernel
theorem d_W_law_634 : decode b_W_law 634 = .ok (.invokevirtual 83, 3) := by decide +kernel
theorem d_W_law_637 : decode b_W_law 637 = .ok (.if_icmp .eq 135, 3) := by decide +kernel
theorem d_W_law_640 : decode b_W_law 640 = .ok (.iconst 0, 1) := by decide +kernel
theorem d_W_law_641 : decode b_W_law 641 = .ok (.ireturn, 1) := by decide +kernel
theorem d_W_law_642 : decode b_W_law 642 = .ok (.aload_n 1, 1) := by decide +kernel
theorem d_W_law_643 : decode b_W_law 643 = .ok (.aload_n 0, 1) := by decide +kernel
theorem d_W_law_644 : decode b_W_law 644 = .ok (.iload 4, 2) := by decide +kernel
theorem d_W_law_646 : decode b_W_law 646 = .ok (.iconst 1, 1) := by decide +kernel
theorem d_W_law_647 : decode b_W_law 647 = .ok (.iadd, 1) := by decide +kernel
theorem d_W_law_648 : decode b_W_law 648 = .ok (.iaload, 1) := by decide +kernel
theorem d_W_law_649 : decode b_W_law 649 = .ok (.aload_n 0, 1) := by decide +kernel
theorem d_W_law_650 : decode b_W_law 650 = .ok (.iload 4, 2) := by decide +kernel
theorem d_W_law_652 : decode b_W_law 652 = .ok (.iconst 2, 1) := by decide +kernel
theorem d_W_law_653 : decode b_W_law 653 = .ok (.iadd, 1) := by decide +kernel
theorem d_W_law_654 : decode b_W_law 654 = .ok (.iaload, 1) := by decide +kernel
theorem d_W_law_655 : decode b_W_law 655 = .ok (.invokevirtual 84, 3) := by decide +kernel
theorem d_W_law_658 : decode b_W_law 658 = .ok (.aload_n 2, 1) := by decide +kernel
theorem d_W_law_659 : decode b_W_law 659 = .ok (.aload_n 0, 1) := by decide +kernel
theorem d_W_law_660 : decode b_W_law 660 = .ok (.iload 4, 2) := by decide +kernel
theorem d_W_law_662 : decode b_W_law 662 = .ok (.iconst 1, 1) := by decide +kernel
theorem d_W_law_663 : decode b_W_law 663 = .ok (.iadd, 1) := by decide +kernel
theorem d_W_law_664 : decode b_W_law 664 = .ok (.iaload, 1) := by decide +kernel
theorem d_W_law_665 : decode b_W_law 665 = .ok (.aload_n 0, 1) := by decide +kernel
theorem d_W_law_666 : decode b_W_law 666 = .ok (.iload 4, 2) := by decide +kernel
theorem d_W_law_668 : decode b_W_law 668 = .ok (.iconst 2, 1) := by decide +kernel
theorem d_W_law_669 : decode b_W_law 669 = .ok (.iadd, 1) := by decide +kernel
theorem d_W_law_670 : decode b_W_law 670 = .ok (.iaload, 1) := by decide +kernel
theorem d_W_law_671 : decode b_W_law 671 = .ok (.invokevirtual 87, 3) := by decide +kernel
theorem d_W_law_674 : decode b_W_law 674 = .ok (.if_icmp .eq 98, 3) := by decide +kernel
theorem d_W_law_677 : decode b_W_law 677 = .ok (.iconst 0, 1) := by decide +kernel
theorem d_W_law_678 : decode b_W_law 678 = .ok (.ireturn, 1) := by decide +kernel
theorem d_W_law_679 : decode b_W_law 679 = .ok (.aload_n 1, 1) := by decide +kernel
theorem d_W_law_680 : decode b_W_law 680 = .ok (.aload_n 0, 1) := by decide +kernel
theorem d_W_law_681 : decode b_W_law 681 = .ok (.iload 4, 2) := by decide +kernel
theorem d_W_law_683 : decode b_W_law 683 = .ok (.iconst 1, 1) := by decide +kernel
theorem d_W_law_684 : decode b_W_law 684 = .ok (.iadd, 1) := by decide +kernel
theorem d_W_law_685 : decode b_W_law 685 = .ok (.iaload, 1) := by decide +kernel
theorem d_W_law_686 : decode b_W_law 686 = .ok (.aload_n 0, 1) := by decide +kernel
theorem d_W_law_687 : decode b_W_law 687 = .ok (.iload 4, 2) := by decide +kernel
theorem d_W_law_689 : decode b_W_law 689 = .ok (.iconst 2, 1) := by decide +kernel
theorem d_W_law_690 : decode b_W_law 690 = .ok (.iadd, 1) := by decide +kernel
theorem d_W_law_691 : decode b_W_law 691 = .ok (.iaload, 1) := by decide +kernel
theorem d_W_law_692 : decode b_W_law 692 = .ok (.invokevirtual 88, 3) := by decide +kernel
theorem d_W_law_695 : decode b_W_law 695 = .ok (.aload_n 2, 1) := by decide +kernel
theorem d_W_law_696 : decode b_W_law 696 = .ok (.aload_n 0, 1) := by decide +kernel
theorem d_W_law_697 : decode b_W_law 697 = .ok (.iload 4, 2) := by decide +kernel
theorem d_W_law_699 : decode b_W_law 699 = .ok (.iconst 1, 1) := by decide +kernel
theorem d_W_law_700 : decode b_W_law 700 = .ok (.iadd, 1) := by decide +kernel
theorem d_W_law_701 : decode b_W_law 701 = .ok (.iaload, 1) := by decide +kernel
theorem d_W_law_702 : decode b_W_law 702 = .ok (.aload_n 0, 1) := by decide +kernel
theorem d_W_law_703 : decode b_W_law 703 = .ok (.iload 4, 2) := by decide +kernel
theorem d_W_law_705 : decode b_W_law 705 = .ok (.iconst 2, 1) := by decide +kernel
theorem d_W_law_706 : decode b_W_law 706 = .ok (.iadd, 1) := by decide +kernel
theorem d_W_law_707 : decode b_W_law 707 = .ok (.iaload, 1) := by decide +kernel
theorem d_W_law_708 : decode b_W_law 708 = .ok (.invokevirtual 91, 3) := by decide +kernel
theorem d_W_law_711 : decode b_W_law 711 = .ok (.if_icmp .eq 61, 3) := by decide +kernel
theorem d_W_law_714 : decode b_W_law 714 = .ok (.iconst 0, 1) := by decide +kernel
theorem d_W_law_715 : decode b_W_law 715 = .ok (.ireturn, 1) := by decide +kernel
theorem d_W_law_716 : decode b_W_law 716 = .ok (.aload_n 1, 1) := by decide +kernel
theorem d_W_law_717 : decode b_W_law 717 = .ok (.aload_n 0, 1) := by decide +kernel
theorem d_W_law_718 : decode b_W_law 718 = .ok (.iload 4, 2) := by decide +kernel
theorem d_W_law_720 : decode b_W_law 720 = .ok (.iconst 1, 1) := by decide +kernel
theorem d_W_law_721 : decode b_W_law 721 = .ok (.iadd, 1) := by decide +kernel
theorem d_W_law_722 : decode b_W_law 722 = .ok (.iaload, 1) := by decide +kernel
theorem d_W_law_723 : decode b_W_law 723 = .ok (.aload_n 3, 1) := by decide +kernel
theorem d_W_law_724 : decode b_W_law 724 = .ok (.invokestatic 92, 3) := by decide +kernel
theorem d_W_law_727 : decode b_W_law 727 = .ok (.istore 5, 2) := by decide +kernel
theorem d_W_law_729 : decode b_W_law 729 = .ok (.aload_n 2, 1) := by decide +kernel
theorem d_W_law_730 : decode b_W_law 730 = .ok (.aload_n 0, 1) := by decide +kernel
theorem d_W_law_731 : decode b_W_law 731 = .ok (.iload 4, 2) := by decide +kernel
theorem d_W_law_733 : decode b_W_law 733 = .ok (.iconst 1, 1) := by decide +kernel
theorem d_W_law_734 : decode b_W_law 734 = .ok (.iadd, 1) := by decide +kernel
theorem d_W_law_735 : decode b_W_law 735 = .ok (.iaload, 1) := by decide +kernel
theorem d_W_law_736 : decode b_W_law 736 = .ok (.invokevirtual 95, 3) := by decide +kernel
theorem d_W_law_739 : decode b_W_law 739 = .ok (.istore 6, 2) := by decide +kernel
theorem d_W_law_741 : decode b_W_law 741 = .ok (.aload_n 2, 1) := by decide +kernel
theorem d_W_law_742 : decode b_W_law 742 = .ok (.invokevirtual 73, 3) := by decide +kernel
theorem d_W_law_745 : decode b_W_law 745 = .ok (.iload 5, 2) := by decide +kernel
theorem d_W_law_747 : decode b_W_law 747 = .ok (.if_icmp .eq 5, 3) := by decide +kernel
theorem d_W_law_750 : decode b_W_law 750 = .ok (.iconst 0, 1) := by decide +kernel
theorem d_W_law_751 : decode b_W_law 751 = .ok (.ireturn, 1) := by decide +kernel
theorem d_W_law_752 : decode b_W_law 752 = .ok (.iload 5, 2) := by decide +kernel
theorem d_W_law_754 : decode b_W_law 754 = .ok (.ifCond .ne 15, 3) := by decide +kernel
theorem d_W_law_757 : decode b_W_law 757 = .ok (.aload_n 3, 1) := by decide +kernel
theorem d_W_law_758 : decode b_W_law 758 = .ok (.iconst 0, 1) := by decide +kernel
theorem d_W_law_759 : decode b_W_law 759 = .ok (.laload, 1) := by decide +kernel
theorem d_W_law_760 : decode b_W_law 760 = .ok (.iload 6, 2) := by decide +kernel
theorem d_W_law_762 : decode b_W_law 762 = .ok (.i2l, 1) := by decide +kernel
theorem d_W_law_763 : decode b_W_law 763 = .ok (.lcmp, 1) := by decide +kernel
theorem d_W_law_764 : decode b_W_law 764 = .ok (.ifCond .eq 5, 3) := by decide +kernel
theorem d_W_law_767 : decode b_W_law 767 = .ok (.iconst 0, 1) := by decide +kernel
theorem d_W_law_768 : decode b_W_law 768 = .ok (.ireturn, 1) := by decide +kernel
theorem d_W_law_769 : decode b_W_law 769 = .ok (.goto 3, 3) := by decide +kernel
theorem d_W_law_772 : decode b_W_law 772 = .ok (.iinc 4 4, 3) := by decide +kernel
theorem d_W_law_775 : decode b_W_law 775 = .ok (.goto (-752), 3) := by decide +kernel
theorem d_W_law_778 : decode b_W_law 778 = .ok (.iconst 1, 1) := by decide +kernel
theorem d_W_law_779 : decode b_W_law 779 = .ok (.ireturn, 1) := by decide +kernel
end
section
/-! THE LAYOUT: cells by their codes, in the order in which the law's run makes them; 272 + 3 r is the rule r -/
def m_fts : List FieldType := [.int, .long, .object "RetentionRows$Rule", .object "RetentionRows$Unit", .byte, .boolean]
def sh (k : Nat) : Nat ⊕ (Nat × Nat × Nat) :=
  if k < 5 then (match k with
    | 0 => .inl 4
    | 1 => .inl 2
    | 2 => .inr (0, 40, 0)
    | 3 => .inr (2, 20, 2)
    | _ => .inr (3, 60, 2))
  else if k < 245 then (match (k - 5) % 4 with
    | 0 => .inl 3
    | 1 => .inr (0, 4, 0)
    | 2 => .inr (2, 4, 2)
    | _ => .inr (0, 4, 0))
  else if k < 272 then (match k - 245 with
    | 0 => .inl 0
    | 1 => .inr (0, 60, 0)
    | 2 => .inr (0, 60, 0)
    | 3 => .inr (0, 60, 0)
    | 4 => .inr (0, 60, 0)
    | 5 => .inl 5
    | 6 => .inr (4, 40, 0)
    | 7 => .inr (0, 20, 0)
    | 8 => .inr (0, 20, 0)
    | 9 => .inr (5, 20, 0)
    | 10 => .inr (0, 20, 0)
    | 11 => .inr (0, 120, 0)
    | 12 => .inr (0, 120, 0)
    | 13 => .inr (0, 240, 0)
    | 14 => .inr (0, 240, 0)
    | 15 => .inr (0, 60, 0)
    | 16 => .inr (0, 240, 0)
    | 26 => .inr (1, 1, 1)
    | _ => .inr (0, 60, 0))
  else (match (k - 272) % 3 with
    | 0 => .inl 1
    | _ => .inr (0, 5, 0))
def fk (ci : Nat) : List (Option Nat) := match ci with
  | 0 => [some 1, some 2, some 3, none]
  | 1 => [none, none, none, some 1, some 2, none, none]
  | 2 => [some 1, none, none, none, none, none]
  | 3 => [some 1, some 2, none, some 3, none, none, none, none, none]
  | 4 => [some 1, some 3, none, some 4, some 245, some 249, none]
  | _ => [none, some 1, none, none, none, some 2, some 3, some 4, some 5, some 6, some 7, some 8, some 9, some 10, some 11, some 12, some 13, some 14, some 15, some 16, none, some 17, none, some 18, some 19, some 20]
theorem sh_kd {k t n kd : Nat} (h : sh k = .inr (t, n, kd)) : kd ≤ 2 := by
  unfold sh at h
  split at h
  · split at h <;> first | (cases h; done) | (cases h; decide)
  · split at h
    · split at h <;> first | (cases h; done) | (cases h; decide)
    · split at h
      · split at h <;> first | (cases h; done) | (cases h; decide)
      · split at h <;> first | (cases h; done) | (cases h; decide)
theorem sh_u {i : Nat} (hi : i < 60) : sh (5 + 4 * i) = .inl 3 := by
  unfold sh
  rw [if_neg (by omega), if_pos (by omega), show (5 + 4 * i - 5) % 4 = 0 by omega]
  rfl
theorem sh_ue {i : Nat} (hi : i < 60) : sh (5 + 4 * i + 1) = .inr (0, 4, 0) := by
  unfold sh
  rw [if_neg (by omega), if_pos (by omega), show (5 + 4 * i + 1 - 5) % 4 = 1 by omega]
  rfl
theorem sh_ur {i : Nat} (hi : i < 60) : sh (5 + 4 * i + 2) = .inr (2, 4, 2) := by
  unfold sh
  rw [if_neg (by omega), if_pos (by omega), show (5 + 4 * i + 2 - 5) % 4 = 2 by omega]
  rfl
theorem sh_uh {i : Nat} (hi : i < 60) : sh (5 + 4 * i + 3) = .inr (0, 4, 0) := by
  unfold sh
  rw [if_neg (by omega), if_pos (by omega), show (5 + 4 * i + 3 - 5) % 4 = 3 by omega]
  rfl
theorem sh_r (r : Nat) : sh (272 + 3 * r) = .inl 1 := by
  unfold sh
  rw [if_neg (by omega), if_neg (by omega), if_neg (by omega), show (272 + 3 * r - 272) % 3 = 0 by omega]
  rfl
theorem sh_rd (r : Nat) : sh (272 + 3 * r + 1) = .inr (0, 5, 0) := by
  unfold sh
  rw [if_neg (by omega), if_neg (by omega), if_neg (by omega), show (272 + 3 * r + 1 - 272) % 3 = 1 by omega]
  rfl
theorem sh_ry (r : Nat) : sh (272 + 3 * r + 2) = .inr (0, 5, 0) := by
  unfold sh
  rw [if_neg (by omega), if_neg (by omega), if_neg (by omega), show (272 + 3 * r + 2 - 272) % 3 = 2 by omega]
  rfl
/-! the String constants, the one static that is read, the words that no method's list carries -/
def m_len : List Nat := [4, 4, 6, 5, 7, 8]
def m_byt : List (List Int32) := [[109, 97, 100, 101], [117, 115, 101, 100], [99, 108, 111, 115, 101, 100], [100, 101, 97, 116, 104], [100, 101, 115, 116, 114, 111, 121], [116, 114, 97, 110, 115, 102, 101, 114]]
def m_S (sa : Nat → Nat) (A : Nat → Prop) (U : State) : Prop := vk_S 6 m_len m_byt sa (fun i => sa (100 + i)) A U U.heap ∧ (vk_R R_T 68 "made" (sa 0) U ∧ vk_R R_T 70 "used" (sa 1) U ∧ vk_R R_T 72 "closed" (sa 2) U ∧ vk_R R_T 74 "death" (sa 3) U ∧ vk_R R_T 56 "destroy" (sa 4) U ∧ vk_R R_T 58 "transfer" (sa 5) U) ∧ va_Z "java/lang/String" "COMPACT_STRINGS" "Z" (.int 1) A U U.heap ∧ va_AO R_R U ∧ va_AO R_U U ∧ va_Nw (.methodLinkNest R_C 9 y_T_init R_C) U ∧ va_Nw (.methodLinkNest R_C 31 y_L_init R_C) U
theorem m_S.calling {sa : Nat → Nat} {A : Nat → Prop} {U : State} {g : JFrame} {mk : MethodId} {a : Array Value} (h : m_S sa A U) : m_S sa A (U.calling g mk a) := by
  obtain ⟨h1, ⟨r1, r2, r3, r4, r5, r6⟩, h3, h4, h5, h6, h7⟩ := h
  refine ⟨vk_S.moved (u := U) (Vm.Alike.refl U.vm) h1, ⟨vk_R.same rfl r1, vk_R.same rfl r2, vk_R.same rfl r3, vk_R.same rfl r4, vk_R.same rfl r5, vk_R.same rfl r6⟩, va_Z.moved (u := U) (Vm.Alike.refl U.vm) h3, va_AO.moved (u := U) (Vm.Alike.refl U.vm) h4, va_AO.moved (u := U) (Vm.Alike.refl U.vm) h5, va_Nw.same rfl rfl h6, va_Nw.same rfl rfl h7⟩
theorem m_S.at_ {sa : Nat → Nat} {A : Nat → Prop} {s U : State} {H : Heap} {locs : List Loc} (h : m_S sa A s) (hS : va_S A s.heap H locs) (hW : s.WarmedH U.vm) (hU : U.heap = H) : m_S sa A U := by
  obtain ⟨h1, ⟨r1, r2, r3, r4, r5, r6⟩, h3, h4, h5, h6, h7⟩ := h
  subst hU
  exact ⟨vk_S.moved hW.alike (h1.kept hS.2.1), ⟨r1.warm hW, r2.warm hW, r3.warm hW, r4.warm hW, r5.warm hW, r6.warm hW⟩, va_Z.moved hW.alike (h3.kept hS.2.1), va_AO.moved hW.alike h4, va_AO.moved hW.alike h5, va_Nw.warmM hW h6, va_Nw.warmM hW h7⟩
end
section
abbrev Mu : Type := Nat → Nat → Int32
def m_up (μ : Mu) (k j : Nat) (v : Int32) : Mu := fun a b => if a = k ∧ b = j then v else μ a b
theorem m_up_self (μ : Mu) (k j : Nat) (v : Int32) : m_up μ k j v k j = v := if_pos ⟨rfl, rfl⟩
theorem m_up_ne {μ : Mu} {k j a b : Nat} {v : Int32} (h : ¬ (a = k ∧ b = j)) : m_up μ k j v a b = μ a b := if_neg h
theorem m_up_row {μ : Mu} {k j a : Nat} {v : Int32} (h : a ≠ k) : m_up μ k j v a = μ a := funext fun b => if_neg (fun q => h q.1)
theorem m_up_at (μ : Mu) (k j : Nat) (v : Int32) : m_up μ k j v k = upd (μ k) j v := by
  funext b
  simp [m_up, upd]
/-- an abstract value's machine value: a code's address -/
def m_cv (ad : Nat → Nat) (v : Value) : Value := match v with
  | .ref k => .ref (ad k)
  | .int x => .int x
  | .null => .null
  | .long x => .long x
  | .float x => .float x
  | .double x => .double x
  | .retAddr x => .retAddr x
theorem m_cv_cat (ad : Nat → Nat) (v : Value) : (m_cv ad v).category = v.category := by cases v <;> rfl
/-- a reference kept as an int: 0 is null, n + 1 is the cell of code n -/
def m_ov (ad : Nat → Nat) (x : Int32) : Option Nat := if x = 0 then none else some (ad (x.toNatClampNeg - 1))
def m_rv (x : Int32) : Value := if x = 0 then .null else .ref (x.toNatClampNeg - 1)
theorem m_cv_rv (ad : Nat → Nat) (x : Int32) : m_cv ad (m_rv x) = va_rf (m_ov ad x) := by
  unfold m_rv m_ov
  by_cases h : x = 0
  · rw [if_pos h, if_pos h]; rfl
  · rw [if_neg h, if_neg h]; rfl
theorem m_rv_0 : m_rv 0 = .null := rfl
theorem m_rv_nI {n : Nat} (h : n + 1 < 2 ^ 31) : m_rv (nI (n + 1)) = .ref n := by
  unfold m_rv
  rw [if_neg (nI_ne0 (Nat.succ_pos n) h), nI_clamp h]
  rfl
def m_fld (ad : Nat → Nat) (b : Bool) (k : Nat) (f : Option Nat) (x : Int32) : Value := match f with
  | none => .int x
  | some o => if b = true then .ref (ad (k + o)) else .null
def m_fv (b : Bool) (k : Nat) (f : Option Nat) (x : Int32) : Value := match f with
  | none => .int x
  | some o => if b = true then .ref (k + o) else .null
theorem m_cv_fv (ad : Nat → Nat) (b : Bool) (k : Nat) (f : Option Nat) (x : Int32) : m_cv ad (m_fv b k f x) = m_fld ad b k f x := by
  cases f with
  | none => rfl
  | some o => cases b <;> rfl
def m_obj (ad : Nat → Nat) (b : Nat → Bool) (k : Nat) (fl : List (Option Nat)) (f : Nat → Int32) : List Value := fl.mapIdx (fun j o => m_fld ad (b j) k o (f j))
theorem m_obj_at {ad : Nat → Nat} {b : Nat → Bool} {k j : Nat} {fl : List (Option Nat)} {f : Nat → Int32} {o : Option Nat} (h : fl[j]? = some o) : (m_obj ad b k fl f)[j]? = some (m_fld ad (b j) k o (f j)) := by
  simp [m_obj, List.getElem?_mapIdx, h]
theorem m_obj_len {ad : Nat → Nat} {b : Nat → Bool} {k : Nat} {fl : List (Option Nat)} {f : Nat → Int32} : (m_obj ad b k fl f).length = fl.length := by simp [m_obj]
theorem m_obj_set {ad : Nat → Nat} {b b2 : Nat → Bool} {k j : Nat} {fl : List (Option Nat)} {f f2 : Nat → Int32} {o : Option Nat} {v : Value} (h : fl[j]? = some o) (hv : m_fld ad (b2 j) k o (f2 j) = v) (hb : ∀ i, i ≠ j → b2 i = b i) (hf : ∀ i, i ≠ j → f2 i = f i) : m_obj ad b2 k fl f2 = (m_obj ad b k fl f).set j v := by
  apply List.ext_getElem?
  intro i
  have hl : j < fl.length := (List.getElem?_eq_some_iff.mp h).1
  by_cases hi : i = j
  · subst hi
    rw [m_obj_at h, List.getElem?_set_self (by rw [m_obj_len]; exact hl), hv]
  · rw [List.getElem?_set_ne (Ne.symm hi)]
    simp only [m_obj, List.getElem?_mapIdx]
    rw [hb i hi, hf i hi]
def m_arr (ad : Nat → Nat) (kd : Nat) (f : Nat → Int32) : (Nat → Int32) ⊕ (Nat → Int64) ⊕ (Nat → UInt32) ⊕ (Nat → UInt64) ⊕ (Nat → Option Nat) := if kd = 0 then .inl f else if kd = 1 then .inr (.inl (fun j => (f j).toInt64)) else .inr (.inr (.inr (.inr (fun j => m_ov ad (f j)))))
def m_pic (cA : Nat → ClassId) (ad : Nat → Nat) (β : Nat → Nat → Bool) (μ : Mu) (k : Nat) : va_E := match sh k with
  | .inl ci => .inr (ci, m_obj ad (β k) k (fk ci) (μ k))
  | .inr q => .inl (cA q.1, q.2.1, m_arr ad q.2.2 (μ k))
theorem m_pic_obj {cA : Nat → ClassId} {ad : Nat → Nat} {β : Nat → Nat → Bool} {μ : Mu} {k ci : Nat} (h : sh k = .inl ci) : m_pic cA ad β μ k = .inr (ci, m_obj ad (β k) k (fk ci) (μ k)) := by
  unfold m_pic
  rw [h]
theorem m_pic_arr {cA : Nat → ClassId} {ad : Nat → Nat} {β : Nat → Nat → Bool} {μ : Mu} {k t n kd : Nat} (h : sh k = .inr (t, n, kd)) : m_pic cA ad β μ k = .inl (cA t, n, m_arr ad kd (μ k)) := by
  unfold m_pic
  rw [h]
theorem m_pic_congr {cA : Nat → ClassId} {ad : Nat → Nat} {β β2 : Nat → Nat → Bool} {μ μ2 : Mu} {k : Nat} (hb : β2 k = β k) (hm : μ2 k = μ k) : m_pic cA ad β2 μ2 k = m_pic cA ad β μ k := by
  unfold m_pic
  rw [hb, hm]
def m_ws (cA : Nat → ClassId) (ad : Nat → Nat) (β : Nat → Nat → Bool) (μ : Mu) (N : Nat) : va_W := (List.range N).map (fun k => (ad k, m_pic cA ad β μ k))
theorem m_ws_at {cA : Nat → ClassId} {ad : Nat → Nat} {β : Nat → Nat → Bool} {μ : Mu} {N k : Nat} (hk : k < N) : (m_ws cA ad β μ N)[k]? = some (ad k, m_pic cA ad β μ k) := by
  simp [m_ws, hk]
theorem m_ws_len {cA : Nat → ClassId} {ad : Nat → Nat} {β : Nat → Nat → Bool} {μ : Mu} {N : Nat} : (m_ws cA ad β μ N).length = N := by simp [m_ws]
theorem m_ws_get {cA : Nat → ClassId} {ad : Nat → Nat} {β : Nat → Nat → Bool} {μ : Mu} {N i : Nat} {q : Nat × va_E} (h : (m_ws cA ad β μ N)[i]? = some q) : i < N ∧ q = (ad i, m_pic cA ad β μ i) := by
  have hi : i < N := by
    have h1 := (List.getElem?_eq_some_iff.mp h).1
    rw [m_ws_len] at h1
    exact h1
  rw [m_ws_at hi] at h
  exact ⟨hi, (Option.some.inj h).symm⟩
theorem m_ws_set {cA : Nat → ClassId} {ad : Nat → Nat} {β β2 : Nat → Nat → Bool} {μ μ2 : Mu} {N k : Nat} {x : va_E} (he : m_pic cA ad β2 μ2 k = x) (ho : ∀ j, j ≠ k → m_pic cA ad β2 μ2 j = m_pic cA ad β μ j) : (m_ws cA ad β μ N).set k (ad k, x) = m_ws cA ad β2 μ2 N := by
  apply List.ext_getElem?
  intro i
  by_cases hi : i < N
  · by_cases hk : i = k
    · subst hk
      rw [List.getElem?_set_self (by rw [m_ws_len]; exact hi), m_ws_at hi, he]
    · rw [List.getElem?_set_ne (Ne.symm hk), m_ws_at hi, m_ws_at hi, ho i hk]
  · rw [List.getElem?_eq_none (by rw [List.length_set, m_ws_len]; omega), List.getElem?_eq_none (by rw [m_ws_len]; omega)]
/-- references that are kept lead to cells that are there -/
def m_wf (N : Nat) (β : Nat → Nat → Bool) (μ : Mu) : Prop := (∀ k t n, k < N → sh k = .inr (t, n, 2) → ∀ j, μ k j = 0 ∨ (μ k j).toNatClampNeg - 1 < N) ∧ ∀ k ci j o, k < N → sh k = .inl ci → (fk ci)[j]? = some (some o) → β k j = true → k + o < N
def Mem (D : va_G) (cA : Nat → ClassId) (ad : Nat → Nat) (N : Nat) (β : Nat → Nat → Bool) (μ : Mu) (H : Heap) : Prop := va_P D vwCl (m_ws cA ad β μ N) H ∧ (∀ j k, j < N → k < N → ad j = ad k → j = k) ∧ m_wf N β μ
theorem Mem.D {D : va_G} {cA : Nat → ClassId} {ad : Nat → Nat} {N : Nat} {β : Nat → Nat → Bool} {μ : Mu} {H : Heap} {A : Nat → Prop} (h : Mem D cA ad N β μ H) (hA : ∀ k, k < N → A (ad k)) : va_D A (m_ws cA ad β μ N) := by
  refine ⟨fun i j p q hi hj e => ?_, fun k q hk => ?_⟩
  · obtain ⟨h1, rfl⟩ := m_ws_get hi
    obtain ⟨h2, rfl⟩ := m_ws_get hj
    exact h.2.1 i j h1 h2 e
  · obtain ⟨h1, rfl⟩ := m_ws_get hk
    exact hA k h1
theorem Mem.congr {D : va_G} {cA : Nat → ClassId} {ad : Nat → Nat} {N : Nat} {β β2 : Nat → Nat → Bool} {μ : Mu} {H : Heap} (h : Mem D cA ad N β μ H) (hb : ∀ k, k < N → β2 k = β k) : Mem D cA ad N β2 μ H := by
  refine ⟨fun k q hk => ?_, h.2.1, h.2.2.1, fun k ci j o hk hs hf ht => h.2.2.2 k ci j o hk hs hf (by rw [← hb k hk]; exact ht)⟩
  obtain ⟨h1, rfl⟩ := m_ws_get hk
  rw [m_pic_congr (hb k h1) rfl]
  exact h.1 k _ (m_ws_at h1)
theorem Mem.kept {D : va_G} {cA : Nat → ClassId} {ad : Nat → Nat} {N : Nat} {β : Nat → Nat → Bool} {μ : Mu} {H H1 : Heap} (h : Mem D cA ad N β μ H) (hq : ∀ k, k < N → H1[ad k]? = H[ad k]?) : Mem D cA ad N β μ H1 :=
  ⟨h.1.kept (fun k q hk => by obtain ⟨h1, rfl⟩ := m_ws_get hk; exact hq k h1), h.2⟩
theorem Mem.lt {D : va_G} {cA : Nat → ClassId} {ad : Nat → Nat} {N : Nat} {β : Nat → Nat → Bool} {μ : Mu} {H : Heap} (h : Mem D cA ad N β μ H) {k : Nat} (hk : k < N) : ad k < H.size := (h.1 k _ (m_ws_at hk)).lt
/-- the classes of the arrays, by the kinds of the layout -/
def m_tys (cA : Nat → ClassId) : List (ClassId × FieldType) := m_fts.mapIdx (fun t ty => (cA t, ty))
theorem m_tys_at {cA : Nat → ClassId} {t : Nat} {ty : FieldType} (h : m_fts[t]? = some ty) : (m_tys cA)[t]? = some (cA t, ty) := by
  simp [m_tys, List.getElem?_mapIdx, h]
def m_lv (ad : Nat → Nat) (lv : List (Nat × Value)) : List (Nat × Value) := lv.map (fun q => (q.1, m_cv ad q.2))
theorem m_lv_at {ad : Nat → Nat} {lv : List (Nat × Value)} {k i : Nat} {v : Value} (h : lv[k]? = some (i, v)) : (m_lv ad lv)[k]? = some (i, m_cv ad v) := by simp [m_lv, h]
def m_st (lv : List (Nat × Value)) (i : Nat) : List (Nat × Value) := lv.filter (fun q => !(q.1 == i) && !(q.1 + 1 == i && q.2.category == 2))
theorem m_lv_st (ad : Nat → Nat) (lv : List (Nat × Value)) (i : Nat) : (m_lv ad lv).filter (fun q => !(q.1 == i) && !(q.1 + 1 == i && q.2.category == 2)) = m_lv ad (m_st lv i) := by
  unfold m_lv m_st
  rw [List.filter_map]
  congr 1
  apply List.filter_congr
  intro q _
  simp [m_cv_cat]
abbrev GTy : Type := Program × Launch × Env × State × MethodId × Array Value × List Frame × Method × Code × (State → Prop) × va_G × (Nat → ClassId) × (Nat → Nat) × (Nat → Prop)
abbrev ATy : Type := Nat × Nat × (Nat → Nat) × Nat × (Nat → Nat → Bool)
/-- the codes from SB on stand for cells that nobody writes: constants, the script -/
abbrev SB : Nat := 1000000
/-- from every machine state that the abstract state pictures, the machine comes to Q -/
def AW (G : GTy) (R : Room) (nL : Nat) (α : ATy) (pc : Nat) (lv : List (Nat × Value)) (st : List Value) (μ : Mu) : Prop := match G, α with
  | (p, l, e, s, m, args, below, meth, c, Q, D, cA, sa, A), (cells, slots, ad, N, β) => ∀ (H : Heap) (locs : List Loc) (L : Array Slot), Mem D cA ad N β μ H → ((∀ k, k < N → A (ad k)) ∧ ∀ i, ad (SB + i) = sa i) → va_S A s.heap H locs → lv_has L nL (m_lv ad lv) → W p l e R s m args below meth c H locs cells slots Q (F0 m pc L (st.map (m_cv ad)))
/-- what holds in a method's body -/
def Cx (G : GTy) (nL : Nat) (cc : ByteArray) (own : String) (Ts : List Cond) : Prop := match G with
  | (p, l, e, s, m, args, below, meth, c, Q, D, cA, sa, A) => p.tables.exec = Jvm.exec ∧ c.code = cc ∧ c.maxLocals = nL ∧ s.vm.findClass own = some m.cls ∧ (∀ w ∈ Ts, w.before args s = true) ∧ va_K D vwCl (m_tys cA) s ∧ m_S sa A s ∧ meth.locks = false
section AWrows
variable {G : GTy} {R : Room} {nL cells slots : Nat} {ad : Nat → Nat} {N : Nat} {β : Nat → Nat → Bool} {pc : Nat} {lv lv2 : List (Nat × Value)} {st : List Value} {μ : Mu} {cc : ByteArray} {own : String} {Ts : List Cond}
theorem AW.iconst (X : Cx G nL cc own Ts) {n : Int} {v : Int32} (hv : Int32.ofInt n = v) (hd : decode cc pc = .ok (.iconst n, 1)) (k : AW G R nL (cells, slots, ad, N, β) (pc + 1) lv (.int v :: st) μ) : AW G R nL (cells, slots, ad, N, β) pc lv (st) μ := by
  obtain ⟨p, l, e, s, m, args, below, meth, c, Q, D, cA, sa, A⟩ := G
  obtain ⟨hx, hb, hml, hown, hts, hK, hSt, hlk⟩ := X
  exact fun H locs L hM hA hS hL => lv_iconst hx hb hd hv (k H locs L hM hA hS hL)
theorem AW.bipush (X : Cx G nL cc own Ts) {n : Int} {v : Int32} (hv : (Int8.ofInt n).toInt32 = v) (hd : decode cc pc = .ok (.bipush n, 2)) (k : AW G R nL (cells, slots, ad, N, β) (pc + 2) lv (.int v :: st) μ) : AW G R nL (cells, slots, ad, N, β) pc lv (st) μ := by
  obtain ⟨p, l, e, s, m, args, below, meth, c, Q, D, cA, sa, A⟩ := G
  obtain ⟨hx, hb, hml, hown, hts, hK, hSt, hlk⟩ := X
  exact fun H locs L hM hA hS hL => lv_bipush hx hb hd hv (k H locs L hM hA hS hL)
theorem AW.sipush (X : Cx G nL cc own Ts) {n : Int} {v : Int32} (hv : (Int16.ofInt n).toInt32 = v) (hd : decode cc pc = .ok (.sipush n, 3)) (k : AW G R nL (cells, slots, ad, N, β) (pc + 3) lv (.int v :: st) μ) : AW G R nL (cells, slots, ad, N, β) pc lv (st) μ := by
  obtain ⟨p, l, e, s, m, args, below, meth, c, Q, D, cA, sa, A⟩ := G
  obtain ⟨hx, hb, hml, hown, hts, hK, hSt, hlk⟩ := X
  exact fun H locs L hM hA hS hL => lv_sipush hx hb hd hv (k H locs L hM hA hS hL)
theorem AW.ldc (X : Cx G nL cc own Ts) {index : Nat} {v : Int32} (hw : Cond.constant own index v ∈ Ts) (hd : decode cc pc = .ok (.ldc index, 2)) (k : AW G R nL (cells, slots, ad, N, β) (pc + 2) lv (.int v :: st) μ) : AW G R nL (cells, slots, ad, N, β) pc lv (st) μ := by
  obtain ⟨p, l, e, s, m, args, below, meth, c, Q, D, cA, sa, A⟩ := G
  obtain ⟨hx, hb, hml, hown, hts, hK, hSt, hlk⟩ := X
  exact fun H locs L hM hA hS hL => lv_ldc hx hb hown (hts _ hw) hd (k H locs L hM hA hS hL)
theorem AW.aconst_null (X : Cx G nL cc own Ts)  (hd : decode cc pc = .ok (.aconst_null, 1)) (k : AW G R nL (cells, slots, ad, N, β) (pc + 1) lv (.null :: st) μ) : AW G R nL (cells, slots, ad, N, β) pc lv (st) μ := by
  obtain ⟨p, l, e, s, m, args, below, meth, c, Q, D, cA, sa, A⟩ := G
  obtain ⟨hx, hb, hml, hown, hts, hK, hSt, hlk⟩ := X
  exact fun H locs L hM hA hS hL => lv_null hx hb hd (k H locs L hM hA hS hL)
theorem AW.iload_n (X : Cx G nL cc own Ts) {kk : Fin 4} {i : Nat} {x : Int32} (q : Nat) (hi : (kk : Nat) = i) (hl : lv[q]? = some (i, .int x)) (hd : decode cc pc = .ok (.iload_n kk, 1)) (k : AW G R nL (cells, slots, ad, N, β) (pc + 1) lv (.int x :: st) μ) : AW G R nL (cells, slots, ad, N, β) pc lv (st) μ := by
  obtain ⟨p, l, e, s, m, args, below, meth, c, Q, D, cA, sa, A⟩ := G
  obtain ⟨hx, hb, hml, hown, hts, hK, hSt, hlk⟩ := X
  exact fun H locs L hM hA hS hL => lv_iload_n hx hb hd hi (lv_at hL q (m_lv_at hl)) (k H locs L hM hA hS hL)
theorem AW.iload (X : Cx G nL cc own Ts) {i : Nat} {x : Int32} (q : Nat) (hl : lv[q]? = some (i, .int x)) (hd : decode cc pc = .ok (.iload i, 2)) (k : AW G R nL (cells, slots, ad, N, β) (pc + 2) lv (.int x :: st) μ) : AW G R nL (cells, slots, ad, N, β) pc lv (st) μ := by
  obtain ⟨p, l, e, s, m, args, below, meth, c, Q, D, cA, sa, A⟩ := G
  obtain ⟨hx, hb, hml, hown, hts, hK, hSt, hlk⟩ := X
  exact fun H locs L hM hA hS hL => lv_iload hx hb hd (lv_at hL q (m_lv_at hl)) (k H locs L hM hA hS hL)
theorem AW.aload_n (X : Cx G nL cc own Ts) {kk : Fin 4} {i : Nat} {x : Nat} (q : Nat) (hi : (kk : Nat) = i) (hl : lv[q]? = some (i, .ref x)) (hd : decode cc pc = .ok (.aload_n kk, 1)) (k : AW G R nL (cells, slots, ad, N, β) (pc + 1) lv (.ref x :: st) μ) : AW G R nL (cells, slots, ad, N, β) pc lv (st) μ := by
  obtain ⟨p, l, e, s, m, args, below, meth, c, Q, D, cA, sa, A⟩ := G
  obtain ⟨hx, hb, hml, hown, hts, hK, hSt, hlk⟩ := X
  exact fun H locs L hM hA hS hL => lv_aload_n hx hb hd hi (lv_at hL q (m_lv_at hl)) (k H locs L hM hA hS hL)
theorem AW.aload (X : Cx G nL cc own Ts) {i : Nat} {x : Nat} (q : Nat) (hl : lv[q]? = some (i, .ref x)) (hd : decode cc pc = .ok (.aload i, 2)) (k : AW G R nL (cells, slots, ad, N, β) (pc + 2) lv (.ref x :: st) μ) : AW G R nL (cells, slots, ad, N, β) pc lv (st) μ := by
  obtain ⟨p, l, e, s, m, args, below, meth, c, Q, D, cA, sa, A⟩ := G
  obtain ⟨hx, hb, hml, hown, hts, hK, hSt, hlk⟩ := X
  exact fun H locs L hM hA hS hL => lv_aload hx hb hd (lv_at hL q (m_lv_at hl)) (k H locs L hM hA hS hL)
theorem AW.aload_nN (X : Cx G nL cc own Ts) {kk : Fin 4} {i : Nat} (q : Nat) (hi : (kk : Nat) = i) (hl : lv[q]? = some (i, .null)) (hd : decode cc pc = .ok (.aload_n kk, 1)) (k : AW G R nL (cells, slots, ad, N, β) (pc + 1) lv (.null :: st) μ) : AW G R nL (cells, slots, ad, N, β) pc lv (st) μ := by
  obtain ⟨p, l, e, s, m, args, below, meth, c, Q, D, cA, sa, A⟩ := G
  obtain ⟨hx, hb, hml, hown, hts, hK, hSt, hlk⟩ := X
  exact fun H locs L hM hA hS hL => lv_aload_nN hx hb hd hi (lv_at hL q (m_lv_at hl)) (k H locs L hM hA hS hL)
theorem AW.aloadN (X : Cx G nL cc own Ts) {i : Nat} (q : Nat) (hl : lv[q]? = some (i, .null)) (hd : decode cc pc = .ok (.aload i, 2)) (k : AW G R nL (cells, slots, ad, N, β) (pc + 2) lv (.null :: st) μ) : AW G R nL (cells, slots, ad, N, β) pc lv (st) μ := by
  obtain ⟨p, l, e, s, m, args, below, meth, c, Q, D, cA, sa, A⟩ := G
  obtain ⟨hx, hb, hml, hown, hts, hK, hSt, hlk⟩ := X
  exact fun H locs L hM hA hS hL => lv_aloadN hx hb hd (lv_at hL q (m_lv_at hl)) (k H locs L hM hA hS hL)
theorem AW.iadd (X : Cx G nL cc own Ts) {x y : Int32} (hd : decode cc pc = .ok (.iadd, 1)) (k : AW G R nL (cells, slots, ad, N, β) (pc + 1) lv (.int (x + y) :: st) μ) : AW G R nL (cells, slots, ad, N, β) pc lv (.int y :: .int x :: st) μ := by
  obtain ⟨p, l, e, s, m, args, below, meth, c, Q, D, cA, sa, A⟩ := G
  obtain ⟨hx, hb, hml, hown, hts, hK, hSt, hlk⟩ := X
  exact fun H locs L hM hA hS hL => lv_iadd hx hb hd (k H locs L hM hA hS hL)
theorem AW.isub (X : Cx G nL cc own Ts) {x y : Int32} (hd : decode cc pc = .ok (.isub, 1)) (k : AW G R nL (cells, slots, ad, N, β) (pc + 1) lv (.int (x - y) :: st) μ) : AW G R nL (cells, slots, ad, N, β) pc lv (.int y :: .int x :: st) μ := by
  obtain ⟨p, l, e, s, m, args, below, meth, c, Q, D, cA, sa, A⟩ := G
  obtain ⟨hx, hb, hml, hown, hts, hK, hSt, hlk⟩ := X
  exact fun H locs L hM hA hS hL => lv_isub hx hb hd (k H locs L hM hA hS hL)
theorem AW.imul (X : Cx G nL cc own Ts) {x y : Int32} (hd : decode cc pc = .ok (.imul, 1)) (k : AW G R nL (cells, slots, ad, N, β) (pc + 1) lv (.int (x * y) :: st) μ) : AW G R nL (cells, slots, ad, N, β) pc lv (.int y :: .int x :: st) μ := by
  obtain ⟨p, l, e, s, m, args, below, meth, c, Q, D, cA, sa, A⟩ := G
  obtain ⟨hx, hb, hml, hown, hts, hK, hSt, hlk⟩ := X
  exact fun H locs L hM hA hS hL => lv_imul hx hb hd (k H locs L hM hA hS hL)
theorem AW.iand (X : Cx G nL cc own Ts) {x y : Int32} (hd : decode cc pc = .ok (.iand, 1)) (k : AW G R nL (cells, slots, ad, N, β) (pc + 1) lv (.int (x &&& y) :: st) μ) : AW G R nL (cells, slots, ad, N, β) pc lv (.int y :: .int x :: st) μ := by
  obtain ⟨p, l, e, s, m, args, below, meth, c, Q, D, cA, sa, A⟩ := G
  obtain ⟨hx, hb, hml, hown, hts, hK, hSt, hlk⟩ := X
  exact fun H locs L hM hA hS hL => lv_iand hx hb hd (k H locs L hM hA hS hL)
theorem AW.dup (X : Cx G nL cc own Ts) {v : Value} (hv : v.category = 1) (hd : decode cc pc = .ok (.dup, 1)) (k : AW G R nL (cells, slots, ad, N, β) (pc + 1) lv (v :: v :: st) μ) : AW G R nL (cells, slots, ad, N, β) pc lv (v :: st) μ := by
  obtain ⟨p, l, e, s, m, args, below, meth, c, Q, D, cA, sa, A⟩ := G
  obtain ⟨hx, hb, hml, hown, hts, hK, hSt, hlk⟩ := X
  exact fun H locs L hM hA hS hL => lv_dup hx hb hd ((m_cv_cat ad v).trans hv) (k H locs L hM hA hS hL)
theorem AW.pop (X : Cx G nL cc own Ts) {v : Value} (hv : v.category = 1) (hd : decode cc pc = .ok (.pop, 1)) (k : AW G R nL (cells, slots, ad, N, β) (pc + 1) lv (st) μ) : AW G R nL (cells, slots, ad, N, β) pc lv (v :: st) μ := by
  obtain ⟨p, l, e, s, m, args, below, meth, c, Q, D, cA, sa, A⟩ := G
  obtain ⟨hx, hb, hml, hown, hts, hK, hSt, hlk⟩ := X
  exact fun H locs L hM hA hS hL => lv_pop hx hb hd ((m_cv_cat ad v).trans hv) (k H locs L hM hA hS hL)
theorem AW.dup_x1 (X : Cx G nL cc own Ts) {v w : Value} (hv : v.category = 1) (hw : w.category = 1) (hd : decode cc pc = .ok (.dup_x1, 1)) (k : AW G R nL (cells, slots, ad, N, β) (pc + 1) lv (v :: w :: v :: st) μ) : AW G R nL (cells, slots, ad, N, β) pc lv (v :: w :: st) μ := by
  obtain ⟨p, l, e, s, m, args, below, meth, c, Q, D, cA, sa, A⟩ := G
  obtain ⟨hx, hb, hml, hown, hts, hK, hSt, hlk⟩ := X
  exact fun H locs L hM hA hS hL => lv_dup_x1 hx hb hd ((m_cv_cat ad v).trans hv) ((m_cv_cat ad w).trans hw) (k H locs L hM hA hS hL)
theorem AW.i2b (X : Cx G nL cc own Ts) {x : Int32} (hd : decode cc pc = .ok (.i2b, 1)) (k : AW G R nL (cells, slots, ad, N, β) (pc + 1) lv (.int x.toInt8.toInt32 :: st) μ) : AW G R nL (cells, slots, ad, N, β) pc lv (.int x :: st) μ := by
  obtain ⟨p, l, e, s, m, args, below, meth, c, Q, D, cA, sa, A⟩ := G
  obtain ⟨hx, hb, hml, hown, hts, hK, hSt, hlk⟩ := X
  exact fun H locs L hM hA hS hL => lv_i2b hx hb hd rfl (k H locs L hM hA hS hL)
theorem AW.i2c (X : Cx G nL cc own Ts) {x : Int32} (hd : decode cc pc = .ok (.i2c, 1)) (k : AW G R nL (cells, slots, ad, N, β) (pc + 1) lv (.int (x.toUInt32 % 65536).toInt32 :: st) μ) : AW G R nL (cells, slots, ad, N, β) pc lv (.int x :: st) μ := by
  obtain ⟨p, l, e, s, m, args, below, meth, c, Q, D, cA, sa, A⟩ := G
  obtain ⟨hx, hb, hml, hown, hts, hK, hSt, hlk⟩ := X
  exact fun H locs L hM hA hS hL => lv_i2c hx hb hd rfl (k H locs L hM hA hS hL)
theorem AW.ishr (X : Cx G nL cc own Ts) {x y : Int32} (hd : decode cc pc = .ok (.ishr, 1)) (k : AW G R nL (cells, slots, ad, N, β) (pc + 1) lv (.int (x >>> (y &&& 31)) :: st) μ) : AW G R nL (cells, slots, ad, N, β) pc lv (.int y :: .int x :: st) μ := by
  obtain ⟨p, l, e, s, m, args, below, meth, c, Q, D, cA, sa, A⟩ := G
  obtain ⟨hx, hb, hml, hown, hts, hK, hSt, hlk⟩ := X
  exact fun H locs L hM hA hS hL => lv_ishr hx hb hd (k H locs L hM hA hS hL)
theorem AW.lconst (X : Cx G nL cc own Ts) {n : Fin 2} {v : Int64} (hv : Int64.ofNat (n : Nat) = v) (hd : decode cc pc = .ok (.lconst n, 1)) (k : AW G R nL (cells, slots, ad, N, β) (pc + 1) lv (.long v :: st) μ) : AW G R nL (cells, slots, ad, N, β) pc lv (st) μ := by
  obtain ⟨p, l, e, s, m, args, below, meth, c, Q, D, cA, sa, A⟩ := G
  obtain ⟨hx, hb, hml, hown, hts, hK, hSt, hlk⟩ := X
  exact fun H locs L hM hA hS hL => lv_lconst hx hb hd hv (k H locs L hM hA hS hL)
theorem AW.ldc2 (X : Cx G nL cc own Ts) {index : Nat} {v : Int64} (hw : Cond.constantLong own index v ∈ Ts) (hd : decode cc pc = .ok (.ldc2_w index, 3)) (k : AW G R nL (cells, slots, ad, N, β) (pc + 3) lv (.long v :: st) μ) : AW G R nL (cells, slots, ad, N, β) pc lv (st) μ := by
  obtain ⟨p, l, e, s, m, args, below, meth, c, Q, D, cA, sa, A⟩ := G
  obtain ⟨hx, hb, hml, hown, hts, hK, hSt, hlk⟩ := X
  exact fun H locs L hM hA hS hL => lv_ldc2 hx hb hown (hts _ hw) hd (k H locs L hM hA hS hL)
theorem AW.lload_n (X : Cx G nL cc own Ts) {kk : Fin 4} {i : Nat} {x : Int64} (q : Nat) (hi : (kk : Nat) = i) (hl : lv[q]? = some (i, .long x)) (hd : decode cc pc = .ok (.lload_n kk, 1)) (k : AW G R nL (cells, slots, ad, N, β) (pc + 1) lv (.long x :: st) μ) : AW G R nL (cells, slots, ad, N, β) pc lv (st) μ := by
  obtain ⟨p, l, e, s, m, args, below, meth, c, Q, D, cA, sa, A⟩ := G
  obtain ⟨hx, hb, hml, hown, hts, hK, hSt, hlk⟩ := X
  exact fun H locs L hM hA hS hL => lv_lload_n hx hb hd hi (lv_at hL q (m_lv_at hl)) (k H locs L hM hA hS hL)
theorem AW.ladd (X : Cx G nL cc own Ts) {x y : Int64} (hd : decode cc pc = .ok (.ladd, 1)) (k : AW G R nL (cells, slots, ad, N, β) (pc + 1) lv (.long (x + y) :: st) μ) : AW G R nL (cells, slots, ad, N, β) pc lv (.long y :: .long x :: st) μ := by
  obtain ⟨p, l, e, s, m, args, below, meth, c, Q, D, cA, sa, A⟩ := G
  obtain ⟨hx, hb, hml, hown, hts, hK, hSt, hlk⟩ := X
  exact fun H locs L hM hA hS hL => lv_ladd hx hb hd (k H locs L hM hA hS hL)
theorem AW.lsub (X : Cx G nL cc own Ts) {x y : Int64} (hd : decode cc pc = .ok (.lsub, 1)) (k : AW G R nL (cells, slots, ad, N, β) (pc + 1) lv (.long (x - y) :: st) μ) : AW G R nL (cells, slots, ad, N, β) pc lv (.long y :: .long x :: st) μ := by
  obtain ⟨p, l, e, s, m, args, below, meth, c, Q, D, cA, sa, A⟩ := G
  obtain ⟨hx, hb, hml, hown, hts, hK, hSt, hlk⟩ := X
  exact fun H locs L hM hA hS hL => lv_lsub hx hb hd (k H locs L hM hA hS hL)
theorem AW.lmul (X : Cx G nL cc own Ts) {x y : Int64} (hd : decode cc pc = .ok (.lmul, 1)) (k : AW G R nL (cells, slots, ad, N, β) (pc + 1) lv (.long (x * y) :: st) μ) : AW G R nL (cells, slots, ad, N, β) pc lv (.long y :: .long x :: st) μ := by
  obtain ⟨p, l, e, s, m, args, below, meth, c, Q, D, cA, sa, A⟩ := G
  obtain ⟨hx, hb, hml, hown, hts, hK, hSt, hlk⟩ := X
  exact fun H locs L hM hA hS hL => lv_lmul hx hb hd (k H locs L hM hA hS hL)
theorem AW.lcmp (X : Cx G nL cc own Ts) {x y : Int64} (hd : decode cc pc = .ok (.lcmp, 1)) (k : AW G R nL (cells, slots, ad, N, β) (pc + 1) lv (.int (lg_cmp x y) :: st) μ) : AW G R nL (cells, slots, ad, N, β) pc lv (.long y :: .long x :: st) μ := by
  obtain ⟨p, l, e, s, m, args, below, meth, c, Q, D, cA, sa, A⟩ := G
  obtain ⟨hx, hb, hml, hown, hts, hK, hSt, hlk⟩ := X
  exact fun H locs L hM hA hS hL => W.lcmp hx hb hd (k H locs L hM hA hS hL)
theorem AW.dup2 (X : Cx G nL cc own Ts) {v w : Value} (hv : v.category = 1) (hw : w.category = 1) (hd : decode cc pc = .ok (.dup2, 1)) (k : AW G R nL (cells, slots, ad, N, β) (pc + 1) lv (v :: w :: v :: w :: st) μ) : AW G R nL (cells, slots, ad, N, β) pc lv (v :: w :: st) μ := by
  obtain ⟨p, l, e, s, m, args, below, meth, c, Q, D, cA, sa, A⟩ := G
  obtain ⟨hx, hb, hml, hown, hts, hK, hSt, hlk⟩ := X
  exact fun H locs L hM hA hS hL => lv_dup2_11 hx hb hd ((m_cv_cat ad v).trans hv) ((m_cv_cat ad w).trans hw) (k H locs L hM hA hS hL)
theorem AW.i2l (X : Cx G nL cc own Ts) {x : Int32} (hd : decode cc pc = .ok (.i2l, 1)) (k : AW G R nL (cells, slots, ad, N, β) (pc + 1) lv (.long x.toInt64 :: st) μ) : AW G R nL (cells, slots, ad, N, β) pc lv (.int x :: st) μ := by
  obtain ⟨p, l, e, s, m, args, below, meth, c, Q, D, cA, sa, A⟩ := G
  obtain ⟨hx, hb, hml, hown, hts, hK, hSt, hlk⟩ := X
  exact fun H locs L hM hA hS hL => lv_i2l hx hb hd rfl (k H locs L hM hA hS hL)
def m_st2 (lv : List (Nat × Value)) (i : Nat) : List (Nat × Value) := lv.filter (fun q => !(q.1 == i) && (!(q.1 == i + 1) && !(q.1 + 1 == i && q.2.category == 2)))
theorem m_lv_st2 (ad : Nat → Nat) (lv : List (Nat × Value)) (i : Nat) : (m_lv ad lv).filter (fun q => !(q.1 == i) && (!(q.1 == i + 1) && !(q.1 + 1 == i && q.2.category == 2))) = m_lv ad (m_st2 lv i) := by
  unfold m_lv m_st2
  rw [List.filter_map]
  congr 1
  apply List.filter_congr
  intro q _
  simp [m_cv_cat]
theorem AW.lstore_n (X : Cx G nL cc own Ts) {kk : Fin 4} {i : Nat} {x : Int64} (hi : (kk : Nat) = i) (hd : decode cc pc = .ok (.lstore_n kk, 1)) (hn : i + 1 < nL) (hl : (i, .long x) :: m_st2 lv i = lv2) (k : AW G R nL (cells, slots, ad, N, β) (pc + 1) lv2 st μ) : AW G R nL (cells, slots, ad, N, β) pc lv (.long x :: st) μ := by
  obtain ⟨p, l, e, s, m, args, below, meth, c, Q, D, cA, sa, A⟩ := G
  obtain ⟨hx, hb, hml, hown, hts, hK, hSt, hlk⟩ := X
  exact fun H locs L hM hA hS hL => lv_lstore_n (lv := m_lv ad lv) (lv' := m_lv ad lv2) hx hb hd hi hL hn (by rw [m_lv_st2, ← hl]; rfl) (fun L2 hL2 => k H locs L2 hM hA hS hL2)
theorem AW.istore_n (X : Cx G nL cc own Ts) {kk : Fin 4} {i : Nat} {x : Int32} (hi : (kk : Nat) = i) (hd : decode cc pc = .ok (.istore_n kk, 1)) (hn : i < nL) (hl : (i, .int x) :: m_st lv i = lv2) (k : AW G R nL (cells, slots, ad, N, β) (pc + 1) lv2 st μ) : AW G R nL (cells, slots, ad, N, β) pc lv (.int x :: st) μ := by
  obtain ⟨p, l, e, s, m, args, below, meth, c, Q, D, cA, sa, A⟩ := G
  obtain ⟨hx, hb, hml, hown, hts, hK, hSt, hlk⟩ := X
  exact fun H locs L hM hA hS hL => lv_istore_n (lv := m_lv ad lv) (lv' := m_lv ad lv2) hx hb hd hi hL hn (by rw [m_lv_st, ← hl]; rfl) (fun L2 hL2 => k H locs L2 hM hA hS hL2)
theorem AW.istore (X : Cx G nL cc own Ts) {i : Nat} {x : Int32} (hd : decode cc pc = .ok (.istore i, 2)) (hn : i < nL) (hl : (i, .int x) :: m_st lv i = lv2) (k : AW G R nL (cells, slots, ad, N, β) (pc + 2) lv2 st μ) : AW G R nL (cells, slots, ad, N, β) pc lv (.int x :: st) μ := by
  obtain ⟨p, l, e, s, m, args, below, meth, c, Q, D, cA, sa, A⟩ := G
  obtain ⟨hx, hb, hml, hown, hts, hK, hSt, hlk⟩ := X
  exact fun H locs L hM hA hS hL => lv_istore (lv := m_lv ad lv) (lv' := m_lv ad lv2) hx hb hd hL hn (by rw [m_lv_st, ← hl]; rfl) (fun L2 hL2 => k H locs L2 hM hA hS hL2)
theorem AW.astore_n (X : Cx G nL cc own Ts) {kk : Fin 4} {i : Nat} {x : Nat} (hi : (kk : Nat) = i) (hd : decode cc pc = .ok (.astore_n kk, 1)) (hn : i < nL) (hl : (i, .ref x) :: m_st lv i = lv2) (k : AW G R nL (cells, slots, ad, N, β) (pc + 1) lv2 st μ) : AW G R nL (cells, slots, ad, N, β) pc lv (.ref x :: st) μ := by
  obtain ⟨p, l, e, s, m, args, below, meth, c, Q, D, cA, sa, A⟩ := G
  obtain ⟨hx, hb, hml, hown, hts, hK, hSt, hlk⟩ := X
  exact fun H locs L hM hA hS hL => lv_astore_n (lv := m_lv ad lv) (lv' := m_lv ad lv2) hx hb hd hi hL hn (by rw [m_lv_st, ← hl]; rfl) (fun L2 hL2 => k H locs L2 hM hA hS hL2)
theorem AW.astore (X : Cx G nL cc own Ts) {i : Nat} {x : Nat} (hd : decode cc pc = .ok (.astore i, 2)) (hn : i < nL) (hl : (i, .ref x) :: m_st lv i = lv2) (k : AW G R nL (cells, slots, ad, N, β) (pc + 2) lv2 st μ) : AW G R nL (cells, slots, ad, N, β) pc lv (.ref x :: st) μ := by
  obtain ⟨p, l, e, s, m, args, below, meth, c, Q, D, cA, sa, A⟩ := G
  obtain ⟨hx, hb, hml, hown, hts, hK, hSt, hlk⟩ := X
  exact fun H locs L hM hA hS hL => lv_astore (lv := m_lv ad lv) (lv' := m_lv ad lv2) hx hb hd hL hn (by rw [m_lv_st, ← hl]; rfl) (fun L2 hL2 => k H locs L2 hM hA hS hL2)
theorem AW.astore_nN (X : Cx G nL cc own Ts) {kk : Fin 4} {i : Nat} (hi : (kk : Nat) = i) (hd : decode cc pc = .ok (.astore_n kk, 1)) (hn : i < nL) (hl : (i, .null) :: m_st lv i = lv2) (k : AW G R nL (cells, slots, ad, N, β) (pc + 1) lv2 st μ) : AW G R nL (cells, slots, ad, N, β) pc lv (.null :: st) μ := by
  obtain ⟨p, l, e, s, m, args, below, meth, c, Q, D, cA, sa, A⟩ := G
  obtain ⟨hx, hb, hml, hown, hts, hK, hSt, hlk⟩ := X
  exact fun H locs L hM hA hS hL => lv_astore_nN (lv := m_lv ad lv) (lv' := m_lv ad lv2) hx hb hd hi hL hn (by rw [m_lv_st, ← hl]; rfl) (fun L2 hL2 => k H locs L2 hM hA hS hL2)
theorem AW.astoreN (X : Cx G nL cc own Ts) {i : Nat} (hd : decode cc pc = .ok (.astore i, 2)) (hn : i < nL) (hl : (i, .null) :: m_st lv i = lv2) (k : AW G R nL (cells, slots, ad, N, β) (pc + 2) lv2 st μ) : AW G R nL (cells, slots, ad, N, β) pc lv (.null :: st) μ := by
  obtain ⟨p, l, e, s, m, args, below, meth, c, Q, D, cA, sa, A⟩ := G
  obtain ⟨hx, hb, hml, hown, hts, hK, hSt, hlk⟩ := X
  exact fun H locs L hM hA hS hL => lv_astoreN (lv := m_lv ad lv) (lv' := m_lv ad lv2) hx hb hd hL hn (by rw [m_lv_st, ← hl]; rfl) (fun L2 hL2 => k H locs L2 hM hA hS hL2)
theorem AW.iinc (X : Cx G nL cc own Ts) {i : Nat} {n : Int} {x v : Int32} (q : Nat) (hq : lv[q]? = some (i, .int x)) (hv : x + Int32.ofInt n = v) (hd : decode cc pc = .ok (.iinc i n, 3)) (hn : i < nL) (hl : (i, .int v) :: m_st lv i = lv2) (k : AW G R nL (cells, slots, ad, N, β) (pc + 3) lv2 st μ) : AW G R nL (cells, slots, ad, N, β) pc lv st μ := by
  obtain ⟨p, l, e, s, m, args, below, meth, c, Q, D, cA, sa, A⟩ := G
  obtain ⟨hx, hb, hml, hown, hts, hK, hSt, hlk⟩ := X
  exact fun H locs L hM hA hS hL => lv_iinc (lv := m_lv ad lv) (lv' := m_lv ad lv2) (k := q) hx hb hd hL (m_lv_at hq) hv hn (by rw [m_lv_st, ← hl]; rfl) (fun L2 hL2 => k H locs L2 hM hA hS hL2)
theorem AW.if_eq (X : Cx G nL cc own Ts) {x : Int32} {off : Int} (tgt : Nat) (hd : decode cc pc = .ok (.ifCond .eq off, 3)) (ht : (pc : Int) + off = (tgt : Int)) (kt : x = 0 → AW G R nL (cells, slots, ad, N, β) tgt lv st μ) (kf : ¬ x = 0 → AW G R nL (cells, slots, ad, N, β) (pc + 3) lv st μ) : AW G R nL (cells, slots, ad, N, β) pc lv (.int x :: st) μ := by
  obtain ⟨p, l, e, s, m, args, below, meth, c, Q, D, cA, sa, A⟩ := G
  obtain ⟨hx, hb, hml, hown, hts, hK, hSt, hlk⟩ := X
  exact fun H locs L hM hA hS hL => lv_if_eq hx hb hd ht (fun h => kt h H locs L hM hA hS hL) (fun h => kf h H locs L hM hA hS hL)
theorem AW.if_ne (X : Cx G nL cc own Ts) {x : Int32} {off : Int} (tgt : Nat) (hd : decode cc pc = .ok (.ifCond .ne off, 3)) (ht : (pc : Int) + off = (tgt : Int)) (kt : ¬ x = 0 → AW G R nL (cells, slots, ad, N, β) tgt lv st μ) (kf : x = 0 → AW G R nL (cells, slots, ad, N, β) (pc + 3) lv st μ) : AW G R nL (cells, slots, ad, N, β) pc lv (.int x :: st) μ := by
  obtain ⟨p, l, e, s, m, args, below, meth, c, Q, D, cA, sa, A⟩ := G
  obtain ⟨hx, hb, hml, hown, hts, hK, hSt, hlk⟩ := X
  exact fun H locs L hM hA hS hL => lv_if_ne hx hb hd ht (fun h => kt h H locs L hM hA hS hL) (fun h => kf h H locs L hM hA hS hL)
theorem AW.if_lt (X : Cx G nL cc own Ts) {x : Int32} {off : Int} (tgt : Nat) (hd : decode cc pc = .ok (.ifCond .lt off, 3)) (ht : (pc : Int) + off = (tgt : Int)) (kt : x < 0 → AW G R nL (cells, slots, ad, N, β) tgt lv st μ) (kf : ¬ x < 0 → AW G R nL (cells, slots, ad, N, β) (pc + 3) lv st μ) : AW G R nL (cells, slots, ad, N, β) pc lv (.int x :: st) μ := by
  obtain ⟨p, l, e, s, m, args, below, meth, c, Q, D, cA, sa, A⟩ := G
  obtain ⟨hx, hb, hml, hown, hts, hK, hSt, hlk⟩ := X
  exact fun H locs L hM hA hS hL => lv_if_lt hx hb hd ht (fun h => kt h H locs L hM hA hS hL) (fun h => kf h H locs L hM hA hS hL)
theorem AW.if_ge (X : Cx G nL cc own Ts) {x : Int32} {off : Int} (tgt : Nat) (hd : decode cc pc = .ok (.ifCond .ge off, 3)) (ht : (pc : Int) + off = (tgt : Int)) (kt : 0 ≤ x → AW G R nL (cells, slots, ad, N, β) tgt lv st μ) (kf : ¬ 0 ≤ x → AW G R nL (cells, slots, ad, N, β) (pc + 3) lv st μ) : AW G R nL (cells, slots, ad, N, β) pc lv (.int x :: st) μ := by
  obtain ⟨p, l, e, s, m, args, below, meth, c, Q, D, cA, sa, A⟩ := G
  obtain ⟨hx, hb, hml, hown, hts, hK, hSt, hlk⟩ := X
  exact fun H locs L hM hA hS hL => lv_if_ge hx hb hd ht (fun h => kt h H locs L hM hA hS hL) (fun h => kf h H locs L hM hA hS hL)
theorem AW.if_gt (X : Cx G nL cc own Ts) {x : Int32} {off : Int} (tgt : Nat) (hd : decode cc pc = .ok (.ifCond .gt off, 3)) (ht : (pc : Int) + off = (tgt : Int)) (kt : 0 < x → AW G R nL (cells, slots, ad, N, β) tgt lv st μ) (kf : ¬ 0 < x → AW G R nL (cells, slots, ad, N, β) (pc + 3) lv st μ) : AW G R nL (cells, slots, ad, N, β) pc lv (.int x :: st) μ := by
  obtain ⟨p, l, e, s, m, args, below, meth, c, Q, D, cA, sa, A⟩ := G
  obtain ⟨hx, hb, hml, hown, hts, hK, hSt, hlk⟩ := X
  exact fun H locs L hM hA hS hL => lv_if_gt hx hb hd ht (fun h => kt h H locs L hM hA hS hL) (fun h => kf h H locs L hM hA hS hL)
theorem AW.if_le (X : Cx G nL cc own Ts) {x : Int32} {off : Int} (tgt : Nat) (hd : decode cc pc = .ok (.ifCond .le off, 3)) (ht : (pc : Int) + off = (tgt : Int)) (kt : x ≤ 0 → AW G R nL (cells, slots, ad, N, β) tgt lv st μ) (kf : ¬ x ≤ 0 → AW G R nL (cells, slots, ad, N, β) (pc + 3) lv st μ) : AW G R nL (cells, slots, ad, N, β) pc lv (.int x :: st) μ := by
  obtain ⟨p, l, e, s, m, args, below, meth, c, Q, D, cA, sa, A⟩ := G
  obtain ⟨hx, hb, hml, hown, hts, hK, hSt, hlk⟩ := X
  exact fun H locs L hM hA hS hL => lv_if_le hx hb hd ht (fun h => kt h H locs L hM hA hS hL) (fun h => kf h H locs L hM hA hS hL)
theorem AW.icmp_eq (X : Cx G nL cc own Ts) {x y : Int32} {off : Int} (tgt : Nat) (hd : decode cc pc = .ok (.if_icmp .eq off, 3)) (ht : (pc : Int) + off = (tgt : Int)) (kt : x = y → AW G R nL (cells, slots, ad, N, β) tgt lv st μ) (kf : ¬ x = y → AW G R nL (cells, slots, ad, N, β) (pc + 3) lv st μ) : AW G R nL (cells, slots, ad, N, β) pc lv (.int y :: .int x :: st) μ := by
  obtain ⟨p, l, e, s, m, args, below, meth, c, Q, D, cA, sa, A⟩ := G
  obtain ⟨hx, hb, hml, hown, hts, hK, hSt, hlk⟩ := X
  exact fun H locs L hM hA hS hL => lv_icmp_eq hx hb hd ht (fun h => kt h H locs L hM hA hS hL) (fun h => kf h H locs L hM hA hS hL)
theorem AW.icmp_ne (X : Cx G nL cc own Ts) {x y : Int32} {off : Int} (tgt : Nat) (hd : decode cc pc = .ok (.if_icmp .ne off, 3)) (ht : (pc : Int) + off = (tgt : Int)) (kt : ¬ x = y → AW G R nL (cells, slots, ad, N, β) tgt lv st μ) (kf : x = y → AW G R nL (cells, slots, ad, N, β) (pc + 3) lv st μ) : AW G R nL (cells, slots, ad, N, β) pc lv (.int y :: .int x :: st) μ := by
  obtain ⟨p, l, e, s, m, args, below, meth, c, Q, D, cA, sa, A⟩ := G
  obtain ⟨hx, hb, hml, hown, hts, hK, hSt, hlk⟩ := X
  exact fun H locs L hM hA hS hL => lv_icmp_ne hx hb hd ht (fun h => kt h H locs L hM hA hS hL) (fun h => kf h H locs L hM hA hS hL)
theorem AW.icmp_lt (X : Cx G nL cc own Ts) {x y : Int32} {off : Int} (tgt : Nat) (hd : decode cc pc = .ok (.if_icmp .lt off, 3)) (ht : (pc : Int) + off = (tgt : Int)) (kt : x < y → AW G R nL (cells, slots, ad, N, β) tgt lv st μ) (kf : ¬ x < y → AW G R nL (cells, slots, ad, N, β) (pc + 3) lv st μ) : AW G R nL (cells, slots, ad, N, β) pc lv (.int y :: .int x :: st) μ := by
  obtain ⟨p, l, e, s, m, args, below, meth, c, Q, D, cA, sa, A⟩ := G
  obtain ⟨hx, hb, hml, hown, hts, hK, hSt, hlk⟩ := X
  exact fun H locs L hM hA hS hL => lv_icmp_lt hx hb hd ht (fun h => kt h H locs L hM hA hS hL) (fun h => kf h H locs L hM hA hS hL)
theorem AW.icmp_ge (X : Cx G nL cc own Ts) {x y : Int32} {off : Int} (tgt : Nat) (hd : decode cc pc = .ok (.if_icmp .ge off, 3)) (ht : (pc : Int) + off = (tgt : Int)) (kt : y ≤ x → AW G R nL (cells, slots, ad, N, β) tgt lv st μ) (kf : ¬ y ≤ x → AW G R nL (cells, slots, ad, N, β) (pc + 3) lv st μ) : AW G R nL (cells, slots, ad, N, β) pc lv (.int y :: .int x :: st) μ := by
  obtain ⟨p, l, e, s, m, args, below, meth, c, Q, D, cA, sa, A⟩ := G
  obtain ⟨hx, hb, hml, hown, hts, hK, hSt, hlk⟩ := X
  exact fun H locs L hM hA hS hL => lv_icmp_ge hx hb hd ht (fun h => kt h H locs L hM hA hS hL) (fun h => kf h H locs L hM hA hS hL)
theorem AW.icmp_gt (X : Cx G nL cc own Ts) {x y : Int32} {off : Int} (tgt : Nat) (hd : decode cc pc = .ok (.if_icmp .gt off, 3)) (ht : (pc : Int) + off = (tgt : Int)) (kt : y < x → AW G R nL (cells, slots, ad, N, β) tgt lv st μ) (kf : ¬ y < x → AW G R nL (cells, slots, ad, N, β) (pc + 3) lv st μ) : AW G R nL (cells, slots, ad, N, β) pc lv (.int y :: .int x :: st) μ := by
  obtain ⟨p, l, e, s, m, args, below, meth, c, Q, D, cA, sa, A⟩ := G
  obtain ⟨hx, hb, hml, hown, hts, hK, hSt, hlk⟩ := X
  exact fun H locs L hM hA hS hL => lv_icmp_gt hx hb hd ht (fun h => kt h H locs L hM hA hS hL) (fun h => kf h H locs L hM hA hS hL)
theorem AW.icmp_le (X : Cx G nL cc own Ts) {x y : Int32} {off : Int} (tgt : Nat) (hd : decode cc pc = .ok (.if_icmp .le off, 3)) (ht : (pc : Int) + off = (tgt : Int)) (kt : x ≤ y → AW G R nL (cells, slots, ad, N, β) tgt lv st μ) (kf : ¬ x ≤ y → AW G R nL (cells, slots, ad, N, β) (pc + 3) lv st μ) : AW G R nL (cells, slots, ad, N, β) pc lv (.int y :: .int x :: st) μ := by
  obtain ⟨p, l, e, s, m, args, below, meth, c, Q, D, cA, sa, A⟩ := G
  obtain ⟨hx, hb, hml, hown, hts, hK, hSt, hlk⟩ := X
  exact fun H locs L hM hA hS hL => lv_icmp_le hx hb hd ht (fun h => kt h H locs L hM hA hS hL) (fun h => kf h H locs L hM hA hS hL)
theorem AW.goto (X : Cx G nL cc own Ts) {off : Int} (tgt : Nat) (hd : decode cc pc = .ok (.goto off, 3)) (ht : (pc : Int) + off = (tgt : Int)) (k : AW G R nL (cells, slots, ad, N, β) tgt lv st μ) : AW G R nL (cells, slots, ad, N, β) pc lv st μ := by
  obtain ⟨p, l, e, s, m, args, below, meth, c, Q, D, cA, sa, A⟩ := G
  obtain ⟨hx, hb, hml, hown, hts, hK, hSt, hlk⟩ := X
  exact fun H locs L hM hA hS hL => lv_goto hx hb hd ht (k H locs L hM hA hS hL)
theorem AW.ifnonnull (X : Cx G nL cc own Ts) {x : Nat} {off : Int} (tgt : Nat) (hd : decode cc pc = .ok (.ifnonnull off, 3)) (ht : (pc : Int) + off = (tgt : Int)) (k : AW G R nL (cells, slots, ad, N, β) tgt lv st μ) : AW G R nL (cells, slots, ad, N, β) pc lv (.ref x :: st) μ := by
  obtain ⟨p, l, e, s, m, args, below, meth, c, Q, D, cA, sa, A⟩ := G
  obtain ⟨hx, hb, hml, hown, hts, hK, hSt, hlk⟩ := X
  exact fun H locs L hM hA hS hL => lv_ifnonnull hx hb hd ht (k H locs L hM hA hS hL)
theorem AW.ifnull (X : Cx G nL cc own Ts) {x : Nat} {off : Int} (hd : decode cc pc = .ok (.ifnull off, 3)) (k : AW G R nL (cells, slots, ad, N, β) (pc + 3) lv st μ) : AW G R nL (cells, slots, ad, N, β) pc lv (.ref x :: st) μ := by
  obtain ⟨p, l, e, s, m, args, below, meth, c, Q, D, cA, sa, A⟩ := G
  obtain ⟨hx, hb, hml, hown, hts, hK, hSt, hlk⟩ := X
  exact fun H locs L hM hA hS hL => lv_ifnull hx hb hd (k H locs L hM hA hS hL)
theorem AW.ifnullN (X : Cx G nL cc own Ts) {off : Int} (tgt : Nat) (hd : decode cc pc = .ok (.ifnull off, 3)) (ht : (pc : Int) + off = (tgt : Int)) (k : AW G R nL (cells, slots, ad, N, β) tgt lv st μ) : AW G R nL (cells, slots, ad, N, β) pc lv (.null :: st) μ := by
  obtain ⟨p, l, e, s, m, args, below, meth, c, Q, D, cA, sa, A⟩ := G
  obtain ⟨hx, hb, hml, hown, hts, hK, hSt, hlk⟩ := X
  exact fun H locs L hM hA hS hL => lv_ifnullN hx hb hd ht (k H locs L hM hA hS hL)
theorem AW.ifnonnullN (X : Cx G nL cc own Ts) {off : Int} (hd : decode cc pc = .ok (.ifnonnull off, 3)) (k : AW G R nL (cells, slots, ad, N, β) (pc + 3) lv st μ) : AW G R nL (cells, slots, ad, N, β) pc lv (.null :: st) μ := by
  obtain ⟨p, l, e, s, m, args, below, meth, c, Q, D, cA, sa, A⟩ := G
  obtain ⟨hx, hb, hml, hown, hts, hK, hSt, hlk⟩ := X
  exact fun H locs L hM hA hS hL => lv_ifnonnullN hx hb hd (k H locs L hM hA hS hL)
theorem AW.tableOut (X : Cx G nL cc own Ts) {dflt lo hi : Int} {offs : Array Int} {len : Nat} {x : Int32} (tgt : Nat) (hd : decode cc pc = .ok (.tableswitch dflt lo hi offs, len)) (h : x.toInt < lo ∨ hi < x.toInt) (ht : (pc : Int) + dflt = (tgt : Int)) (k : AW G R nL (cells, slots, ad, N, β) tgt lv st μ) : AW G R nL (cells, slots, ad, N, β) pc lv (.int x :: st) μ := by
  obtain ⟨p, l, e, s, m, args, below, meth, c, Q, D, cA, sa, A⟩ := G
  obtain ⟨hx, hb, hml, hown, hts, hK, hSt, hlk⟩ := X
  exact fun H locs L hM hA hS hL => lv_tableOut hx hb hd h ht (k H locs L hM hA hS hL)
theorem AW.tableIn (X : Cx G nL cc own Ts) {dflt lo hi : Int} {offs : Array Int} {len : Nat} {x : Int32} {off : Int} (tgt : Nat) (hd : decode cc pc = .ok (.tableswitch dflt lo hi offs, len)) (h1 : ¬ x.toInt < lo) (h2 : ¬ hi < x.toInt) (ho : offs[(x.toInt - lo).toNat]? = some off) (ht : (pc : Int) + off = (tgt : Int)) (k : AW G R nL (cells, slots, ad, N, β) tgt lv st μ) : AW G R nL (cells, slots, ad, N, β) pc lv (.int x :: st) μ := by
  obtain ⟨p, l, e, s, m, args, below, meth, c, Q, D, cA, sa, A⟩ := G
  obtain ⟨hx, hb, hml, hown, hts, hK, hSt, hlk⟩ := X
  exact fun H locs L hM hA hS hL => lv_tableIn hx hb hd h1 h2 ho ht (k H locs L hM hA hS hL)
theorem m_pick (ad : Nat → Nat) (lv : List (Nat × Value)) (ks : List Nat) : lv_pick (m_lv ad lv) ks = m_lv ad (lv_pick lv ks) := by
  unfold lv_pick m_lv
  induction ks with
  | nil => rfl
  | cons k ks ih =>
    rw [List.filterMap_cons, List.filterMap_cons, List.getElem?_map]
    cases lv[k]? with
    | none => exact ih
    | some q => exact congrArg (List.cons _) ih
theorem AW.locs (ks : List Nat) (h : lv_pick lv ks = lv2) (k : AW G R nL (cells, slots, ad, N, β) pc lv2 st μ) : AW G R nL (cells, slots, ad, N, β) pc lv st μ := by
  obtain ⟨p, l, e, s, m, args, below, meth, c, Q, D, cA, sa, A⟩ := G
  exact fun H locs L hM hA hS hL => k H locs L hM hA hS (lv_sub hL ks (by rw [m_pick, h]))
theorem AW.val {v w : Value} (h : v = w) (k : AW G R nL (cells, slots, ad, N, β) pc lv (w :: st) μ) : AW G R nL (cells, slots, ad, N, β) pc lv (v :: st) μ := h ▸ k
theorem AW.acmp_ne (X : Cx G nL cc own Ts) {x y : Nat} {off : Int} (tgt : Nat) (hx9 : x < N) (hy9 : y < N) (hd : decode cc pc = .ok (.if_acmp .ne off, 3)) (ht : (pc : Int) + off = (tgt : Int)) (kt : ¬ x = y → AW G R nL (cells, slots, ad, N, β) tgt lv st μ) (kf : x = y → AW G R nL (cells, slots, ad, N, β) (pc + 3) lv st μ) : AW G R nL (cells, slots, ad, N, β) pc lv (.ref y :: .ref x :: st) μ := by
  obtain ⟨p, l, e, s, m, args, below, meth, c, Q, D, cA, sa, A⟩ := G
  obtain ⟨hx, hb, hml, hown, hts, hK, hSt, hlk⟩ := X
  exact fun H locs L hM hA hS hL => lv_acmp_ne (rx := some (ad x)) (ry := some (ad y)) hx hb hd ht (fun h => kt (fun q => h (by rw [q])) H locs L hM hA hS hL) (fun h => kf (hM.2.1 x y hx9 hy9 (Option.some.inj h)) H locs L hM hA hS hL)
theorem AW.get (X : Cx G nL cc own Ts) {k ci j nF index : Nat} {C : String} {T : u_T} {f : Option Nat} (hk : k < N) (hs : sh k = .inl ci) (hc : vwCl[ci]? = some (C, T, nF)) (hin : ∀ w ∈ u_ws C T nF, w ∈ Ts) (hj : j < nF) (hlink : Cond.fieldLink own index (T j).1 (T j).2.1 (T j).2.2.1 ∈ Ts) (hf : (fk ci)[j]? = some f) {v : Value} (hv : m_fv (β k j) k f (μ k j) = v) (hd : decode cc pc = .ok (.getfield index, 3)) (kk : AW G R nL (cells, slots, ad, N, β) (pc + 3) lv (v :: st) μ) : AW G R nL (cells, slots, ad, N, β) pc lv (.ref k :: st) μ := by
  obtain ⟨p, l, e, s, m, args, below, meth, c, Q, D, cA, sa, A⟩ := G
  obtain ⟨hx, hb, hml, hown, hts, hK, hSt, hlk⟩ := X
  subst hv
  refine fun H locs L hM hA hS hL => va_get (D := D) (ci := ci) (v := m_cv ad (m_fv (β k j) k f (μ k j))) (C := C) (T := T) (N := nF) hx hb hts hin hown hK hM.1 k (m_ws_at hk |>.trans (by rw [m_pic_obj hs])) hc j hj (hts _ hlink) (fun _ h9 => h9) ?_ hd (kk H locs L hM hA hS hL)
  rw [m_obj_at hf, m_cv_fv]
theorem m_put {D : va_G} {cA : Nat → ClassId} {ad : Nat → Nat} {N : Nat} {β : Nat → Nat → Bool} {μ : Mu} {H H1 : Heap} {k ci j : Nat} {x : Int32} (hs : sh k = .inl ci) (hf : (fk ci)[j]? = some none) (hM : Mem D cA ad N β μ H) (h1 : va_P D vwCl ((m_ws cA ad β μ N).set k (ad k, .inr (ci, (m_obj ad (β k) k (fk ci) (μ k)).set j (.int x)))) H1) : Mem D cA ad N β (m_up μ k j x) H1 := by
  rw [m_ws_set (β2 := β) (μ2 := m_up μ k j x) (by rw [m_pic_obj hs]; exact congrArg (fun z => Sum.inr (ci, z)) (m_obj_set hf (by rw [m_up_self]; rfl) (fun _ _ => rfl) (fun i hi => m_up_ne (fun q => hi q.2)))) (fun i hi => m_pic_congr rfl (m_up_row hi))] at h1
  refine ⟨h1, hM.2.1, fun i t n hi hq i2 => ?_, hM.2.2.2⟩
  have hik : i ≠ k := fun q => by rw [q, hs] at hq; cases hq
  rw [m_up_row hik]
  exact hM.2.2.1 i t n hi hq i2
theorem AW.put (X : Cx G nL cc own Ts) {k ci j nF index : Nat} {C : String} {T : u_T} {x : Int32} {ty : FieldType} (ty0 : Nat → FieldType) (hk : k < N) (hs : sh k = .inl ci) (hc : vwCl[ci]? = some (C, T, nF)) (hin : ∀ w ∈ u_ws C T nF, w ∈ Ts) (hty : ∀ k, k < nF → parseFieldDescriptor (T k).2.2.1 = some (ty0 k)) (hnm : ∀ a, a < nF → ∀ b, b < nF → a ≠ b → (T a).2.1 ≠ (T b).2.1) (hj : j < nF) (hlink : Cond.fieldLink own index (T j).1 (T j).2.1 (T j).2.2.1 ∈ Ts) (hf : (fk ci)[j]? = some none) (hfin : (T j).2.2.2 = false) (ht : ty0 j = ty) (hn : narrow ty (.int x) = .int x) (hfit : fits ty (.int x) = true) (hd : decode cc pc = .ok (.putfield index, 3)) (kk : AW G R nL (cells, slots, ad, N, β) (pc + 3) lv st (m_up μ k j x)) : AW G R nL (cells, slots, ad, N, β) pc lv (.int x :: .ref k :: st) μ := by
  obtain ⟨p, l, e, s, m, args, below, meth, c, Q, D, cA, sa, A⟩ := G
  obtain ⟨hx, hb, hml, hown, hts, hK, hSt, hlk⟩ := X
  refine fun H locs L hM hA hS hL => va_put (D := D) (ci := ci) (v := .int x) (ty := ty) (C := C) (T := T) (N := nF) hx hb hts hin ty0 hty hnm hown hK hM.1 (hM.D hA.1) hS k (m_ws_at hk |>.trans (by rw [m_pic_obj hs])) hc j hj (hts _ hlink) (fun _ h9 => h9) hfin (by rw [hty j hj, ht]) hn hfit (by rw [m_obj_len]; exact (List.getElem?_eq_some_iff.mp hf).1) hd (fun H1 locs1 h1 h2 h3 => ?_)
  exact kk H1 locs1 L (m_put hs hf hM h1) hA h3 hL
theorem AW.putFI (X : Cx G nL cc own Ts) {k ci j nF index : Nat} {C : String} {T : u_T} {x : Int32} {ty : FieldType} (ty0 : Nat → FieldType) (hin2 : G.2.2.2.2.2.2.2.1.name = "<init>") (hk : k < N) (hs : sh k = .inl ci) (hc : vwCl[ci]? = some (C, T, nF)) (hin : ∀ w ∈ u_ws C T nF, w ∈ Ts) (hty : ∀ k, k < nF → parseFieldDescriptor (T k).2.2.1 = some (ty0 k)) (hnm : ∀ a, a < nF → ∀ b, b < nF → a ≠ b → (T a).2.1 ≠ (T b).2.1) (hj : j < nF) (hlink : Cond.fieldLink own index (T j).1 (T j).2.1 (T j).2.2.1 ∈ Ts) (hf : (fk ci)[j]? = some none) (hfin : (T j).2.2.2 = true) (hdc : (T j).1 = own) (ht : ty0 j = ty) (hn : narrow ty (.int x) = .int x) (hfit : fits ty (.int x) = true) (hd : decode cc pc = .ok (.putfield index, 3)) (kk : AW G R nL (cells, slots, ad, N, β) (pc + 3) lv st (m_up μ k j x)) : AW G R nL (cells, slots, ad, N, β) pc lv (.int x :: .ref k :: st) μ := by
  obtain ⟨p, l, e, s, m, args, below, meth, c, Q, D, cA, sa, A⟩ := G
  obtain ⟨hx, hb, hml, hown, hts, hK, hSt, hlk⟩ := X
  refine fun H locs L hM hA hS hL => va_putF (D := D) (ci := ci) (v := .int x) (ty := ty) (C := C) (T := T) (N := nF) hx hb hts hin ty0 hty hnm hown hK hM.1 (hM.D hA.1) hS k (m_ws_at hk |>.trans (by rw [m_pic_obj hs])) hc j hj (hts _ hlink) (fun _ h9 => h9) hfin hin2 hdc (by rw [hty j hj, ht]) hn hfit (by rw [m_obj_len]; exact (List.getElem?_eq_some_iff.mp hf).1) hd (fun H1 locs1 h1 h2 h3 => ?_)
  exact kk H1 locs1 L (m_put hs hf hM h1) hA h3 hL
def m_bu (β : Nat → Nat → Bool) (k j : Nat) : Nat → Nat → Bool := fun a b => if a = k ∧ b = j then true else β a b
theorem m_bu_row {β : Nat → Nat → Bool} {k j a : Nat} (h : a ≠ k) : m_bu β k j a = β a := funext fun b => if_neg (fun q => h q.1)
theorem m_bu_self {β : Nat → Nat → Bool} {k j : Nat} : m_bu β k j k j = true := if_pos ⟨rfl, rfl⟩
theorem m_bu_ne {β : Nat → Nat → Bool} {k j b : Nat} (h : b ≠ j) : m_bu β k j k b = β k b := if_neg (fun q => h q.2)
theorem m_putS {D : va_G} {cA : Nat → ClassId} {ad : Nat → Nat} {N : Nat} {β : Nat → Nat → Bool} {μ : Mu} {H H1 : Heap} {k ci j o : Nat} (hs : sh k = .inl ci) (hf : (fk ci)[j]? = some (some o)) (ho : k + o < N) (hM : Mem D cA ad N β μ H) (h1 : va_P D vwCl ((m_ws cA ad β μ N).set k (ad k, .inr (ci, (m_obj ad (β k) k (fk ci) (μ k)).set j (.ref (ad (k + o)))))) H1) : Mem D cA ad N (m_bu β k j) μ H1 := by
  rw [m_ws_set (β2 := m_bu β k j) (μ2 := μ) (by rw [m_pic_obj hs]; exact congrArg (fun z => Sum.inr (ci, z)) (m_obj_set hf (by rw [m_bu_self]; rfl) (fun i hi => m_bu_ne hi) (fun _ _ => rfl))) (fun i hi => m_pic_congr (m_bu_row hi) rfl)] at h1
  refine ⟨h1, hM.2.1, hM.2.2.1, fun i ci2 j2 o2 hi hq hf2 hb2 => ?_⟩
  by_cases hik : i = k ∧ j2 = j
  · obtain ⟨rfl, rfl⟩ := hik
    rw [hs] at hq
    cases hq
    rw [hf] at hf2
    cases hf2
    exact ho
  · exact hM.2.2.2 i ci2 j2 o2 hi hq hf2 (by rw [← hb2]; exact (if_neg hik).symm)
theorem AW.putFS (X : Cx G nL cc own Ts) {k k2 ci j nF index o : Nat} {C : String} {T : u_T} {ty : FieldType} {β2 : Nat → Nat → Bool} (ty0 : Nat → FieldType) (hin2 : G.2.2.2.2.2.2.2.1.name = "<init>") (hk : k < N) (hs : sh k = .inl ci) (hc : vwCl[ci]? = some (C, T, nF)) (hin : ∀ w ∈ u_ws C T nF, w ∈ Ts) (hty : ∀ k, k < nF → parseFieldDescriptor (T k).2.2.1 = some (ty0 k)) (hnm : ∀ a, a < nF → ∀ b, b < nF → a ≠ b → (T a).2.1 ≠ (T b).2.1) (hj : j < nF) (hlink : Cond.fieldLink own index (T j).1 (T j).2.1 (T j).2.2.1 ∈ Ts) (hf : (fk ci)[j]? = some (some o)) (hfin : (T j).2.2.2 = true) (hdc : (T j).1 = own) (ht : ty0 j = ty) (hn : ∀ z : Nat, narrow ty (.ref z) = .ref z) (hfit : ∀ z : Nat, fits ty (.ref z) = true) (hk2 : k2 = k + o) (hk3 : k + o < N) (hβ : β2 = m_bu β k j) (hd : decode cc pc = .ok (.putfield index, 3)) (kk : AW G R nL (cells, slots, ad, N, β2) (pc + 3) lv st μ) : AW G R nL (cells, slots, ad, N, β) pc lv (.ref k2 :: .ref k :: st) μ := by
  obtain ⟨p, l, e, s, m, args, below, meth, c, Q, D, cA, sa, A⟩ := G
  obtain ⟨hx, hb, hml, hown, hts, hK, hSt, hlk⟩ := X
  subst hβ
  subst hk2
  refine fun H locs L hM hA hS hL => va_putF (D := D) (ci := ci) (v := .ref (ad (k + o))) (ty := ty) (C := C) (T := T) (N := nF) hx hb hts hin ty0 hty hnm hown hK hM.1 (hM.D hA.1) hS k (m_ws_at hk |>.trans (by rw [m_pic_obj hs])) hc j hj (hts _ hlink) (fun _ h9 => h9) hfin hin2 hdc (by rw [hty j hj, ht]) (hn _) (hfit _) (by rw [m_obj_len]; exact (List.getElem?_eq_some_iff.mp hf).1) hd (fun H1 locs1 h1 h2 h3 => ?_)
  exact kk H1 locs1 L (m_putS hs hf hk3 hM h1) hA h3 hL
theorem AW.iald (X : Cx G nL cc own Ts) {k t n : Nat} {i : Int32} (hk : k < N) (hs : sh k = .inr (t, n, 0)) (ht : m_fts[t]? = some .int) (hin : vp_in i n) (hd : decode cc pc = .ok (.iaload, 1)) (kk : AW G R nL (cells, slots, ad, N, β) (pc + 1) lv (.int (μ k i.toNatClampNeg) :: st) μ) : AW G R nL (cells, slots, ad, N, β) pc lv (.int i :: .ref k :: st) μ := by
  obtain ⟨p, l, e, s, m, args, below, meth, c, Q, D, cA, sa, A⟩ := G
  obtain ⟨hx, hb, hml, hown, hts, hK, hSt, hlk⟩ := X
  exact fun H locs L hM hA hS hL => va_iald hx hb hK hM.1 k t (m_ws_at hk |>.trans (by rw [m_pic_arr hs]; rfl)) (m_tys_at ht) hin hd (kk H locs L hM hA hS hL)
theorem AW.zald (X : Cx G nL cc own Ts) {k t n : Nat} {i : Int32} (hk : k < N) (hs : sh k = .inr (t, n, 0)) (ht : m_fts[t]? = some .boolean) (hin : vp_in i n) (hd : decode cc pc = .ok (.baload, 1)) (kk : AW G R nL (cells, slots, ad, N, β) (pc + 1) lv (.int (μ k i.toNatClampNeg) :: st) μ) : AW G R nL (cells, slots, ad, N, β) pc lv (.int i :: .ref k :: st) μ := by
  obtain ⟨p, l, e, s, m, args, below, meth, c, Q, D, cA, sa, A⟩ := G
  obtain ⟨hx, hb, hml, hown, hts, hK, hSt, hlk⟩ := X
  exact fun H locs L hM hA hS hL => va_zald hx hb hK hM.1 k t (m_ws_at hk |>.trans (by rw [m_pic_arr hs]; rfl)) (m_tys_at ht) hin hd (kk H locs L hM hA hS hL)
theorem AW.bald (X : Cx G nL cc own Ts) {k t n : Nat} {i : Int32} (hk : k < N) (hs : sh k = .inr (t, n, 0)) (ht : m_fts[t]? = some .byte) (hin : vp_in i n) (hd : decode cc pc = .ok (.baload, 1)) (kk : AW G R nL (cells, slots, ad, N, β) (pc + 1) lv (.int (μ k i.toNatClampNeg) :: st) μ) : AW G R nL (cells, slots, ad, N, β) pc lv (.int i :: .ref k :: st) μ := by
  obtain ⟨p, l, e, s, m, args, below, meth, c, Q, D, cA, sa, A⟩ := G
  obtain ⟨hx, hb, hml, hown, hts, hK, hSt, hlk⟩ := X
  exact fun H locs L hM hA hS hL => va_bald hx hb hK hM.1 k t (m_ws_at hk |>.trans (by rw [m_pic_arr hs]; rfl)) (m_tys_at ht) hin hd (kk H locs L hM hA hS hL)
theorem AW.lald (X : Cx G nL cc own Ts) {k t n : Nat} {i : Int32} (hk : k < N) (hs : sh k = .inr (t, n, 1)) (ht : m_fts[t]? = some .long) (hin : vp_in i n) (hd : decode cc pc = .ok (.laload, 1)) (kk : AW G R nL (cells, slots, ad, N, β) (pc + 1) lv (.long (μ k i.toNatClampNeg).toInt64 :: st) μ) : AW G R nL (cells, slots, ad, N, β) pc lv (.int i :: .ref k :: st) μ := by
  obtain ⟨p, l, e, s, m, args, below, meth, c, Q, D, cA, sa, A⟩ := G
  obtain ⟨hx, hb, hml, hown, hts, hK, hSt, hlk⟩ := X
  exact fun H locs L hM hA hS hL => va_lald (f := fun j => (μ k j).toInt64) hx hb hK hM.1 k t (m_ws_at hk |>.trans (by rw [m_pic_arr hs]; rfl)) (m_tys_at ht) hin hd (kk H locs L hM hA hS hL)
theorem AW.aald (X : Cx G nL cc own Ts) {k t n : Nat} {C : String} {i : Int32} {v : Value} (hk : k < N) (hs : sh k = .inr (t, n, 2)) (ht : m_fts[t]? = some (.object C)) (hin : vp_in i n) (hv : m_rv (μ k i.toNatClampNeg) = v) (hd : decode cc pc = .ok (.aaload, 1)) (kk : AW G R nL (cells, slots, ad, N, β) (pc + 1) lv (v :: st) μ) : AW G R nL (cells, slots, ad, N, β) pc lv (.int i :: .ref k :: st) μ := by
  obtain ⟨p, l, e, s, m, args, below, meth, c, Q, D, cA, sa, A⟩ := G
  obtain ⟨hx, hb, hml, hown, hts, hK, hSt, hlk⟩ := X
  subst hv
  refine fun H locs L hM hA hS hL => va_aldq (f := fun j => m_ov ad (μ k j)) (C := C) hx hb hK hM.1 k t (m_ws_at hk |>.trans (by rw [m_pic_arr hs]; rfl)) (m_tys_at ht) hin hd ?_
  rw [← m_cv_rv]
  exact kk H locs L hM hA hS hL
theorem AW.alen (X : Cx G nL cc own Ts) {k t n kd : Nat} {v : Int32} {ty : FieldType} (hk : k < N) (hs : sh k = .inr (t, n, kd)) (ht : m_fts[t]? = some ty) (hv : Int32.ofNat n = v) (hd : decode cc pc = .ok (.arraylength, 1)) (kk : AW G R nL (cells, slots, ad, N, β) (pc + 1) lv (.int v :: st) μ) : AW G R nL (cells, slots, ad, N, β) pc lv (.ref k :: st) μ := by
  obtain ⟨p, l, e, s, m, args, below, meth, c, Q, D, cA, sa, A⟩ := G
  obtain ⟨hx, hb, hml, hown, hts, hK, hSt, hlk⟩ := X
  exact fun H locs L hM hA hS hL => va_alen (x := (n, m_arr ad kd (μ k))) hx hb hK hM.1 k t (m_ws_at hk |>.trans (by rw [m_pic_arr hs])) (m_tys_at ht) hv hd (kk H locs L hM hA hS hL)
theorem m_ast {D : va_G} {cA : Nat → ClassId} {ad : Nat → Nat} {N : Nat} {β : Nat → Nat → Bool} {μ : Mu} {H H1 : Heap} {k t n kd j : Nat} {x : Int32} {y : (Nat → Int32) ⊕ (Nat → Int64) ⊕ (Nat → UInt32) ⊕ (Nat → UInt64) ⊕ (Nat → Option Nat)} (hs : sh k = .inr (t, n, kd)) (hy : m_arr ad kd (upd (μ k) j x) = y) (hw : kd = 2 → x = 0 ∨ x.toNatClampNeg - 1 < N) (hM : Mem D cA ad N β μ H) (h1 : va_P D vwCl ((m_ws cA ad β μ N).set k (ad k, .inl (cA t, n, y))) H1) : Mem D cA ad N β (m_up μ k j x) H1 := by
  rw [m_ws_set (β2 := β) (μ2 := m_up μ k j x) (by rw [m_pic_arr hs, m_up_at, hy]) (fun i hi => m_pic_congr rfl (m_up_row hi))] at h1
  refine ⟨h1, hM.2.1, fun i t2 n2 hi hq i2 => ?_, hM.2.2.2⟩
  by_cases hik : i = k ∧ i2 = j
  · obtain ⟨rfl, rfl⟩ := hik
    rw [m_up_self]
    rw [hs] at hq
    cases hq
    exact hw rfl
  · rw [m_up_ne hik]
    exact hM.2.2.1 i t2 n2 hi hq i2
theorem AW.iast (X : Cx G nL cc own Ts) {k t n : Nat} {i x : Int32} (hk : k < N) (hs : sh k = .inr (t, n, 0)) (ht : m_fts[t]? = some .int) (hin : vp_in i n) (hd : decode cc pc = .ok (.iastore, 1)) (kk : AW G R nL (cells, slots, ad, N, β) (pc + 1) lv st (m_up μ k i.toNatClampNeg x)) : AW G R nL (cells, slots, ad, N, β) pc lv (.int x :: .int i :: .ref k :: st) μ := by
  obtain ⟨p, l, e, s, m, args, below, meth, c, Q, D, cA, sa, A⟩ := G
  obtain ⟨hx, hb, hml, hown, hts, hK, hSt, hlk⟩ := X
  refine fun H locs L hM hA hS hL => va_iast hx hb hK hM.1 (hM.D hA.1) hS k t (m_ws_at hk |>.trans (by rw [m_pic_arr hs]; rfl)) (m_tys_at ht) hin hd (fun H1 locs1 h1 h2 h3 => ?_)
  exact kk H1 locs1 L (m_ast hs rfl (fun h => by cases h) hM h1) hA h3 hL
theorem AW.bast (X : Cx G nL cc own Ts) {k t n : Nat} {i x : Int32} (hk : k < N) (hs : sh k = .inr (t, n, 0)) (ht : m_fts[t]? = some .byte) (hin : vp_in i n) (hnr : vp_nar .byte x = x) (hd : decode cc pc = .ok (.bastore, 1)) (kk : AW G R nL (cells, slots, ad, N, β) (pc + 1) lv st (m_up μ k i.toNatClampNeg x)) : AW G R nL (cells, slots, ad, N, β) pc lv (.int x :: .int i :: .ref k :: st) μ := by
  obtain ⟨p, l, e, s, m, args, below, meth, c, Q, D, cA, sa, A⟩ := G
  obtain ⟨hx, hb, hml, hown, hts, hK, hSt, hlk⟩ := X
  refine fun H locs L hM hA hS hL => va_bast hx hb hK hM.1 (hM.D hA.1) hS k t (m_ws_at hk |>.trans (by rw [m_pic_arr hs]; rfl)) (m_tys_at ht) hin hd (fun H1 locs1 h1 h2 h3 => ?_)
  rw [hnr] at h1
  exact kk H1 locs1 L (m_ast hs rfl (fun h => by cases h) hM h1) hA h3 hL
theorem AW.zast (X : Cx G nL cc own Ts) {k t n : Nat} {i x : Int32} (hk : k < N) (hs : sh k = .inr (t, n, 0)) (ht : m_fts[t]? = some .boolean) (hin : vp_in i n) (hnr : vp_nar .boolean x = x) (hd : decode cc pc = .ok (.bastore, 1)) (kk : AW G R nL (cells, slots, ad, N, β) (pc + 1) lv st (m_up μ k i.toNatClampNeg x)) : AW G R nL (cells, slots, ad, N, β) pc lv (.int x :: .int i :: .ref k :: st) μ := by
  obtain ⟨p, l, e, s, m, args, below, meth, c, Q, D, cA, sa, A⟩ := G
  obtain ⟨hx, hb, hml, hown, hts, hK, hSt, hlk⟩ := X
  refine fun H locs L hM hA hS hL => va_zast hx hb hK hM.1 (hM.D hA.1) hS k t (m_ws_at hk |>.trans (by rw [m_pic_arr hs]; rfl)) (m_tys_at ht) hin hd (fun H1 locs1 h1 h2 h3 => ?_)
  rw [hnr] at h1
  exact kk H1 locs1 L (m_ast hs rfl (fun h => by cases h) hM h1) hA h3 hL
theorem AW.last (X : Cx G nL cc own Ts) {k t n : Nat} {i x : Int32} (hk : k < N) (hs : sh k = .inr (t, n, 1)) (ht : m_fts[t]? = some .long) (hin : vp_in i n) (hd : decode cc pc = .ok (.lastore, 1)) (kk : AW G R nL (cells, slots, ad, N, β) (pc + 1) lv st (m_up μ k i.toNatClampNeg x)) : AW G R nL (cells, slots, ad, N, β) pc lv (.long x.toInt64 :: .int i :: .ref k :: st) μ := by
  obtain ⟨p, l, e, s, m, args, below, meth, c, Q, D, cA, sa, A⟩ := G
  obtain ⟨hx, hb, hml, hown, hts, hK, hSt, hlk⟩ := X
  refine fun H locs L hM hA hS hL => va_last (f := fun j => (μ k j).toInt64) hx hb hK hM.1 (hM.D hA.1) hS k t (m_ws_at hk |>.trans (by rw [m_pic_arr hs]; rfl)) (m_tys_at ht) hin hd (fun H1 locs1 h1 h2 h3 => ?_)
  refine kk H1 locs1 L (m_ast hs ?_ (fun h => by cases h) hM h1) hA h3 hL
  show Sum.inr (Sum.inl _) = _
  congr 2
  funext j
  by_cases hj : j = i.toNatClampNeg
  · subst hj
    simp [upd, vp_updL]
  · simp [upd, vp_updL, hj]
theorem AW.aast (X : Cx G nL cc own Ts) {k v t n ci : Nat} {r : vw_C} {i x : Int32} (hk : k < N) (hv : v < N) (hs : sh k = .inr (t, n, 2)) (ht : m_fts[t]? = some (.object r.1)) (hsv : sh v = .inl ci) (hc : vwCl[ci]? = some r) (hx0 : ¬ x = 0) (hxv : x.toNatClampNeg - 1 = v) (hin : vp_in i n) (hd : decode cc pc = .ok (.aastore, 1)) (kk : AW G R nL (cells, slots, ad, N, β) (pc + 1) lv st (m_up μ k i.toNatClampNeg x)) : AW G R nL (cells, slots, ad, N, β) pc lv (.ref v :: .int i :: .ref k :: st) μ := by
  obtain ⟨p, l, e, s, m, args, below, meth, c, Q, D, cA, sa, A⟩ := G
  obtain ⟨hx, hb, hml, hown, hts, hK, hSt, hlk⟩ := X
  refine fun H locs L hM hA hS hL => va_astq (f := fun j => m_ov ad (μ k j)) (r := r) (vs := m_obj ad (β v) v (fk ci) (μ v)) hx hb hK hM.1 (hM.D hA.1) hS k t v ci (m_ws_at hk |>.trans (by rw [m_pic_arr hs]; rfl)) (m_tys_at ht) (m_ws_at hv |>.trans (by rw [m_pic_obj hsv])) hc hin hd (fun H1 locs1 h1 h2 h3 => ?_)
  refine kk H1 locs1 L (m_ast hs ?_ (fun _ => Or.inr (by rw [hxv]; exact hv)) hM h1) hA h3 hL
  show Sum.inr (Sum.inr (Sum.inr (Sum.inr _))) = _
  congr 4
  funext j
  by_cases hj : j = i.toNatClampNeg
  · subst hj
    simp [upd, va_up, m_ov, hx0, hxv]
  · simp [upd, va_up, hj]
theorem m_rest (ad : Nat → Nat) (v : Option Value) (rest : List Value) : (v.map (m_cv ad)).toList ++ rest.map (m_cv ad) = (v.toList ++ rest).map (m_cv ad) := by cases v <;> rfl
theorem m_cats (ad : Nat → Nat) (rest : List Value) : (rest.map (m_cv ad)).map (fun v => v.category) = rest.map (fun v => v.category) := by
  rw [List.map_map]
  congr 1
  funext v
  exact m_cv_cat ad v
/-- room of a method that makes no cell: d frames may stand above it -/
def rmD (d : Nat) : Room := { frames := d, cells := 0, slots := 0, locals := 28 * d }
def fb : Nat → Nat → Bool := fun _ _ => true
abbrev KTy : Type := Launch × va_G × (Nat → ClassId) × (Nat → Nat) × (Nat → Prop) × (Nat → Nat) × Nat
def kOf (G : GTy) (ad : Nat → Nat) (N : Nat) : KTy := (G.2.1, G.2.2.2.2.2.2.2.2.2.2.1, G.2.2.2.2.2.2.2.2.2.2.2.1, G.2.2.2.2.2.2.2.2.2.2.2.2.1, G.2.2.2.2.2.2.2.2.2.2.2.2.2, ad, N)
def CTp (K : KTy) (av : List Value) (μ : Mu) : Array Value → State → Prop := match K with
  | (l, D, cA, sa, A, ad, N) => fun v U => v = (av.map (m_cv ad)).toArray ∧ Mem D cA ad N fb μ U.heap ∧ va_K D vwCl (m_tys cA) U ∧ m_S sa A U ∧ (∀ k, k < N → A (ad k)) ∧ ∀ i, ad (SB + i) = sa i
def CTq (K : KTy) (Qr : Option Value → Mu → Prop) : Array Value → State → Outcome → State → Prop := match K with
  | (l, D, cA, sa, A, ad, N) => fun _ st oc t => (∃ (v : Option Value) (μ2 : Mu), oc = .returned (v.map (m_cv ad)) ∧ Qr v μ2 ∧ Mem D cA ad N fb μ2 t.heap) ∧ va_F A st t
/-- the contract of a method that makes no cell -/
def CT (K : KTy) (y : MethodName) (ws : List Cond) (d : Nat) (av : List Value) (μ : Mu) (Qr : Option Value → Mu → Prop) : Prop := Met K.1 y ws (rmD d) (CTp K av μ) (CTq K Qr) 0 0 K.2.2.2.2.1
theorem CTp.blind (K : KTy) (av : List Value) (μ : Mu) : FrameBlind (CTp K av μ) := by
  obtain ⟨l, D, cA, sa, A, ad, N⟩ := K
  intro a U g mk q
  obtain ⟨q0, q1, q2, q3, q4⟩ := q
  exact ⟨q0, q1, va_K.moved (u := U) (U := U.calling g mk a) (Vm.Alike.refl U.vm) q2, m_S.calling q3, q4⟩
theorem CTp.pre {l : Launch} {D : va_G} {cA : Nat → ClassId} {sa : Nat → Nat} {A : Nat → Prop} {ad : Nat → Nat} {N : Nat} {μ : Mu} {H : Heap} {s : State} {locs : List Loc} (av : List Value) (hM : Mem D cA ad N fb μ H) (hK : va_K D vwCl (m_tys cA) s) (hSt : m_S sa A s) (hA : (∀ k, k < N → A (ad k)) ∧ ∀ i, ad (SB + i) = sa i) (hS : va_S A s.heap H locs) : ∀ U : State, U.heap = H → s.WarmedH U.vm → CTp (l, D, cA, sa, A, ad, N) av μ (av.map (m_cv ad)).toArray U := fun U hU hW =>
  ⟨rfl, by rw [hU]; exact hM, va_K.moved hW.alike hK, hSt.at_ hS hW hU, hA.1, hA.2⟩
theorem AW.callV (X : Cx G nL cc own Ts) {y : MethodName} {ws ws' : List Cond} {bytes : ByteArray} {maxL d index nA : Nat} {ret : Option FieldType} {b ci nF : Nat} {C : String} {T : u_T} (As rest : List Value) {Qr : Option Value → Mu → Prop} (hC : CT (kOf G ad N) y ws d (.ref b :: As) μ Qr) (hT : GoodIn Ts (wsV own index C y ws)) (hw : ws = Cond.code y bytes maxL ret :: ws') (hdd : y.cls = C ∧ y.cls ≠ "java/lang/invoke/MethodHandle" ∧ y.cls ≠ "java/lang/invoke/VarHandle" ∧ (parseMethodDescriptor y.desc).map (fun d => d.parameters.length) = some nA) (hnA : As.length = nA) (hbN : b < N) (hs : sh b = .inl ci) (hc : vwCl[ci]? = some (C, T, nF)) (hR : (rmD d).frames + 1 ≤ R.frames ∧ 8 + (maxL + 11) + (rmD d).locals ≤ R.locals) (hf : cells ≤ R.cells ∧ slots ≤ R.slots) (hrm : (rest.map fun v => v.category).sum ≤ 8) (hd : decode cc pc = .ok (.invokevirtual index, 3)) (hst : st = As.reverse ++ .ref b :: rest) (kk : ∀ (v : Option Value) (μ2 : Mu), Qr v μ2 → AW G R nL (cells, slots, ad, N, fb) (pc + 3) lv (v.toList ++ rest) μ2) : AW G R nL (cells, slots, ad, N, fb) pc lv st μ := by
  obtain ⟨p, l, e, s, m, args, below, meth, c, Q, D, cA, sa, A⟩ := G
  obtain ⟨hx, hb, hml, hown, hts, hK, hSt, hlk⟩ := X
  subst hst
  intro H locs L hM hA hS hL
  have hrun := va_runV (C := C) (b := ad b) (p := p) (e := e) (R := R) (below := below) (meth := meth) (locs := locs) (cells := cells) (slots := slots) (As := As.map (m_cv ad)) (rest := rest.map (m_cv ad)) (g := F0 m pc L ((As.reverse ++ .ref b :: rest).map (m_cv ad))) ⟨hx, hb, hml, hown, hts⟩ hC (cwV nA hts hT hw rfl rfl hdd hR) ⟨CTp.blind _ _ _, va_recv hK hM.1 hc (m_ws_at hbN |>.trans (by rw [m_pic_obj hs])), CTp.pre (.ref b :: As) hM hK hSt hA hS⟩ rfl (by rw [List.length_map]; exact hnA) hL.1 (by rw [List.map_append, List.map_reverse] <;> rfl) (lv_room (by rw [m_cats]; exact hrm)) hd hf
  intro T hT X
  obtain ⟨v, st₀, t, T', Lx, h0, X', hLx, e1, e2, ⟨⟨v2, μ2, hv, hq, hm⟩, hz, hk⟩, st⟩ := hrun T hT X
  cases hv
  rw [h0] at hz hk
  rw [m_rest] at st
  have hm' : Mem D cA ad N fb μ2 T'.heap := by rw [e1]; exact hm
  have hS' : va_S A s.heap T'.heap (locs ++ Lx) := ⟨Nat.le_trans hS.1 (by rw [e1]; exact hz), fun q h1 h2 => by rw [e1, hk q (Nat.lt_of_lt_of_le h1 hS.1) h2]; exact hS.2.1 q h1 h2, fun q hq => by
      rcases List.mem_append.mp hq with h | h
      · exact hS.2.2 q h
      · exact hLx q h⟩
  obtain ⟨t2, a1, b1⟩ := kk v2 μ2 hq T'.heap (locs ++ Lx) L hm' hA hS' hL T' rfl X'
  exact ⟨t2, st t2 a1, b1⟩
theorem AW.callS (X : Cx G nL cc own Ts) {y : MethodName} {ws ws' : List Cond} {bytes : ByteArray} {maxL d index nA : Nat} {ret : Option FieldType}  (As rest : List Value) {Qr : Option Value → Mu → Prop} (hC : CT (kOf G ad N) y ws d (As) μ Qr) (hT : GoodIn Ts (wsS own index y ws)) (hw : ws = Cond.code y bytes maxL ret :: ws') (hdd : y.cls = own ∧ y.cls ≠ "java/lang/invoke/MethodHandle" ∧ y.cls ≠ "java/lang/invoke/VarHandle" ∧ (parseMethodDescriptor y.desc).map (fun d => d.parameters.length) = some nA) (hnA : As.length = nA) (hR : (rmD d).frames + 1 ≤ R.frames ∧ 8 + (maxL + 11) + (rmD d).locals ≤ R.locals) (hf : cells ≤ R.cells ∧ slots ≤ R.slots) (hrm : (rest.map fun v => v.category).sum ≤ 8) (hd : decode cc pc = .ok (.invokestatic index, 3)) (hst : st = As.reverse ++ rest) (kk : ∀ (v : Option Value) (μ2 : Mu), Qr v μ2 → AW G R nL (cells, slots, ad, N, fb) (pc + 3) lv (v.toList ++ rest) μ2) : AW G R nL (cells, slots, ad, N, fb) pc lv st μ := by
  obtain ⟨p, l, e, s, m, args, below, meth, c, Q, D, cA, sa, A⟩ := G
  obtain ⟨hx, hb, hml, hown, hts, hK, hSt, hlk⟩ := X
  subst hst
  intro H locs L hM hA hS hL
  have hrun := va_runS (p := p) (e := e) (R := R) (below := below) (meth := meth) (locs := locs) (cells := cells) (slots := slots) (As := As.map (m_cv ad)) (rest := rest.map (m_cv ad)) (g := F0 m pc L ((As.reverse ++ rest).map (m_cv ad))) ⟨hx, hb, hml, hown, hts⟩ hC (cwS nA hts hT hw rfl rfl hdd hR) ⟨CTp.blind _ _ _, CTp.pre As hM hK hSt hA hS⟩ rfl (by rw [List.length_map]; exact hnA) hL.1 (by rw [List.map_append, List.map_reverse] <;> rfl) (lv_room (by rw [m_cats]; exact hrm)) hd hf
  intro T hT X
  obtain ⟨v, st₀, t, T', Lx, h0, X', hLx, e1, e2, ⟨⟨v2, μ2, hv, hq, hm⟩, hz, hk⟩, st⟩ := hrun T hT X
  cases hv
  rw [h0] at hz hk
  rw [m_rest] at st
  have hm' : Mem D cA ad N fb μ2 T'.heap := by rw [e1]; exact hm
  have hS' : va_S A s.heap T'.heap (locs ++ Lx) := ⟨Nat.le_trans hS.1 (by rw [e1]; exact hz), fun q h1 h2 => by rw [e1, hk q (Nat.lt_of_lt_of_le h1 hS.1) h2]; exact hS.2.1 q h1 h2, fun q hq => by
      rcases List.mem_append.mp hq with h | h
      · exact hS.2.2 q h
      · exact hLx q h⟩
  obtain ⟨t2, a1, b1⟩ := kk v2 μ2 hq T'.heap (locs ++ Lx) L hm' hA hS' hL T' rfl X'
  exact ⟨t2, st t2 a1, b1⟩
theorem AW.ialdN (X : Cx G nL cc own Ts) {k t n j : Nat} (hk : k < N) (hs : sh k = .inr (t, n, 0)) (ht : m_fts[t]? = some .int) (hj : j < n) (hn : n ≤ 1000) (hd : decode cc pc = .ok (.iaload, 1)) (kk : AW G R nL (cells, slots, ad, N, β) (pc + 1) lv (.int (μ k j) :: st) μ) : AW G R nL (cells, slots, ad, N, β) pc lv (.int (nI j) :: .ref k :: st) μ := by
  refine AW.iald X hk hs ht (vp_in_nI hj (by omega)) hd ?_
  rw [nI_clamp (by omega)]
  exact kk
theorem AW.zaldN (X : Cx G nL cc own Ts) {k t n j : Nat} (hk : k < N) (hs : sh k = .inr (t, n, 0)) (ht : m_fts[t]? = some .boolean) (hj : j < n) (hn : n ≤ 1000) (hd : decode cc pc = .ok (.baload, 1)) (kk : AW G R nL (cells, slots, ad, N, β) (pc + 1) lv (.int (μ k j) :: st) μ) : AW G R nL (cells, slots, ad, N, β) pc lv (.int (nI j) :: .ref k :: st) μ := by
  refine AW.zald X hk hs ht (vp_in_nI hj (by omega)) hd ?_
  rw [nI_clamp (by omega)]
  exact kk
theorem AW.baldN (X : Cx G nL cc own Ts) {k t n j : Nat} (hk : k < N) (hs : sh k = .inr (t, n, 0)) (ht : m_fts[t]? = some .byte) (hj : j < n) (hn : n ≤ 1000) (hd : decode cc pc = .ok (.baload, 1)) (kk : AW G R nL (cells, slots, ad, N, β) (pc + 1) lv (.int (μ k j) :: st) μ) : AW G R nL (cells, slots, ad, N, β) pc lv (.int (nI j) :: .ref k :: st) μ := by
  refine AW.bald X hk hs ht (vp_in_nI hj (by omega)) hd ?_
  rw [nI_clamp (by omega)]
  exact kk
theorem AW.aaldN (X : Cx G nL cc own Ts) {k t n j : Nat} {C : String} {v : Value} (hk : k < N) (hs : sh k = .inr (t, n, 2)) (ht : m_fts[t]? = some (.object C)) (hj : j < n) (hn : n ≤ 1000) (hv : m_rv (μ k j) = v) (hd : decode cc pc = .ok (.aaload, 1)) (kk : AW G R nL (cells, slots, ad, N, β) (pc + 1) lv (v :: st) μ) : AW G R nL (cells, slots, ad, N, β) pc lv (.int (nI j) :: .ref k :: st) μ :=
  AW.aald X hk hs ht (vp_in_nI hj (by omega)) (by rw [nI_clamp (by omega)]; exact hv) hd kk
theorem AW.iastN (X : Cx G nL cc own Ts) {k t n j : Nat} {x : Int32} (hk : k < N) (hs : sh k = .inr (t, n, 0)) (ht : m_fts[t]? = some .int) (hj : j < n) (hn : n ≤ 1000) (hd : decode cc pc = .ok (.iastore, 1)) (kk : AW G R nL (cells, slots, ad, N, β) (pc + 1) lv st (m_up μ k j x)) : AW G R nL (cells, slots, ad, N, β) pc lv (.int x :: .int (nI j) :: .ref k :: st) μ := by
  refine AW.iast X hk hs ht (vp_in_nI hj (by omega)) hd ?_
  rw [nI_clamp (by omega)]
  exact kk
theorem AW.bastN (X : Cx G nL cc own Ts) {k t n j : Nat} {x : Int32} (hk : k < N) (hs : sh k = .inr (t, n, 0)) (ht : m_fts[t]? = some .byte) (hj : j < n) (hn : n ≤ 1000) (hnr : vp_nar .byte x = x) (hd : decode cc pc = .ok (.bastore, 1)) (kk : AW G R nL (cells, slots, ad, N, β) (pc + 1) lv st (m_up μ k j x)) : AW G R nL (cells, slots, ad, N, β) pc lv (.int x :: .int (nI j) :: .ref k :: st) μ := by
  refine AW.bast X hk hs ht (vp_in_nI hj (by omega)) hnr hd ?_
  rw [nI_clamp (by omega)]
  exact kk
theorem AW.zastN (X : Cx G nL cc own Ts) {k t n j : Nat} {x : Int32} (hk : k < N) (hs : sh k = .inr (t, n, 0)) (ht : m_fts[t]? = some .boolean) (hj : j < n) (hn : n ≤ 1000) (hnr : vp_nar .boolean x = x) (hd : decode cc pc = .ok (.bastore, 1)) (kk : AW G R nL (cells, slots, ad, N, β) (pc + 1) lv st (m_up μ k j x)) : AW G R nL (cells, slots, ad, N, β) pc lv (.int x :: .int (nI j) :: .ref k :: st) μ := by
  refine AW.zast X hk hs ht (vp_in_nI hj (by omega)) hnr hd ?_
  rw [nI_clamp (by omega)]
  exact kk
theorem AW.aastN (X : Cx G nL cc own Ts) {k v t n ci j : Nat} {r : vw_C} (hk : k < N) (hv : v < N) (hv2 : v < 100000) (hs : sh k = .inr (t, n, 2)) (ht : m_fts[t]? = some (.object r.1)) (hsv : sh v = .inl ci) (hc : vwCl[ci]? = some r) (hj : j < n) (hn : n ≤ 1000) (hd : decode cc pc = .ok (.aastore, 1)) (kk : AW G R nL (cells, slots, ad, N, β) (pc + 1) lv st (m_up μ k j (nI (v + 1)))) : AW G R nL (cells, slots, ad, N, β) pc lv (.ref v :: .int (nI j) :: .ref k :: st) μ := by
  refine AW.aast X hk hv hs ht hsv hc (nI_ne0 (Nat.succ_pos v) (by omega)) (by rw [nI_clamp (by omega)]; rfl) (vp_in_nI hj (by omega)) hd ?_
  rw [nI_clamp (by omega)]
  exact kk
end AWrows
theorem i_lt {x y : Int32} {a b : Int} (hx : x.toInt = a) (hy : y.toInt = b) : x < y ↔ a < b := by rw [Int32.lt_iff_toInt_lt, hx, hy]
theorem i_le {x y : Int32} {a b : Int} (hx : x.toInt = a) (hy : y.toInt = b) : x ≤ y ↔ a ≤ b := by rw [Int32.le_iff_toInt_le, hx, hy]
theorem i_eq {x y : Int32} {a b : Int} (hx : x.toInt = a) (hy : y.toInt = b) : x = y ↔ a = b := by rw [← Int32.toInt_inj, hx, hy]
def bi (b : Bool) : Int32 := if b = true then 1 else 0
theorem bi_nar (b : Bool) : narrow .boolean (.int (bi b)) = .int (bi b) := by cases b <;> rfl
theorem bi_ne {b : Bool} : ¬ bi b = 0 ↔ b = true := by cases b <;> decide
theorem bi_eq {b : Bool} : bi b = 0 ↔ b = false := by cases b <;> decide
theorem gv_V {k2 : Cond} {own C : String} {index : Nat} {y : MethodName} (h1 : Cond.methodLink own index y ∈ GT) (h2 : Cond.instanceMethod y ∈ GT) (h3 : Cond.selects C y y ∈ GT) (h4 : Cond.initialized C ∈ GT) (h5 : k2 ∈ GT) : GoodIn GT (wsV own index C y (k2 :: GT)) := by
  intro w hw
  have : w ∈ GT := by
    simp only [wsV, List.cons_append, List.nil_append, List.mem_cons] at hw
    rcases hw with rfl | rfl | rfl | rfl | rfl | hw
    · exact h1
    · exact h2
    · exact h3
    · exact h4
    · exact h5
    · exact hw
  exact ⟨this, gt_good this⟩
theorem gv_S {k2 : Cond} {own : String} {index : Nat} {y : MethodName} (h1 : Cond.methodLink own index y ∈ GT) (h2 : Cond.static y ∈ GT) (h4 : Cond.initialized own ∈ GT) (h5 : k2 ∈ GT) : GoodIn GT (wsS own index y (k2 :: GT)) := by
  intro w hw
  have : w ∈ GT := by
    simp only [wsS, List.cons_append, List.nil_append, List.mem_cons] at hw
    rcases hw with rfl | rfl | rfl | rfl | hw
    · exact h1
    · exact h2
    · exact h4
    · exact h5
    · exact hw
  exact ⟨this, gt_good this⟩
theorem lv_args_m (ad : Nat → Nat) : ∀ (vs : List Value) (i : Nat), lv_args i (vs.map (m_cv ad)) = m_lv ad (lv_args i vs)
  | [], _ => rfl
  | v :: vs, i => by
    show (i, m_cv ad v) :: lv_args _ _ = (i, m_cv ad v) :: m_lv ad (lv_args _ vs)
    rw [m_cv_cat, lv_args_m ad vs]
theorem lg_sl_m (ad : Nat → Nat) : ∀ (vs : List Value), (lg_sl (vs.map (m_cv ad))).length = (lg_sl vs).length
  | [] => rfl
  | v :: vs => by
    have ih := lg_sl_m ad vs
    unfold lg_sl at ih ⊢
    rw [List.map_cons, List.flatMap_cons, List.flatMap_cons, List.length_append, List.length_append, ih]
    cases v <;> rfl
/-- a method's body, walked: its contract -/
theorem CT.of {K : KTy} {y : MethodName} {own : String} {ws ws' : List Cond} {d : Nat} {av : List Value} {μ : Mu} {Qr : Option Value → Mu → Prop} {cc : ByteArray} {maxL : Nat} {ret : Option FieldType} (hy : plainName y.cls = true) (ho : y.cls = own) (hw : ws = Cond.code y cc maxL ret :: ws') (hnl : (lg_sl av).length ≤ maxL)
    (body : ∀ (G : GTy) (ad : Nat → Nat) (N : Nat), kOf G ad N = K → Cx G maxL cc own ws' → G.2.2.2.2.2.2.2.1.sig.returnType = ret →
      (∀ (pc : Nat) (lv : List (Nat × Value)) (st : List Value) (v : Option Value) (μ2 : Mu), st = v.toList → ((ret = none ∧ v = none ∧ decode cc pc = .ok (.return_, 1)) ∨ (∃ x : Int32, v = some (.int x) ∧ decode cc pc = .ok (.ireturn, 1) ∧ (ret = some .int ∨ (ret = some .boolean ∧ narrow .boolean (.int x) = .int x) ∨ (ret = some .char ∧ narrow .char (.int x) = .int x) ∨ (ret = some .byte ∧ narrow .byte (.int x) = .int x))) ∨ (∃ x : Int64, v = some (.long x) ∧ decode cc pc = .ok (.lreturn, 1) ∧ ret = some .long) ∨ (∃ r : Value, v = some r ∧ (r = .null ∨ ∃ k, r = .ref k) ∧ decode cc pc = .ok (.areturn, 1) ∧ ∃ n, ret = some (.object n))) → Qr v μ2 → AW G (rmD d) maxL (0, 0, ad, N, fb) pc lv st μ2) →
      AW G (rmD d) maxL (0, 0, ad, N, fb) 0 (lv_args 0 av) [] μ) : CT K y ws d av μ Qr := by
  obtain ⟨l, D, cA, sa, A, ad, N⟩ := K
  refine Met.ofW (cc := cc) (maxL := maxL) (ret := ret) hy hw ?_
  intro p e s m args below meth c s₁ B hml hv
  obtain ⟨rfl, hM, hK, hSt, hA1, hA2⟩ := hv
  have hx := B.exec
  have hb := B.bytes
  have hr := B.returns
  have hts : ∀ w ∈ ws', w.before (av.map (m_cv ad)).toArray s = true := fun w h => atoms_spec (ws := ws) B.pre w (by rw [hw]; exact List.mem_cons_of_mem _ h)
  have hown : s.vm.findClass own = some m.cls := by rw [← ho]; exact findClass_of_methodNamed B.named
  have hlocks := B.notSynchronized
  have hl := lv_entry (av.map (m_cv ad)) (n := maxL) (by rw [lg_sl_m]; exact hnl)
  rw [lv_args_m] at hl
  rw [lg_entry_eq]
  have key := body (p, l, e, s, m, (av.map (m_cv ad)).toArray, below, meth, c, MQ below (CTq (l, D, cA, sa, A, ad, N) Qr) (av.map (m_cv ad)).toArray s 0 0 A, D, cA, sa, A) ad N rfl ⟨hx, hb, hml, hown, hts, hK, hSt, hlocks⟩ hr ?_
  · exact key s.heap [] _ hM ⟨hA1, hA2⟩ va_S.rf hl
  · intro pc lv st v μ2 hst hcase hq H locs L hM2 hA hS hL
    subst hst
    have hend : ∀ (o : Option Value), o = v.map (m_cv ad) → ∀ t : State, t.heap = H → s.WarmedH t.vm → CTq (l, D, cA, sa, A, ad, N) Qr (av.map (m_cv ad)).toArray s (.returned o) t := fun o ho t ht _ => ⟨⟨v, μ2, by rw [ho], hq, by rw [ht]; exact hM2⟩, hS.F ht⟩
    rcases hcase with ⟨h1, rfl, h2⟩ | ⟨x, rfl, h2, h3⟩ | ⟨x, rfl, h2, h3⟩ | ⟨r, rfl, h3, h2, n, h4⟩
    · exact W.vret hx hb (hr.trans h1) (hend none rfl) hS.2.2 h2
    · rcases h3 with h3 | ⟨h3, h4⟩ | ⟨h3, h4⟩ | ⟨h3, h4⟩
      · exact W.iret hx hb (hr.trans h3) (hend _ rfl) hS.2.2 h2
      · exact W.zret hx hb (hr.trans h3) h4 (hend _ rfl) hS.2.2 h2
      · exact W.zret hx hb (hr.trans h3) h4 (hend _ rfl) hS.2.2 h2
      · exact W.zret hx hb (hr.trans h3) h4 (hend _ rfl) hS.2.2 h2
    · exact W.lret hx hb (hr.trans h3) (hend _ rfl) hS.2.2 h2
    · exact W.aret (v := m_cv ad r) hx hb (hr.trans h4) (Or.inl ⟨n, rfl⟩) (by rcases h3 with rfl | ⟨k, rfl⟩; exact Or.inl rfl; exact Or.inr ⟨_, rfl⟩) (hend _ rfl) hS.2.2 h2
theorem CT.int {K : KTy} {y : MethodName} {own : String} {ws ws' : List Cond} {d : Nat} {av : List Value} {μ : Mu} {Qr : Option Value → Mu → Prop} {cc : ByteArray} {maxL : Nat}  (hy : plainName y.cls = true) (ho : y.cls = own) (hw : ws = Cond.code y cc maxL (some .int) :: ws') (hnl : (lg_sl av).length ≤ maxL)
    (body : ∀ (G : GTy) (ad : Nat → Nat) (N : Nat), kOf G ad N = K → Cx G maxL cc own ws' → (∀ (pc : Nat) (lv : List (Nat × Value)) (x : Int32) (μ2 : Mu), decode cc pc = .ok (.ireturn, 1) → Qr (some (.int x)) μ2 → AW G (rmD d) maxL (0, 0, ad, N, fb) pc lv [.int x] μ2) → AW G (rmD d) maxL (0, 0, ad, N, fb) 0 (lv_args 0 av) [] μ) : CT K y ws d av μ Qr :=
  CT.of hy ho hw hnl (fun G ad N hK X _ hret => body G ad N hK X (fun pc lv x μ2 hd hq => hret pc lv _ (some (.int x)) μ2 rfl (Or.inr (Or.inl ⟨x, rfl, hd, Or.inl rfl⟩)) hq))
theorem CT.bool {K : KTy} {y : MethodName} {own : String} {ws ws' : List Cond} {d : Nat} {av : List Value} {μ : Mu} {Qr : Option Value → Mu → Prop} {cc : ByteArray} {maxL : Nat}  (hy : plainName y.cls = true) (ho : y.cls = own) (hw : ws = Cond.code y cc maxL (some .boolean) :: ws') (hnl : (lg_sl av).length ≤ maxL)
    (body : ∀ (G : GTy) (ad : Nat → Nat) (N : Nat), kOf G ad N = K → Cx G maxL cc own ws' → (∀ (pc : Nat) (lv : List (Nat × Value)) (x : Int32) (μ2 : Mu), decode cc pc = .ok (.ireturn, 1) → narrow .boolean (.int x) = .int x → Qr (some (.int x)) μ2 → AW G (rmD d) maxL (0, 0, ad, N, fb) pc lv [.int x] μ2) → AW G (rmD d) maxL (0, 0, ad, N, fb) 0 (lv_args 0 av) [] μ) : CT K y ws d av μ Qr :=
  CT.of hy ho hw hnl (fun G ad N hK X _ hret => body G ad N hK X (fun pc lv x μ2 hd hn hq => hret pc lv _ (some (.int x)) μ2 rfl (Or.inr (Or.inl ⟨x, rfl, hd, Or.inr (Or.inl ⟨rfl, hn⟩)⟩)) hq))
theorem CT.long {K : KTy} {y : MethodName} {own : String} {ws ws' : List Cond} {d : Nat} {av : List Value} {μ : Mu} {Qr : Option Value → Mu → Prop} {cc : ByteArray} {maxL : Nat}  (hy : plainName y.cls = true) (ho : y.cls = own) (hw : ws = Cond.code y cc maxL (some .long) :: ws') (hnl : (lg_sl av).length ≤ maxL)
    (body : ∀ (G : GTy) (ad : Nat → Nat) (N : Nat), kOf G ad N = K → Cx G maxL cc own ws' → (∀ (pc : Nat) (lv : List (Nat × Value)) (x : Int64) (μ2 : Mu), decode cc pc = .ok (.lreturn, 1) → Qr (some (.long x)) μ2 → AW G (rmD d) maxL (0, 0, ad, N, fb) pc lv [.long x] μ2) → AW G (rmD d) maxL (0, 0, ad, N, fb) 0 (lv_args 0 av) [] μ) : CT K y ws d av μ Qr :=
  CT.of hy ho hw hnl (fun G ad N hK X _ hret => body G ad N hK X (fun pc lv x μ2 hd hq => hret pc lv _ (some (.long x)) μ2 rfl (Or.inr (Or.inr (Or.inl ⟨x, rfl, hd, rfl⟩))) hq))
theorem CT.char {K : KTy} {y : MethodName} {own : String} {ws ws' : List Cond} {d : Nat} {av : List Value} {μ : Mu} {Qr : Option Value → Mu → Prop} {cc : ByteArray} {maxL : Nat}  (hy : plainName y.cls = true) (ho : y.cls = own) (hw : ws = Cond.code y cc maxL (some .char) :: ws') (hnl : (lg_sl av).length ≤ maxL)
    (body : ∀ (G : GTy) (ad : Nat → Nat) (N : Nat), kOf G ad N = K → Cx G maxL cc own ws' → (∀ (pc : Nat) (lv : List (Nat × Value)) (x : Int32) (μ2 : Mu), decode cc pc = .ok (.ireturn, 1) → narrow .char (.int x) = .int x → Qr (some (.int x)) μ2 → AW G (rmD d) maxL (0, 0, ad, N, fb) pc lv [.int x] μ2) → AW G (rmD d) maxL (0, 0, ad, N, fb) 0 (lv_args 0 av) [] μ) : CT K y ws d av μ Qr :=
  CT.of hy ho hw hnl (fun G ad N hK X _ hret => body G ad N hK X (fun pc lv x μ2 hd hn hq => hret pc lv _ (some (.int x)) μ2 rfl (Or.inr (Or.inl ⟨x, rfl, hd, Or.inr (Or.inr (Or.inl ⟨rfl, hn⟩))⟩)) hq))
theorem CT.byte {K : KTy} {y : MethodName} {own : String} {ws ws' : List Cond} {d : Nat} {av : List Value} {μ : Mu} {Qr : Option Value → Mu → Prop} {cc : ByteArray} {maxL : Nat}  (hy : plainName y.cls = true) (ho : y.cls = own) (hw : ws = Cond.code y cc maxL (some .byte) :: ws') (hnl : (lg_sl av).length ≤ maxL)
    (body : ∀ (G : GTy) (ad : Nat → Nat) (N : Nat), kOf G ad N = K → Cx G maxL cc own ws' → (∀ (pc : Nat) (lv : List (Nat × Value)) (x : Int32) (μ2 : Mu), decode cc pc = .ok (.ireturn, 1) → narrow .byte (.int x) = .int x → Qr (some (.int x)) μ2 → AW G (rmD d) maxL (0, 0, ad, N, fb) pc lv [.int x] μ2) → AW G (rmD d) maxL (0, 0, ad, N, fb) 0 (lv_args 0 av) [] μ) : CT K y ws d av μ Qr :=
  CT.of hy ho hw hnl (fun G ad N hK X _ hret => body G ad N hK X (fun pc lv x μ2 hd hn hq => hret pc lv _ (some (.int x)) μ2 rfl (Or.inr (Or.inl ⟨x, rfl, hd, Or.inr (Or.inr (Or.inr ⟨rfl, hn⟩))⟩)) hq))
theorem CT.void {K : KTy} {y : MethodName} {own : String} {ws ws' : List Cond} {d : Nat} {av : List Value} {μ : Mu} {Qr : Option Value → Mu → Prop} {cc : ByteArray} {maxL : Nat}  (hy : plainName y.cls = true) (ho : y.cls = own) (hw : ws = Cond.code y cc maxL none :: ws') (hnl : (lg_sl av).length ≤ maxL)
    (body : ∀ (G : GTy) (ad : Nat → Nat) (N : Nat), kOf G ad N = K → Cx G maxL cc own ws' → (∀ (pc : Nat) (lv : List (Nat × Value)) (μ2 : Mu), decode cc pc = .ok (.return_, 1) → Qr none μ2 → AW G (rmD d) maxL (0, 0, ad, N, fb) pc lv [] μ2) → AW G (rmD d) maxL (0, 0, ad, N, fb) 0 (lv_args 0 av) [] μ) : CT K y ws d av μ Qr :=
  CT.of hy ho hw hnl (fun G ad N hK X _ hret => body G ad N hK X (fun pc lv μ2 hd hq => hret pc lv _ none μ2 rfl (Or.inl ⟨rfl, rfl, hd⟩) hq))
theorem CT.ref {K : KTy} {y : MethodName} {own : String} {ws ws' : List Cond} {d : Nat} {av : List Value} {μ : Mu} {Qr : Option Value → Mu → Prop} {cc : ByteArray} {maxL : Nat} {n : String} (hy : plainName y.cls = true) (ho : y.cls = own) (hw : ws = Cond.code y cc maxL (some (.object n)) :: ws') (hnl : (lg_sl av).length ≤ maxL)
    (body : ∀ (G : GTy) (ad : Nat → Nat) (N : Nat), kOf G ad N = K → Cx G maxL cc own ws' → (∀ (pc : Nat) (lv : List (Nat × Value)) (r : Value) (μ2 : Mu), decode cc pc = .ok (.areturn, 1) → (r = .null ∨ ∃ k, r = .ref k) → Qr (some r) μ2 → AW G (rmD d) maxL (0, 0, ad, N, fb) pc lv [r] μ2) → AW G (rmD d) maxL (0, 0, ad, N, fb) 0 (lv_args 0 av) [] μ) : CT K y ws d av μ Qr :=
  CT.of hy ho hw hnl (fun G ad N hK X _ hret => body G ad N hK X (fun pc lv r μ2 hd hn hq => hret pc lv _ (some r) μ2 rfl (Or.inr (Or.inr (Or.inr ⟨r, rfl, hn, hd, n, rfl⟩))) hq))
end
section
/-- a value that speaks of cells below N, or of those that nobody writes -/
def m_ok (N : Nat) (v : Value) : Prop := match v with
  | .ref k => k < N ∨ SB ≤ k
  | _ => True
theorem m_cv_ok {ad ad2 sa : Nat → Nat} {N : Nat} {v : Value} (h : m_ok N v) (h1 : ∀ k, k < N → ad2 k = ad k) (h2 : ∀ i, ad (SB + i) = sa i) (h3 : ∀ i, ad2 (SB + i) = sa i) : m_cv ad2 v = m_cv ad v := by
  cases v with
  | ref k =>
    show Value.ref (ad2 k) = Value.ref (ad k)
    rcases h with h | h
    · rw [h1 k h]
    · have e : k = SB + (k - SB) := (Nat.add_sub_cancel' h).symm
      rw [e, h2, h3]
  | _ => rfl
theorem m_map_ok {ad ad2 sa : Nat → Nat} {N : Nat} {st : List Value} (h : ∀ v ∈ st, m_ok N v) (h1 : ∀ k, k < N → ad2 k = ad k) (h2 : ∀ i, ad (SB + i) = sa i) (h3 : ∀ i, ad2 (SB + i) = sa i) : st.map (m_cv ad2) = st.map (m_cv ad) :=
  List.map_congr_left fun v hv => m_cv_ok (h v hv) h1 h2 h3
theorem m_lv_ok {ad ad2 sa : Nat → Nat} {N : Nat} {lv : List (Nat × Value)} (h : ∀ q ∈ lv, m_ok N q.2) (h1 : ∀ k, k < N → ad2 k = ad k) (h2 : ∀ i, ad (SB + i) = sa i) (h3 : ∀ i, ad2 (SB + i) = sa i) : m_lv ad2 lv = m_lv ad lv :=
  List.map_congr_left fun q hq => by rw [m_cv_ok (h q hq) h1 h2 h3]
theorem m_pic_ad {cA : Nat → ClassId} {ad ad2 : Nat → Nat} {β : Nat → Nat → Bool} {μ : Mu} {N k : Nat} (hw : m_wf N β μ) (hk : k < N) (h1 : ∀ k, k < N → ad2 k = ad k) : m_pic cA ad2 β μ k = m_pic cA ad β μ k := by
  cases hs : sh k with
  | inl ci =>
    rw [m_pic_obj hs, m_pic_obj hs]
    congr 2
    apply List.ext_getElem?
    intro j
    simp only [m_obj, List.getElem?_mapIdx]
    cases hf : (fk ci)[j]? with
    | none => rfl
    | some f =>
      cases f with
      | none => rfl
      | some o =>
        cases hb : β k j with
        | false => rfl
        | true =>
          show some (Value.ref (ad2 (k + o))) = some (Value.ref (ad (k + o)))
          rw [h1 _ (hw.2 k ci j o hk hs hf hb)]
  | inr q =>
    obtain ⟨t, n, kd⟩ := q
    rw [m_pic_arr hs, m_pic_arr hs]
    congr 3
    have hkd := sh_kd hs
    rcases (show kd = 0 ∨ kd = 1 ∨ kd = 2 by omega) with rfl | rfl | rfl
    · rfl
    · rfl
    · show Sum.inr (Sum.inr (Sum.inr (Sum.inr _))) = Sum.inr (Sum.inr (Sum.inr (Sum.inr _)))
      congr 4
      funext j
      unfold m_ov
      rcases hw.1 k t n hk hs j with h | h
      · rw [if_pos h, if_pos h]
      · rw [h1 _ h]
theorem m_ws_grow {cA : Nat → ClassId} {ad : Nat → Nat} {β : Nat → Nat → Bool} {μ : Mu} {N q : Nat} {x : va_E} (hw : m_wf N β μ) (hx : m_pic cA (va_up ad N q) β μ N = x) : m_ws cA ad β μ N ++ [(q, x)] = m_ws cA (va_up ad N q) β μ (N + 1) := by
  unfold m_ws
  rw [List.range_succ, List.map_append]
  congr 1
  · apply List.map_congr_left
    intro k hk
    have hk : k < N := List.mem_range.mp hk
    have e : va_up ad N q k = ad k := va_up_ne _ _ (by omega)
    rw [e, m_pic_ad hw hk (fun i hi => va_up_ne _ _ (by omega))]
  · show [(q, x)] = [(va_up ad N q N, m_pic cA (va_up ad N q) β μ N)]
    rw [va_up_self, hx]
theorem m_grow {D : va_G} {cA : Nat → ClassId} {ad : Nat → Nat} {N : Nat} {β : Nat → Nat → Bool} {μ : Mu} {H H1 : Heap} {A : Nat → Prop} {q : Nat} {x : va_E} (hM : Mem D cA ad N β μ H) (hz : ∀ j, μ N j = 0) (hβ : ∀ j, β N j = false) (hx : m_pic cA (va_up ad N q) β μ N = x)
    (h1 : va_P D vwCl (m_ws cA ad β μ N ++ [(q, x)]) H1) (h2 : va_D A (m_ws cA ad β μ N ++ [(q, x)])) : Mem D cA (va_up ad N q) (N + 1) β μ H1 ∧ ∀ k, k < N + 1 → A (va_up ad N q k) := by
  rw [m_ws_grow hM.2.2 hx] at h1 h2
  refine ⟨⟨h1, fun j k hj hk e => ?_, fun k t n hk hs j => ?_, fun k ci j o hk hs hf hb => ?_⟩, fun k hk => h2.2 k _ (m_ws_at hk)⟩
  · exact h2.1 j k _ _ (m_ws_at hj) (m_ws_at hk) e
  · by_cases hkN : k = N
    · subst hkN
      exact Or.inl (hz j)
    · rcases hM.2.2.1 k t n (by omega) hs j with h | h
      · exact Or.inl h
      · exact Or.inr (by omega)
  · by_cases hkN : k = N
    · subst hkN
      rw [hβ j] at hb
      cases hb
    · have := hM.2.2.2 k ci j o (by omega) hs hf hb
      omega
section AWalloc
variable {G : GTy} {R : Room} {nL cells slots : Nat} {ad : Nat → Nat} {N : Nat} {β : Nat → Nat → Bool} {pc : Nat} {lv lv2 : List (Nat × Value)} {st : List Value} {μ : Mu} {cc : ByteArray} {own : String} {Ts : List Cond}
/-- what a row that makes a cell asks: the code N is the next one, unused so far -/
def m_new (G : GTy) (N : Nat) (β : Nat → Nat → Bool) (μ : Mu) (lv : List (Nat × Value)) (st : List Value) : Prop := N < SB ∧ (∀ q, G.2.2.2.1.heap.size ≤ q → G.2.2.2.2.2.2.2.2.2.2.2.2.2 q) ∧ (∀ j, μ N j = 0) ∧ (∀ j, β N j = false) ∧ (∀ q ∈ lv, m_ok N q.2) ∧ ∀ v ∈ st, m_ok N v
theorem AW.new (X : Cx G nL cc own Ts) {ci nF index : Nat} {C : String} {T : u_T} (ty0 : Nat → FieldType) (hs : sh N = .inl ci) (hc : vwCl[ci]? = some (C, T, nF)) (hin : ∀ w ∈ u_ws C T nF, w ∈ Ts) (hty : ∀ k, k < nF → parseFieldDescriptor (T k).2.2.1 = some (ty0 k)) (hcl : Cond.classLink own index C ∈ Ts) (hins : Cond.instantiable C nF ∈ Ts) (hini : Cond.initialized C ∈ Ts) (hfs : ∀ j, j < nF → defaultValue (ty0 j) = vp_V (m_obj (fun _ => 0) (fun _ => false) 0 (fk ci) (fun _ => 0)) j) (hw : m_new G N β μ lv st) (hcells : cells + 1 ≤ R.cells) (hslots : slots + nF ≤ R.slots) (hd : decode cc pc = .ok (.new index, 3)) (kk : ∀ q : Nat, AW G R nL (cells + 1, slots + nF, va_up ad N q, N + 1, β) (pc + 3) lv (.ref N :: st) μ) : AW G R nL (cells, slots, ad, N, β) pc lv (st) μ := by
  obtain ⟨p, l, e, s, m, args, below, meth, c, Q, D, cA, sa, A⟩ := G
  obtain ⟨hx, hb, hml, hown, hts, hK, hSt, hlk⟩ := X
  obtain ⟨hNb, hA0, hz, hβ, hlv, hst⟩ := hw
  refine fun H locs L hM hA hS hL => va_new (ci := ci) (fs := m_obj (fun _ => 0) (fun _ => false) 0 (fk ci) (fun _ => 0)) (C := C) (T := T) (N := nF) hx hb hts hin ty0 hty hown (hts _ hcl) (hts _ hins) (hts _ hini) hK hM.1 (hM.D hA.1) hS hA0 hc hfs hcells hslots hd (fun q H1 h1 h2 h3 => ?_)
  have hpic : m_pic cA (va_up ad N q) β μ N = .inr (ci, m_obj (fun _ => 0) (fun _ => false) 0 (fk ci) (fun _ => 0)) := by
    rw [m_pic_obj hs, show β N = fun _ => false from funext hβ, show μ N = fun _ => 0 from funext hz]
    congr 2
  obtain ⟨hM1, hA1⟩ := m_grow (q := q) hM hz hβ hpic h1 h2
  have e1 : ∀ k, k < N → va_up ad N q k = ad k := fun k hk => va_up_ne _ _ (by omega)
  have e2 : ∀ i, va_up ad N q (SB + i) = sa i := fun i => by rw [va_up_ne _ _ (by omega)]; exact hA.2 i
  have key := kk q H1 locs L hM1 ⟨hA1, e2⟩ h3 (by rw [m_lv_ok hlv e1 hA.2 e2]; exact hL)
  rw [List.map_cons, m_map_ok hst e1 hA.2 e2, show m_cv (va_up ad N q) (.ref N) = .ref q from congrArg Value.ref (va_up_self ad N q)] at key
  exact key
theorem AW.newI (X : Cx G nL cc own Ts) {t n : Nat} {i : Int32} (hs : sh N = .inr (t, n, 0)) (ht : m_fts[t]? = some .int) (harr : Cond.arrayClass .int ∈ Ts) (hn : ¬ i < 0) (hN : i.toNatClampNeg = n) (hby : n * componentBytes .int ≤ 536870912) (hw : m_new G N β μ lv st) (hcells : cells + 1 ≤ R.cells) (hslots : slots + n ≤ R.slots) (hd : decode cc pc = .ok (.newarray .int, 2)) (kk : ∀ q : Nat, AW G R nL (cells + 1, slots + n, va_up ad N q, N + 1, β) (pc + 2) lv (.ref N :: st) μ) : AW G R nL (cells, slots, ad, N, β) pc lv (.int i :: st) μ := by
  obtain ⟨p, l, e, s, m, args, below, meth, c, Q, D, cA, sa, A⟩ := G
  obtain ⟨hx, hb, hml, hown, hts, hK, hSt, hlk⟩ := X
  obtain ⟨hNb, hA0, hz, hβ, hlv, hst⟩ := hw
  refine fun H locs L hM hA hS hL => va_newa (atype := .int) (ty := .int) (a0 := (n, .inl (fun _ => 0))) hx hb (hts _ harr) rfl hK hM.1 (hM.D hA.1) hS hA0 (fun cA => rfl) hn hN hby hcells hslots hd (fun q cB H1 hK2 h1 h2 h3 => ?_)
  have hcB : cB = cA t := by
    have g1 := (hK2.2 (m_tys cA).length (cB, .int) (by simp)).2
    have g2 := (hK.2 t (cA t, .int) (m_tys_at ht)).2
    exact Option.some.inj (g1.symm.trans g2)
  subst hcB
  have hpic : m_pic cA (va_up ad N q) β μ N = .inl (cA t, (n, .inl (fun _ => 0))) := by
    rw [m_pic_arr hs, show μ N = fun _ => 0 from funext hz]
    rfl
  obtain ⟨hM1, hA1⟩ := m_grow (q := q) hM hz hβ hpic h1 h2
  have e1 : ∀ k, k < N → va_up ad N q k = ad k := fun k hk => va_up_ne _ _ (by omega)
  have e2 : ∀ i, va_up ad N q (SB + i) = sa i := fun i => by rw [va_up_ne _ _ (by omega)]; exact hA.2 i
  have key := kk q H1 locs L hM1 ⟨hA1, e2⟩ h3 (by rw [m_lv_ok hlv e1 hA.2 e2]; exact hL)
  rw [List.map_cons, m_map_ok hst e1 hA.2 e2, show m_cv (va_up ad N q) (.ref N) = .ref q from congrArg Value.ref (va_up_self ad N q)] at key
  exact key
theorem AW.newL (X : Cx G nL cc own Ts) {t n : Nat} {i : Int32} (hs : sh N = .inr (t, n, 1)) (ht : m_fts[t]? = some .long) (harr : Cond.arrayClass .long ∈ Ts) (hn : ¬ i < 0) (hN : i.toNatClampNeg = n) (hby : n * componentBytes .long ≤ 536870912) (hw : m_new G N β μ lv st) (hcells : cells + 1 ≤ R.cells) (hslots : slots + n ≤ R.slots) (hd : decode cc pc = .ok (.newarray .long, 2)) (kk : ∀ q : Nat, AW G R nL (cells + 1, slots + n, va_up ad N q, N + 1, β) (pc + 2) lv (.ref N :: st) μ) : AW G R nL (cells, slots, ad, N, β) pc lv (.int i :: st) μ := by
  obtain ⟨p, l, e, s, m, args, below, meth, c, Q, D, cA, sa, A⟩ := G
  obtain ⟨hx, hb, hml, hown, hts, hK, hSt, hlk⟩ := X
  obtain ⟨hNb, hA0, hz, hβ, hlv, hst⟩ := hw
  refine fun H locs L hM hA hS hL => va_newa (atype := .long) (ty := .long) (a0 := (n, .inr (.inl (fun _ => 0)))) hx hb (hts _ harr) rfl hK hM.1 (hM.D hA.1) hS hA0 (fun cA => rfl) hn hN hby hcells hslots hd (fun q cB H1 hK2 h1 h2 h3 => ?_)
  have hcB : cB = cA t := by
    have g1 := (hK2.2 (m_tys cA).length (cB, .long) (by simp)).2
    have g2 := (hK.2 t (cA t, .long) (m_tys_at ht)).2
    exact Option.some.inj (g1.symm.trans g2)
  subst hcB
  have hpic : m_pic cA (va_up ad N q) β μ N = .inl (cA t, (n, .inr (.inl (fun _ => 0)))) := by
    rw [m_pic_arr hs, show μ N = fun _ => 0 from funext hz]
    rfl
  obtain ⟨hM1, hA1⟩ := m_grow (q := q) hM hz hβ hpic h1 h2
  have e1 : ∀ k, k < N → va_up ad N q k = ad k := fun k hk => va_up_ne _ _ (by omega)
  have e2 : ∀ i, va_up ad N q (SB + i) = sa i := fun i => by rw [va_up_ne _ _ (by omega)]; exact hA.2 i
  have key := kk q H1 locs L hM1 ⟨hA1, e2⟩ h3 (by rw [m_lv_ok hlv e1 hA.2 e2]; exact hL)
  rw [List.map_cons, m_map_ok hst e1 hA.2 e2, show m_cv (va_up ad N q) (.ref N) = .ref q from congrArg Value.ref (va_up_self ad N q)] at key
  exact key
theorem AW.newZ (X : Cx G nL cc own Ts) {t n : Nat} {i : Int32} (hs : sh N = .inr (t, n, 0)) (ht : m_fts[t]? = some .boolean) (harr : Cond.arrayClass .boolean ∈ Ts) (hn : ¬ i < 0) (hN : i.toNatClampNeg = n) (hby : n * componentBytes .boolean ≤ 536870912) (hw : m_new G N β μ lv st) (hcells : cells + 1 ≤ R.cells) (hslots : slots + n ≤ R.slots) (hd : decode cc pc = .ok (.newarray .boolean, 2)) (kk : ∀ q : Nat, AW G R nL (cells + 1, slots + n, va_up ad N q, N + 1, β) (pc + 2) lv (.ref N :: st) μ) : AW G R nL (cells, slots, ad, N, β) pc lv (.int i :: st) μ := by
  obtain ⟨p, l, e, s, m, args, below, meth, c, Q, D, cA, sa, A⟩ := G
  obtain ⟨hx, hb, hml, hown, hts, hK, hSt, hlk⟩ := X
  obtain ⟨hNb, hA0, hz, hβ, hlv, hst⟩ := hw
  refine fun H locs L hM hA hS hL => va_newa (atype := .boolean) (ty := .boolean) (a0 := (n, .inl (fun _ => 0))) hx hb (hts _ harr) rfl hK hM.1 (hM.D hA.1) hS hA0 (fun cA => rfl) hn hN hby hcells hslots hd (fun q cB H1 hK2 h1 h2 h3 => ?_)
  have hcB : cB = cA t := by
    have g1 := (hK2.2 (m_tys cA).length (cB, .boolean) (by simp)).2
    have g2 := (hK.2 t (cA t, .boolean) (m_tys_at ht)).2
    exact Option.some.inj (g1.symm.trans g2)
  subst hcB
  have hpic : m_pic cA (va_up ad N q) β μ N = .inl (cA t, (n, .inl (fun _ => 0))) := by
    rw [m_pic_arr hs, show μ N = fun _ => 0 from funext hz]
    rfl
  obtain ⟨hM1, hA1⟩ := m_grow (q := q) hM hz hβ hpic h1 h2
  have e1 : ∀ k, k < N → va_up ad N q k = ad k := fun k hk => va_up_ne _ _ (by omega)
  have e2 : ∀ i, va_up ad N q (SB + i) = sa i := fun i => by rw [va_up_ne _ _ (by omega)]; exact hA.2 i
  have key := kk q H1 locs L hM1 ⟨hA1, e2⟩ h3 (by rw [m_lv_ok hlv e1 hA.2 e2]; exact hL)
  rw [List.map_cons, m_map_ok hst e1 hA.2 e2, show m_cv (va_up ad N q) (.ref N) = .ref q from congrArg Value.ref (va_up_self ad N q)] at key
  exact key
theorem AW.newB (X : Cx G nL cc own Ts) {t n : Nat} {i : Int32} (hs : sh N = .inr (t, n, 0)) (ht : m_fts[t]? = some .byte) (harr : Cond.arrayClass .byte ∈ Ts) (hn : ¬ i < 0) (hN : i.toNatClampNeg = n) (hby : n * componentBytes .byte ≤ 536870912) (hw : m_new G N β μ lv st) (hcells : cells + 1 ≤ R.cells) (hslots : slots + n ≤ R.slots) (hd : decode cc pc = .ok (.newarray .byte, 2)) (kk : ∀ q : Nat, AW G R nL (cells + 1, slots + n, va_up ad N q, N + 1, β) (pc + 2) lv (.ref N :: st) μ) : AW G R nL (cells, slots, ad, N, β) pc lv (.int i :: st) μ := by
  obtain ⟨p, l, e, s, m, args, below, meth, c, Q, D, cA, sa, A⟩ := G
  obtain ⟨hx, hb, hml, hown, hts, hK, hSt, hlk⟩ := X
  obtain ⟨hNb, hA0, hz, hβ, hlv, hst⟩ := hw
  refine fun H locs L hM hA hS hL => va_newa (atype := .byte) (ty := .byte) (a0 := (n, .inl (fun _ => 0))) hx hb (hts _ harr) rfl hK hM.1 (hM.D hA.1) hS hA0 (fun cA => rfl) hn hN hby hcells hslots hd (fun q cB H1 hK2 h1 h2 h3 => ?_)
  have hcB : cB = cA t := by
    have g1 := (hK2.2 (m_tys cA).length (cB, .byte) (by simp)).2
    have g2 := (hK.2 t (cA t, .byte) (m_tys_at ht)).2
    exact Option.some.inj (g1.symm.trans g2)
  subst hcB
  have hpic : m_pic cA (va_up ad N q) β μ N = .inl (cA t, (n, .inl (fun _ => 0))) := by
    rw [m_pic_arr hs, show μ N = fun _ => 0 from funext hz]
    rfl
  obtain ⟨hM1, hA1⟩ := m_grow (q := q) hM hz hβ hpic h1 h2
  have e1 : ∀ k, k < N → va_up ad N q k = ad k := fun k hk => va_up_ne _ _ (by omega)
  have e2 : ∀ i, va_up ad N q (SB + i) = sa i := fun i => by rw [va_up_ne _ _ (by omega)]; exact hA.2 i
  have key := kk q H1 locs L hM1 ⟨hA1, e2⟩ h3 (by rw [m_lv_ok hlv e1 hA.2 e2]; exact hL)
  rw [List.map_cons, m_map_ok hst e1 hA.2 e2, show m_cv (va_up ad N q) (.ref N) = .ref q from congrArg Value.ref (va_up_self ad N q)] at key
  exact key
theorem AW.newR (X : Cx G nL cc own Ts) {t n index : Nat} {C : String} {i : Int32} (hs : sh N = .inr (t, n, 2)) (ht : m_fts[t]? = some (.object C)) (hcl : Cond.classLink own index C ∈ Ts) (harr : va_AO C G.2.2.2.1) (hn : ¬ i < 0) (hN : i.toNatClampNeg = n) (hby : n * 4 ≤ 536870912) (hw : m_new G N β μ lv st) (hcells : cells + 1 ≤ R.cells) (hslots : slots + n ≤ R.slots) (hd : decode cc pc = .ok (.anewarray index, 3)) (kk : ∀ q : Nat, AW G R nL (cells + 1, slots + n, va_up ad N q, N + 1, β) (pc + 3) lv (.ref N :: st) μ) : AW G R nL (cells, slots, ad, N, β) pc lv (.int i :: st) μ := by
  obtain ⟨p, l, e, s, m, args, below, meth, c, Q, D, cA, sa, A⟩ := G
  obtain ⟨hx, hb, hml, hown, hts, hK, hSt, hlk⟩ := X
  obtain ⟨hNb, hA0, hz, hβ, hlv, hst⟩ := hw
  refine fun H locs L hM hA hS hL => va_newq (C := C) hx hb hown (hts _ hcl) harr hK hM.1 (hM.D hA.1) hS hA0 hn hN hby hcells hslots hd (fun q cB H1 hK2 h1 h2 h3 => ?_)
  have hcB : cB = cA t := by
    obtain ⟨kA, cp, g1, g2, g3, g4⟩ := (hK2.2 (m_tys cA).length (cB, .object C) (by simp)).2
    obtain ⟨kA2, cp2, f1, f2, f3, f4⟩ := (hK.2 t (cA t, .object C) (m_tys_at ht)).2
    exact Option.some.inj (g4.symm.trans f4)
  subst hcB
  have hpic : m_pic cA (va_up ad N q) β μ N = .inl (cA t, n, .inr (.inr (.inr (.inr (fun _ => none))))) := by
    rw [m_pic_arr hs, show μ N = fun _ => 0 from funext hz]
    rfl
  obtain ⟨hM1, hA1⟩ := m_grow (q := q) hM hz hβ hpic h1 h2
  have e1 : ∀ k, k < N → va_up ad N q k = ad k := fun k hk => va_up_ne _ _ (by omega)
  have e2 : ∀ i, va_up ad N q (SB + i) = sa i := fun i => by rw [va_up_ne _ _ (by omega)]; exact hA.2 i
  have key := kk q H1 locs L hM1 ⟨hA1, e2⟩ h3 (by rw [m_lv_ok hlv e1 hA.2 e2]; exact hL)
  rw [List.map_cons, m_map_ok hst e1 hA.2 e2, show m_cv (va_up ad N q) (.ref N) = .ref q from congrArg Value.ref (va_up_self ad N q)] at key
  exact key
end AWalloc
end
section
/-! what the class's cells hold, as numbers; the answers of its loops -/
def KN (K : KTy) : Nat := K.2.2.2.2.2.2
def anyB (p : Nat → Bool) (n : Nat) : Bool := (List.range n).any p
theorem anyB_t {p : Nat → Bool} {n j : Nat} (hj : j < n) (h : p j = true) : anyB p n = true := List.any_eq_true.mpr ⟨j, List.mem_range.mpr hj, h⟩
theorem anyB_f {p : Nat → Bool} {n : Nat} (h : ∀ j, j < n → p j = false) : anyB p n = false := by
  unfold anyB
  rw [List.any_eq_false]
  intro j hj
  rw [h j (List.mem_range.mp hj)]
  decide
theorem anyB_congr {p q : Nat → Bool} {n : Nat} (h : ∀ j, j < n → p j = q j) : anyB p n = anyB q n := by
  cases hq : anyB q n with
  | false =>
    refine anyB_f fun j hj => ?_
    rw [h j hj]
    cases hqj : q j with
    | false => rfl
    | true => rw [anyB_t hj hqj] at hq; cases hq
  | true =>
    obtain ⟨j, hj, hqj⟩ := List.any_eq_true.mp hq
    exact anyB_t (List.mem_range.mp hj) (by rw [h j (List.mem_range.mp hj)]; exact hqj)
/-- how many rules, what kind of event, how many changes a rule has, whether it is broken -/
def ekN (μ : Mu) (r : Nat) : Nat := (μ (272 + 3 * r) 0).toNatClampNeg
def ccN (μ : Mu) (r : Nat) : Nat := (μ (272 + 3 * r) 5).toNatClampNeg
def brB (μ : Mu) (r : Nat) : Bool := decide (μ (272 + 3 * r) 6 = 1)
/-- a unit's rules -/
def rnN (μ : Mu) (i : Nat) : Nat := (μ (5 + 4 * i) 2).toNatClampNeg
def rwN (μ : Mu) (i j : Nat) : Nat := ((μ (5 + 4 * i + 2) j).toNatClampNeg - 273) / 3
def dnN (μ : Mu) : Nat := (μ 0 6).toNatClampNeg
def diN (μ : Mu) (j : Nat) : Nat := (μ 249 j).toNatClampNeg
def lnN (μ : Mu) : Nat := (μ 245 3).toNatClampNeg
def tlN (μ : Mu) : Nat := (μ 1 1).toNatClampNeg
/-- the class's cells are as its own calls leave them; nr rules are there -/
def CI (μ : Mu) (nr : Nat) : Prop :=
  (nr ≤ 20 ∧ μ 0 2 = nI nr) ∧ (∀ r, r < nr → μ 3 r = nI (272 + 3 * r + 1)) ∧ (∀ i, i < 60 → μ 4 i = nI (5 + 4 * i + 1)) ∧
  (∀ r, r < nr → μ (272 + 3 * r) 0 = nI (ekN μ r) ∧ ekN μ r < 4 ∧ μ (272 + 3 * r) 5 = nI (ccN μ r) ∧ ccN μ r ≤ 5 ∧ μ (272 + 3 * r) 6 = bi (brB μ r)) ∧
  (∀ i, i < 60 → μ (5 + 4 * i) 2 = nI (rnN μ i) ∧ rnN μ i ≤ 4 ∧ ∀ j, j < rnN μ i → μ (5 + 4 * i + 2) j = nI (272 + 3 * rwN μ i j + 1) ∧ rwN μ i j < nr) ∧
  (μ 0 6 = nI (dnN μ) ∧ dnN μ ≤ 60 ∧ ∀ j, j < dnN μ → μ 249 j = nI (diN μ j) ∧ diN μ j < 60) ∧ (μ 245 3 = nI (lnN μ) ∧ lnN μ ≤ 60) ∧ (μ 1 1 = nI (tlN μ) ∧ tlN μ ≤ 40)
theorem CI.nr {μ : Mu} {nr : Nat} (h : CI μ nr) : nr ≤ 20 := h.1.1
theorem CI.rc {μ : Mu} {nr : Nat} (h : CI μ nr) : μ 0 2 = nI nr := h.1.2
theorem CI.ru {μ : Mu} {nr r : Nat} (h : CI μ nr) (hr : r < nr) : μ 3 r = nI (272 + 3 * r + 1) := h.2.1 r hr
theorem CI.un {μ : Mu} {nr i : Nat} (h : CI μ nr) (hi : i < 60) : μ 4 i = nI (5 + 4 * i + 1) := h.2.2.1 i hi
theorem CI.ek {μ : Mu} {nr r : Nat} (h : CI μ nr) (hr : r < nr) : μ (272 + 3 * r) 0 = nI (ekN μ r) ∧ ekN μ r < 4 := ⟨(h.2.2.2.1 r hr).1, (h.2.2.2.1 r hr).2.1⟩
theorem CI.cc {μ : Mu} {nr r : Nat} (h : CI μ nr) (hr : r < nr) : μ (272 + 3 * r) 5 = nI (ccN μ r) ∧ ccN μ r ≤ 5 := ⟨(h.2.2.2.1 r hr).2.2.1, (h.2.2.2.1 r hr).2.2.2.1⟩
theorem CI.br {μ : Mu} {nr r : Nat} (h : CI μ nr) (hr : r < nr) : μ (272 + 3 * r) 6 = bi (brB μ r) := (h.2.2.2.1 r hr).2.2.2.2
theorem CI.rn {μ : Mu} {nr i : Nat} (h : CI μ nr) (hi : i < 60) : μ (5 + 4 * i) 2 = nI (rnN μ i) ∧ rnN μ i ≤ 4 := ⟨(h.2.2.2.2.1 i hi).1, (h.2.2.2.2.1 i hi).2.1⟩
theorem CI.rw {μ : Mu} {nr i j : Nat} (h : CI μ nr) (hi : i < 60) (hj : j < rnN μ i) : μ (5 + 4 * i + 2) j = nI (272 + 3 * rwN μ i j + 1) ∧ rwN μ i j < nr := (h.2.2.2.2.1 i hi).2.2 j hj
theorem CI.dn {μ : Mu} {nr : Nat} (h : CI μ nr) : μ 0 6 = nI (dnN μ) ∧ dnN μ ≤ 60 := ⟨h.2.2.2.2.2.1.1, h.2.2.2.2.2.1.2.1⟩
theorem CI.di {μ : Mu} {nr j : Nat} (h : CI μ nr) (hj : j < dnN μ) : μ 249 j = nI (diN μ j) ∧ diN μ j < 60 := h.2.2.2.2.2.1.2.2 j hj
theorem CI.ln {μ : Mu} {nr : Nat} (h : CI μ nr) : μ 245 3 = nI (lnN μ) ∧ lnN μ ≤ 60 := h.2.2.2.2.2.2.1
theorem CI.tl {μ : Mu} {nr : Nat} (h : CI μ nr) : μ 1 1 = nI (tlN μ) ∧ tlN μ ≤ 40 := h.2.2.2.2.2.2.2
/-- the years that a rule has on a day: its first ones, and n changes looked at -/
def f_years (μ : Mu) (r : Nat) (on : Int32) : Nat → Int32
  | 0 => μ (272 + 3 * r) 1
  | n + 1 => if on < μ (272 + 3 * r + 1) n then f_years μ r on n else μ (272 + 3 * r + 2) n
def f_rday (μ : Mu) (r : Nat) (ev on : Int32) : Int32 := if ev = -1 then -1 else ev + f_years μ r on (ccN μ r) * 365
/-- the day of the j-th rule of a unit -/
def f_day (μ : Mu) (i : Nat) (on : Int32) (j : Nat) : Int32 := f_rday μ (rwN μ i j) (μ (5 + 4 * i + 1) (ekN μ (rwN μ i j))) on
def f_scan (δ : Nat → Int32) : Nat → Option Nat × Int32
  | 0 => (none, -1)
  | n + 1 => if δ n ≤ (f_scan δ n).2 then f_scan δ n else (some n, δ n)
def f_dec (μ : Mu) (i : Nat) (on : Int32) : Option Nat := if anyB (fun j => brB μ (rwN μ i j) || decide (f_day μ i on j = -1)) (rnN μ i) = true then none else (f_scan (f_day μ i on) (rnN μ i)).1
def f_dueDay (μ : Mu) (i : Nat) (on : Int32) : Int32 := match f_dec μ i on with
  | none => -1
  | some j => f_day μ i on j
def f_dueAction (μ : Mu) (i : Nat) (on : Int32) : Int32 := match f_dec μ i on with
  | none => -1
  | some j => μ (272 + 3 * rwN μ i j) 2
def f_fails (μ : Mu) (i : Nat) : Bool := anyB (fun j => brB μ (rwN μ i j)) (rnN μ i)
def f_held (μ : Mu) (i : Nat) (day : Int32) : Bool := anyB (fun j => decide (μ (5 + 4 * i + 3) j = -1) || decide (¬ μ (5 + 4 * i + 3) j < day)) 4
def f_isDue (μ : Mu) (i : Nat) (on : Int32) : Bool := decide (μ (5 + 4 * i) 7 = -1) && decide (μ (5 + 4 * i) 4 < on) && decide (¬ f_dueDay μ i on = -1) && decide (¬ on < f_dueDay μ i on)
theorem f_scan_lt (δ : Nat → Int32) : ∀ (n p : Nat), (f_scan δ n).1 = some p → p < n
  | 0, p, h => by cases h
  | n + 1, p, h => by
    unfold f_scan at h
    split at h
    · exact Nat.lt_succ_of_lt (f_scan_lt δ n p h)
    · cases h; exact Nat.lt_succ_self _
theorem f_dec_lt {μ : Mu} {i p : Nat} {on : Int32} (h : f_dec μ i on = some p) : p < rnN μ i := by
  unfold f_dec at h
  split at h
  · cases h
  · exact f_scan_lt _ _ _ h
def f_decv (μ : Mu) (i : Nat) (on : Int32) : Value := match f_dec μ i on with
  | none => .null
  | some j => .ref (272 + 3 * rwN μ i j)
end
section
set_option maxHeartbeats 4000000 in
set_option maxRecDepth 100000 in
theorem c_L_clear (K : KTy)  (μ : Mu) (hN : 272 ≤ KN K)  : CT K y_L_clear (k_L_clear :: GT) 0 [.ref 245] μ (fun v μ2 => v = none ∧ μ2 = m_up μ 245 3 0) := by
  refine CT.void (cc := b_L_clear) (maxL := 1) (by decide) rfl rfl (Nat.le_of_ble_eq_true rfl) ?_
  intro G ad N hK X hret
  subst hK
  have hN : 272 ≤ N := hN
  show AW G (rmD 0) 1 (0, 0, ad, N, fb) 0 [(0, .ref 245)] [] μ
  refine AW.aload_n X (pc := 0) 0 rfl rfl d_L_clear_0 ?_
  refine AW.iconst X (pc := 1) (v := 0) (by decide) d_L_clear_1 ?_
  refine AW.put X (pc := 2) (k := 245) (ci := 0) (j := 3) (x := 0) (ty := .int) ft_L (by omega) rfl rfl in_L ft_L_ok n_L (by decide) wf_L_21 rfl rfl rfl rfl rfl d_L_clear_2 ?_
  exact hret 5 _ _ d_L_clear_5 ⟨rfl, rfl⟩
set_option maxHeartbeats 4000000 in
set_option maxRecDepth 100000 in
theorem c_L_size (K : KTy)  (μ : Mu) (hN : 272 ≤ KN K)  : CT K y_L_size (k_L_size :: GT) 0 [.ref 245] μ (fun v μ2 => v = some (.int (μ 245 3)) ∧ μ2 = μ) := by
  refine CT.int (cc := b_L_size) (maxL := 1) (by decide) rfl rfl (Nat.le_of_ble_eq_true rfl) ?_
  intro G ad N hK X hret
  subst hK
  have hN : 272 ≤ N := hN
  show AW G (rmD 0) 1 (0, 0, ad, N, fb) 0 [(0, .ref 245)] [] μ
  refine AW.aload_n X (pc := 0) 0 rfl rfl d_L_size_0 ?_
  refine AW.get X (pc := 1) (k := 245) (ci := 0) (j := 3) (v := .int (μ 245 3)) (by omega) rfl rfl in_L (by decide) wf_L_21 rfl rfl d_L_size_1 ?_
  exact hret 4 _ _ _ d_L_size_4 ⟨by first | rfl | simp [bi], rfl⟩
set_option maxHeartbeats 4000000 in
set_option maxRecDepth 100000 in
theorem c_L_has (K : KTy) (i : Int32) (μ : Mu) (hN : 272 ≤ KN K)  : CT K y_L_has (k_L_has :: GT) 0 [.ref 245, .int i] μ (fun v μ2 => v = some (.int (bi (decide (¬ i < 0 ∧ ¬ μ 245 3 ≤ i)))) ∧ μ2 = μ) := by
  refine CT.bool (cc := b_L_has) (maxL := 2) (by decide) rfl rfl (Nat.le_of_ble_eq_true rfl) ?_
  intro G ad N hK X hret
  subst hK
  have hN : 272 ≤ N := hN
  show AW G (rmD 0) 2 (0, 0, ad, N, fb) 0 [(0, .ref 245), (1, .int i)] [] μ
  refine AW.iload_n X (pc := 0) 1 rfl rfl d_L_has_0 ?_
  refine AW.if_lt X (pc := 1) 16 d_L_has_1 (by decide) (fun c_1 => ?_) (fun c_1 => ?_)
  · refine AW.iconst X (pc := 16) (v := 0) (by decide) d_L_has_16 ?_
    exact hret 17 _ _ _ d_L_has_17 (by first | rfl | exact bi_nar _) ⟨by first | rfl | simp [bi, c_1], rfl⟩
  · refine AW.iload_n X (pc := 4) 1 rfl rfl d_L_has_4 ?_
    refine AW.aload_n X (pc := 5) 0 rfl rfl d_L_has_5 ?_
    refine AW.get X (pc := 6) (k := 245) (ci := 0) (j := 3) (v := .int (μ 245 3)) (by omega) rfl rfl in_L (by decide) wf_L_21 rfl rfl d_L_has_6 ?_
    refine AW.icmp_ge X (pc := 9) 16 d_L_has_9 (by decide) (fun c_9 => ?_) (fun c_9 => ?_)
    · refine AW.iconst X (pc := 16) (v := 0) (by decide) d_L_has_16 ?_
      exact hret 17 _ _ _ d_L_has_17 (by first | rfl | exact bi_nar _) ⟨by first | rfl | simp [bi, c_1, c_9], rfl⟩
    · refine AW.iconst X (pc := 12) (v := 1) (by decide) d_L_has_12 ?_
      refine AW.goto X (pc := 13) 17 d_L_has_13 (by decide) ?_
      exact hret 17 _ _ _ d_L_has_17 (by first | rfl | exact bi_nar _) ⟨by first | rfl | simp [bi, c_1, c_9], rfl⟩
set_option maxHeartbeats 4000000 in
set_option maxRecDepth 100000 in
theorem c_L_told (K : KTy) (j : Nat) (what : Int32) (μ : Mu) (hN : 272 ≤ KN K) (hj : j < 60) : CT K y_L_told (k_L_told :: GT) 0 [.ref 245, .int (nI j), .int what] μ (fun v μ2 => v = some (.int (if what = 0 then μ 246 j else if what = 1 then μ 247 j else μ 248 j)) ∧ μ2 = μ) := by
  refine CT.int (cc := b_L_told) (maxL := 3) (by decide) rfl rfl (Nat.le_of_ble_eq_true rfl) ?_
  intro G ad N hK X hret
  subst hK
  have hN : 272 ≤ N := hN
  show AW G (rmD 0) 3 (0, 0, ad, N, fb) 0 [(0, .ref 245), (1, .int (nI j)), (2, .int what)] [] μ
  refine AW.iload_n X (pc := 0) 1 rfl rfl d_L_told_0 ?_
  refine AW.if_lt X (pc := 1) 10 d_L_told_1 (by decide) (fun c_1 => absurd c_1 (by rw [i_lt (nI_toInt (show j < 2 ^ 31 by omega)) (show (0 : Int32).toInt = 0 by decide)]; omega)) (fun c_1 => ?_)
  refine AW.iload_n X (pc := 4) 1 rfl rfl d_L_told_4 ?_
  refine AW.bipush X (pc := 5) (v := 60) (by decide) d_L_told_5 ?_
  refine AW.icmp_lt X (pc := 7) 12 d_L_told_7 (by decide) (fun c_7 => ?_) (fun c_7 => absurd c_7 (by rw [i_lt (nI_toInt (show j < 2 ^ 31 by omega)) (show (60 : Int32).toInt = 60 by decide)]; omega))
  refine AW.iload_n X (pc := 12) 2 rfl rfl d_L_told_12 ?_
  refine AW.if_ne X (pc := 13) 23 d_L_told_13 (by decide) (fun c_13 => ?_) (fun c_13 => ?_)
  · refine AW.iload_n X (pc := 23) 2 rfl rfl d_L_told_23 ?_
    refine AW.iconst X (pc := 24) (v := 1) (by decide) d_L_told_24 ?_
    refine AW.icmp_ne X (pc := 25) 37 d_L_told_25 (by decide) (fun c_25 => ?_) (fun c_25 => ?_)
    · refine AW.aload_n X (pc := 37) 0 rfl rfl d_L_told_37 ?_
      refine AW.get X (pc := 38) (k := 245) (ci := 0) (j := 2) (v := .ref 248) (by omega) rfl rfl in_L (by decide) wf_L_18 rfl rfl d_L_told_38 ?_
      refine AW.iload_n X (pc := 41) 1 rfl rfl d_L_told_41 ?_
      refine AW.ialdN X (pc := 42) (k := 248) (t := 0) (n := 60) (j := j) (by omega) rfl rfl (by omega) (by decide) d_L_told_42 ?_
      exact hret 43 _ _ _ d_L_told_43 ⟨by first | rfl | simp [bi, c_1, c_7, c_13, c_25], rfl⟩
    · refine AW.aload_n X (pc := 28) 0 rfl rfl d_L_told_28 ?_
      refine AW.get X (pc := 29) (k := 245) (ci := 0) (j := 1) (v := .ref 247) (by omega) rfl rfl in_L (by decide) wf_L_15 rfl rfl d_L_told_29 ?_
      refine AW.iload_n X (pc := 32) 1 rfl rfl d_L_told_32 ?_
      refine AW.ialdN X (pc := 33) (k := 247) (t := 0) (n := 60) (j := j) (by omega) rfl rfl (by omega) (by decide) d_L_told_33 ?_
      refine AW.goto X (pc := 34) 43 d_L_told_34 (by decide) ?_
      exact hret 43 _ _ _ d_L_told_43 ⟨by first | rfl | simp [bi, c_1, c_7, c_13, c_25], rfl⟩
  · refine AW.aload_n X (pc := 16) 0 rfl rfl d_L_told_16 ?_
    refine AW.get X (pc := 17) (k := 245) (ci := 0) (j := 0) (v := .ref 246) (by omega) rfl rfl in_L (by decide) wf_L_9 rfl rfl d_L_told_17 ?_
    refine AW.iload_n X (pc := 20) 1 rfl rfl d_L_told_20 ?_
    refine AW.ialdN X (pc := 21) (k := 246) (t := 0) (n := 60) (j := j) (by omega) rfl rfl (by omega) (by decide) d_L_told_21 ?_
    exact hret 22 _ _ _ d_L_told_22 ⟨by first | rfl | simp [bi, c_1, c_7, c_13], rfl⟩
set_option maxHeartbeats 4000000 in
set_option maxRecDepth 100000 in
theorem c_L_put (K : KTy) (j : Nat) (u dd a : Int32) (μ : Mu) (hN : 272 ≤ KN K) (hj : j < 60) : CT K y_L_put (k_L_put :: GT) 0 [.ref 245, .int (nI j), .int u, .int dd, .int a] μ (fun v μ2 => v = none ∧ μ2 = m_up (m_up (m_up μ 246 j u) 247 j dd) 248 j a) := by
  refine CT.void (cc := b_L_put) (maxL := 5) (by decide) rfl rfl (Nat.le_of_ble_eq_true rfl) ?_
  intro G ad N hK X hret
  subst hK
  have hN : 272 ≤ N := hN
  show AW G (rmD 0) 5 (0, 0, ad, N, fb) 0 [(0, .ref 245), (1, .int (nI j)), (2, .int u), (3, .int dd), (4, .int a)] [] μ
  refine AW.iload_n X (pc := 0) 1 rfl rfl d_L_put_0 ?_
  refine AW.if_lt X (pc := 1) 32 d_L_put_1 (by decide) (fun c_1 => absurd c_1 (by rw [i_lt (nI_toInt (show j < 2 ^ 31 by omega)) (show (0 : Int32).toInt = 0 by decide)]; omega)) (fun c_1 => ?_)
  refine AW.iload_n X (pc := 4) 1 rfl rfl d_L_put_4 ?_
  refine AW.bipush X (pc := 5) (v := 60) (by decide) d_L_put_5 ?_
  refine AW.icmp_ge X (pc := 7) 32 d_L_put_7 (by decide) (fun c_7 => absurd c_7 (by rw [i_le (show (60 : Int32).toInt = 60 by decide) (nI_toInt (show j < 2 ^ 31 by omega))]; omega)) (fun c_7 => ?_)
  refine AW.aload_n X (pc := 10) 0 rfl rfl d_L_put_10 ?_
  refine AW.get X (pc := 11) (k := 245) (ci := 0) (j := 0) (v := .ref 246) (by omega) rfl rfl in_L (by decide) wf_L_9 rfl rfl d_L_put_11 ?_
  refine AW.iload_n X (pc := 14) 1 rfl rfl d_L_put_14 ?_
  refine AW.iload_n X (pc := 15) 2 rfl rfl d_L_put_15 ?_
  refine AW.iastN X (pc := 16) (k := 246) (t := 0) (n := 60) (j := j) (x := u) (by omega) rfl rfl (by omega) (by decide) d_L_put_16 ?_
  refine AW.aload_n X (pc := 17) 0 rfl rfl d_L_put_17 ?_
  refine AW.get X (pc := 18) (k := 245) (ci := 0) (j := 1) (v := .ref 247) (by omega) rfl rfl in_L (by decide) wf_L_15 rfl rfl d_L_put_18 ?_
  refine AW.iload_n X (pc := 21) 1 rfl rfl d_L_put_21 ?_
  refine AW.iload_n X (pc := 22) 3 rfl rfl d_L_put_22 ?_
  refine AW.iastN X (pc := 23) (k := 247) (t := 0) (n := 60) (j := j) (x := dd) (by omega) rfl rfl (by omega) (by decide) d_L_put_23 ?_
  refine AW.aload_n X (pc := 24) 0 rfl rfl d_L_put_24 ?_
  refine AW.get X (pc := 25) (k := 245) (ci := 0) (j := 2) (v := .ref 248) (by omega) rfl rfl in_L (by decide) wf_L_18 rfl rfl d_L_put_25 ?_
  refine AW.iload_n X (pc := 28) 1 rfl rfl d_L_put_28 ?_
  refine AW.iload X (pc := 29) 4 rfl d_L_put_29 ?_
  refine AW.iastN X (pc := 31) (k := 248) (t := 0) (n := 60) (j := j) (x := a) (by omega) rfl rfl (by omega) (by decide) d_L_put_31 ?_
  exact hret 32 _ _ d_L_put_32 ⟨rfl, rfl⟩
set_option maxHeartbeats 4000000 in
set_option maxRecDepth 100000 in
theorem c_R_eventKind (K : KTy) (r : Nat) (μ : Mu) (hN : 272 ≤ KN K) (hr : 272 + 3 * r + 2 < KN K) : CT K y_R_eventKind (k_R_eventKind :: GT) 0 [.ref (272 + 3 * r)] μ (fun v μ2 => v = some (.int (μ (272 + 3 * r) 0)) ∧ μ2 = μ) := by
  refine CT.int (cc := b_R_eventKind) (maxL := 1) (by decide) rfl rfl (Nat.le_of_ble_eq_true rfl) ?_
  intro G ad N hK X hret
  subst hK
  have hN : 272 ≤ N := hN
  have hr : 272 + 3 * r + 2 < N := hr
  show AW G (rmD 0) 1 (0, 0, ad, N, fb) 0 [(0, .ref (272 + 3 * r))] [] μ
  refine AW.aload_n X (pc := 0) 0 rfl rfl d_R_eventKind_0 ?_
  refine AW.get X (pc := 1) (k := 272 + 3 * r) (ci := 1) (j := 0) (v := .int (μ (272 + 3 * r) 0)) (by omega) (sh_r _) rfl in_R (by decide) wf_R_18 rfl rfl d_R_eventKind_1 ?_
  exact hret 4 _ _ _ d_R_eventKind_4 ⟨by first | rfl | simp [bi], rfl⟩
set_option maxHeartbeats 4000000 in
set_option maxRecDepth 100000 in
theorem c_R_action (K : KTy) (r : Nat) (μ : Mu) (hN : 272 ≤ KN K) (hr : 272 + 3 * r + 2 < KN K) : CT K y_R_action (k_R_action :: GT) 0 [.ref (272 + 3 * r)] μ (fun v μ2 => v = some (.int (μ (272 + 3 * r) 2)) ∧ μ2 = μ) := by
  refine CT.int (cc := b_R_action) (maxL := 1) (by decide) rfl rfl (Nat.le_of_ble_eq_true rfl) ?_
  intro G ad N hK X hret
  subst hK
  have hN : 272 ≤ N := hN
  have hr : 272 + 3 * r + 2 < N := hr
  show AW G (rmD 0) 1 (0, 0, ad, N, fb) 0 [(0, .ref (272 + 3 * r))] [] μ
  refine AW.aload_n X (pc := 0) 0 rfl rfl d_R_action_0 ?_
  refine AW.get X (pc := 1) (k := 272 + 3 * r) (ci := 1) (j := 2) (v := .int (μ (272 + 3 * r) 2)) (by omega) (sh_r _) rfl in_R (by decide) wf_R_25 rfl rfl d_R_action_1 ?_
  exact hret 4 _ _ _ d_R_action_4 ⟨by first | rfl | simp [bi], rfl⟩
set_option maxHeartbeats 4000000 in
set_option maxRecDepth 100000 in
theorem c_R_isBroken (K : KTy) (r : Nat) (b : Bool) (μ : Mu) (hN : 272 ≤ KN K) (hr : 272 + 3 * r + 2 < KN K) (hb : μ (272 + 3 * r) 6 = bi b) : CT K y_R_isBroken (k_R_isBroken :: GT) 0 [.ref (272 + 3 * r)] μ (fun v μ2 => v = some (.int (bi b)) ∧ μ2 = μ) := by
  refine CT.bool (cc := b_R_isBroken) (maxL := 1) (by decide) rfl rfl (Nat.le_of_ble_eq_true rfl) ?_
  intro G ad N hK X hret
  subst hK
  have hN : 272 ≤ N := hN
  have hr : 272 + 3 * r + 2 < N := hr
  show AW G (rmD 0) 1 (0, 0, ad, N, fb) 0 [(0, .ref (272 + 3 * r))] [] μ
  refine AW.aload_n X (pc := 0) 0 rfl rfl d_R_isBroken_0 ?_
  refine AW.get X (pc := 1) (k := 272 + 3 * r) (ci := 1) (j := 6) (v := .int (μ (272 + 3 * r) 6)) (by omega) (sh_r _) rfl in_R (by decide) wf_R_28 rfl rfl d_R_isBroken_1 ?_
  exact hret 4 _ _ _ d_R_isBroken_4 (by rw [hb]; exact bi_nar _) ⟨by rw [hb], rfl⟩
set_option maxHeartbeats 4000000 in
set_option maxRecDepth 100000 in
theorem c_R_setBroken (K : KTy) (r : Nat) (b : Bool) (μ : Mu) (hN : 272 ≤ KN K) (hr : 272 + 3 * r + 2 < KN K) : CT K y_R_setBroken (k_R_setBroken :: GT) 0 [.ref (272 + 3 * r), .int (bi b)] μ (fun v μ2 => v = none ∧ μ2 = m_up μ (272 + 3 * r) 6 (bi b)) := by
  refine CT.void (cc := b_R_setBroken) (maxL := 2) (by decide) rfl rfl (Nat.le_of_ble_eq_true rfl) ?_
  intro G ad N hK X hret
  subst hK
  have hN : 272 ≤ N := hN
  have hr : 272 + 3 * r + 2 < N := hr
  show AW G (rmD 0) 2 (0, 0, ad, N, fb) 0 [(0, .ref (272 + 3 * r)), (1, .int (bi b))] [] μ
  refine AW.aload_n X (pc := 0) 0 rfl rfl d_R_setBroken_0 ?_
  refine AW.iload_n X (pc := 1) 1 rfl rfl d_R_setBroken_1 ?_
  refine AW.put X (pc := 2) (k := 272 + 3 * r) (ci := 1) (j := 6) (x := bi b) (ty := .boolean) ft_R (by omega) (sh_r _) rfl in_R ft_R_ok n_R (by decide) wf_R_28 rfl rfl rfl (bi_nar b) (by cases b <;> rfl) d_R_setBroken_2 ?_
  exact hret 5 _ _ d_R_setBroken_5 ⟨rfl, rfl⟩
set_option maxHeartbeats 4000000 in
set_option maxRecDepth 100000 in
theorem c_U_ruleCount (K : KTy) (i : Nat) (μ : Mu) (hN : 272 ≤ KN K) (hi : i < 60) : CT K y_U_ruleCount (k_U_ruleCount :: GT) 0 [.ref (5 + 4 * i)] μ (fun v μ2 => v = some (.int (μ (5 + 4 * i) 2)) ∧ μ2 = μ) := by
  refine CT.int (cc := b_U_ruleCount) (maxL := 1) (by decide) rfl rfl (Nat.le_of_ble_eq_true rfl) ?_
  intro G ad N hK X hret
  subst hK
  have hN : 272 ≤ N := hN
  show AW G (rmD 0) 1 (0, 0, ad, N, fb) 0 [(0, .ref (5 + 4 * i))] [] μ
  refine AW.aload_n X (pc := 0) 0 rfl rfl d_U_ruleCount_0 ?_
  refine AW.get X (pc := 1) (k := 5 + 4 * i) (ci := 3) (j := 2) (v := .int (μ (5 + 4 * i) 2)) (by omega) (sh_u hi) rfl in_U (by decide) wf_U_40 rfl rfl d_U_ruleCount_1 ?_
  exact hret 4 _ _ _ d_U_ruleCount_4 ⟨by first | rfl | simp [bi], rfl⟩
set_option maxHeartbeats 4000000 in
set_option maxRecDepth 100000 in
theorem c_U_approvalCount (K : KTy) (i : Nat) (μ : Mu) (hN : 272 ≤ KN K) (hi : i < 60) : CT K y_U_approvalCount (k_U_approvalCount :: GT) 0 [.ref (5 + 4 * i)] μ (fun v μ2 => v = some (.int (μ (5 + 4 * i) 5)) ∧ μ2 = μ) := by
  refine CT.int (cc := b_U_approvalCount) (maxL := 1) (by decide) rfl rfl (Nat.le_of_ble_eq_true rfl) ?_
  intro G ad N hK X hret
  subst hK
  have hN : 272 ≤ N := hN
  show AW G (rmD 0) 1 (0, 0, ad, N, fb) 0 [(0, .ref (5 + 4 * i))] [] μ
  refine AW.aload_n X (pc := 0) 0 rfl rfl d_U_approvalCount_0 ?_
  refine AW.get X (pc := 1) (k := 5 + 4 * i) (ci := 3) (j := 5) (v := .int (μ (5 + 4 * i) 5)) (by omega) (sh_u hi) rfl in_U (by decide) wf_U_71 rfl rfl d_U_approvalCount_1 ?_
  exact hret 4 _ _ _ d_U_approvalCount_4 ⟨by first | rfl | simp [bi], rfl⟩
set_option maxHeartbeats 4000000 in
set_option maxRecDepth 100000 in
theorem c_U_disposalDay (K : KTy) (i : Nat) (μ : Mu) (hN : 272 ≤ KN K) (hi : i < 60) : CT K y_U_disposalDay (k_U_disposalDay :: GT) 0 [.ref (5 + 4 * i)] μ (fun v μ2 => v = some (.int (μ (5 + 4 * i) 7)) ∧ μ2 = μ) := by
  refine CT.int (cc := b_U_disposalDay) (maxL := 1) (by decide) rfl rfl (Nat.le_of_ble_eq_true rfl) ?_
  intro G ad N hK X hret
  subst hK
  have hN : 272 ≤ N := hN
  show AW G (rmD 0) 1 (0, 0, ad, N, fb) 0 [(0, .ref (5 + 4 * i))] [] μ
  refine AW.aload_n X (pc := 0) 0 rfl rfl d_U_disposalDay_0 ?_
  refine AW.get X (pc := 1) (k := 5 + 4 * i) (ci := 3) (j := 7) (v := .int (μ (5 + 4 * i) 7)) (by omega) (sh_u hi) rfl in_U (by decide) wf_U_31 rfl rfl d_U_disposalDay_1 ?_
  exact hret 4 _ _ _ d_U_disposalDay_4 ⟨by first | rfl | simp [bi], rfl⟩
set_option maxHeartbeats 4000000 in
set_option maxRecDepth 100000 in
theorem c_U_certificateNumber (K : KTy) (i : Nat) (μ : Mu) (hN : 272 ≤ KN K) (hi : i < 60) : CT K y_U_certificateNumber (k_U_certificateNumber :: GT) 0 [.ref (5 + 4 * i)] μ (fun v μ2 => v = some (.int (μ (5 + 4 * i) 8)) ∧ μ2 = μ) := by
  refine CT.int (cc := b_U_certificateNumber) (maxL := 1) (by decide) rfl rfl (Nat.le_of_ble_eq_true rfl) ?_
  intro G ad N hK X hret
  subst hK
  have hN : 272 ≤ N := hN
  show AW G (rmD 0) 1 (0, 0, ad, N, fb) 0 [(0, .ref (5 + 4 * i))] [] μ
  refine AW.aload_n X (pc := 0) 0 rfl rfl d_U_certificateNumber_0 ?_
  refine AW.get X (pc := 1) (k := 5 + 4 * i) (ci := 3) (j := 8) (v := .int (μ (5 + 4 * i) 8)) (by omega) (sh_u hi) rfl in_U (by decide) wf_U_34 rfl rfl d_U_certificateNumber_1 ?_
  exact hret 4 _ _ _ d_U_certificateNumber_4 ⟨by first | rfl | simp [bi], rfl⟩
set_option maxHeartbeats 4000000 in
set_option maxRecDepth 100000 in
theorem c_U_isDisposed (K : KTy) (i : Nat) (μ : Mu) (hN : 272 ≤ KN K) (hi : i < 60) : CT K y_U_isDisposed (k_U_isDisposed :: GT) 0 [.ref (5 + 4 * i)] μ (fun v μ2 => v = some (.int (bi (decide (¬ μ (5 + 4 * i) 7 = -1)))) ∧ μ2 = μ) := by
  refine CT.bool (cc := b_U_isDisposed) (maxL := 1) (by decide) rfl rfl (Nat.le_of_ble_eq_true rfl) ?_
  intro G ad N hK X hret
  subst hK
  have hN : 272 ≤ N := hN
  show AW G (rmD 0) 1 (0, 0, ad, N, fb) 0 [(0, .ref (5 + 4 * i))] [] μ
  refine AW.aload_n X (pc := 0) 0 rfl rfl d_U_isDisposed_0 ?_
  refine AW.get X (pc := 1) (k := 5 + 4 * i) (ci := 3) (j := 7) (v := .int (μ (5 + 4 * i) 7)) (by omega) (sh_u hi) rfl in_U (by decide) wf_U_31 rfl rfl d_U_isDisposed_1 ?_
  refine AW.iconst X (pc := 4) (v := -1) (by decide) d_U_isDisposed_4 ?_
  refine AW.icmp_eq X (pc := 5) 12 d_U_isDisposed_5 (by decide) (fun c_5 => ?_) (fun c_5 => ?_)
  · refine AW.iconst X (pc := 12) (v := 0) (by decide) d_U_isDisposed_12 ?_
    exact hret 13 _ _ _ d_U_isDisposed_13 (by first | rfl | exact bi_nar _) ⟨by first | rfl | simp [bi, c_5], rfl⟩
  · refine AW.iconst X (pc := 8) (v := 1) (by decide) d_U_isDisposed_8 ?_
    refine AW.goto X (pc := 9) 13 d_U_isDisposed_9 (by decide) ?_
    exact hret 13 _ _ _ d_U_isDisposed_13 (by first | rfl | exact bi_nar _) ⟨by first | rfl | simp [bi, c_5], rfl⟩
set_option maxHeartbeats 4000000 in
set_option maxRecDepth 100000 in
theorem c_U_hasCertificate (K : KTy) (i : Nat) (μ : Mu) (hN : 272 ≤ KN K) (hi : i < 60) : CT K y_U_hasCertificate (k_U_hasCertificate :: GT) 0 [.ref (5 + 4 * i)] μ (fun v μ2 => v = some (.int (bi (decide (¬ μ (5 + 4 * i) 8 = -1)))) ∧ μ2 = μ) := by
  refine CT.bool (cc := b_U_hasCertificate) (maxL := 1) (by decide) rfl rfl (Nat.le_of_ble_eq_true rfl) ?_
  intro G ad N hK X hret
  subst hK
  have hN : 272 ≤ N := hN
  show AW G (rmD 0) 1 (0, 0, ad, N, fb) 0 [(0, .ref (5 + 4 * i))] [] μ
  refine AW.aload_n X (pc := 0) 0 rfl rfl d_U_hasCertificate_0 ?_
  refine AW.get X (pc := 1) (k := 5 + 4 * i) (ci := 3) (j := 8) (v := .int (μ (5 + 4 * i) 8)) (by omega) (sh_u hi) rfl in_U (by decide) wf_U_34 rfl rfl d_U_hasCertificate_1 ?_
  refine AW.iconst X (pc := 4) (v := -1) (by decide) d_U_hasCertificate_4 ?_
  refine AW.icmp_eq X (pc := 5) 12 d_U_hasCertificate_5 (by decide) (fun c_5 => ?_) (fun c_5 => ?_)
  · refine AW.iconst X (pc := 12) (v := 0) (by decide) d_U_hasCertificate_12 ?_
    exact hret 13 _ _ _ d_U_hasCertificate_13 (by first | rfl | exact bi_nar _) ⟨by first | rfl | simp [bi, c_5], rfl⟩
  · refine AW.iconst X (pc := 8) (v := 1) (by decide) d_U_hasCertificate_8 ?_
    refine AW.goto X (pc := 9) 13 d_U_hasCertificate_9 (by decide) ?_
    exact hret 13 _ _ _ d_U_hasCertificate_13 (by first | rfl | exact bi_nar _) ⟨by first | rfl | simp [bi, c_5], rfl⟩
set_option maxHeartbeats 4000000 in
set_option maxRecDepth 100000 in
theorem c_U_isApproved (K : KTy) (i : Nat) (μ : Mu) (hN : 272 ≤ KN K) (hi : i < 60) : CT K y_U_isApproved (k_U_isApproved :: GT) 0 [.ref (5 + 4 * i)] μ (fun v μ2 => v = some (.int (bi (decide (2 ≤ μ (5 + 4 * i) 5)))) ∧ μ2 = μ) := by
  refine CT.bool (cc := b_U_isApproved) (maxL := 1) (by decide) rfl rfl (Nat.le_of_ble_eq_true rfl) ?_
  intro G ad N hK X hret
  subst hK
  have hN : 272 ≤ N := hN
  show AW G (rmD 0) 1 (0, 0, ad, N, fb) 0 [(0, .ref (5 + 4 * i))] [] μ
  refine AW.aload_n X (pc := 0) 0 rfl rfl d_U_isApproved_0 ?_
  refine AW.get X (pc := 1) (k := 5 + 4 * i) (ci := 3) (j := 5) (v := .int (μ (5 + 4 * i) 5)) (by omega) (sh_u hi) rfl in_U (by decide) wf_U_71 rfl rfl d_U_isApproved_1 ?_
  refine AW.iconst X (pc := 4) (v := 2) (by decide) d_U_isApproved_4 ?_
  refine AW.icmp_lt X (pc := 5) 12 d_U_isApproved_5 (by decide) (fun c_5 => ?_) (fun c_5 => ?_)
  · refine AW.iconst X (pc := 12) (v := 0) (by decide) d_U_isApproved_12 ?_
    exact hret 13 _ _ _ d_U_isApproved_13 (by first | rfl | exact bi_nar _) ⟨by first | rfl | simp [bi, c_5], rfl⟩
  · refine AW.iconst X (pc := 8) (v := 1) (by decide) d_U_isApproved_8 ?_
    refine AW.goto X (pc := 9) 13 d_U_isApproved_9 (by decide) ?_
    exact hret 13 _ _ _ d_U_isApproved_13 (by first | rfl | exact bi_nar _) ⟨by first | rfl | simp [bi, c_5], rfl⟩
set_option maxHeartbeats 4000000 in
set_option maxRecDepth 100000 in
theorem c_U_isApprovedBy (K : KTy) (i : Nat) (p : Int32) (μ : Mu) (hN : 272 ≤ KN K) (hi : i < 60) : CT K y_U_isApprovedBy (k_U_isApprovedBy :: GT) 0 [.ref (5 + 4 * i), .int p] μ (fun v μ2 => v = some (.int (bi (decide (¬ μ (5 + 4 * i) 5 ≤ 0 ∧ μ (5 + 4 * i) 6 = p)))) ∧ μ2 = μ) := by
  refine CT.bool (cc := b_U_isApprovedBy) (maxL := 2) (by decide) rfl rfl (Nat.le_of_ble_eq_true rfl) ?_
  intro G ad N hK X hret
  subst hK
  have hN : 272 ≤ N := hN
  show AW G (rmD 0) 2 (0, 0, ad, N, fb) 0 [(0, .ref (5 + 4 * i)), (1, .int p)] [] μ
  refine AW.aload_n X (pc := 0) 0 rfl rfl d_U_isApprovedBy_0 ?_
  refine AW.get X (pc := 1) (k := 5 + 4 * i) (ci := 3) (j := 5) (v := .int (μ (5 + 4 * i) 5)) (by omega) (sh_u hi) rfl in_U (by decide) wf_U_71 rfl rfl d_U_isApprovedBy_1 ?_
  refine AW.if_le X (pc := 4) 19 d_U_isApprovedBy_4 (by decide) (fun c_4 => ?_) (fun c_4 => ?_)
  · refine AW.iconst X (pc := 19) (v := 0) (by decide) d_U_isApprovedBy_19 ?_
    exact hret 20 _ _ _ d_U_isApprovedBy_20 (by first | rfl | exact bi_nar _) ⟨by first | rfl | simp [bi, c_4], rfl⟩
  · refine AW.aload_n X (pc := 7) 0 rfl rfl d_U_isApprovedBy_7 ?_
    refine AW.get X (pc := 8) (k := 5 + 4 * i) (ci := 3) (j := 6) (v := .int (μ (5 + 4 * i) 6)) (by omega) (sh_u hi) rfl in_U (by decide) wf_U_28 rfl rfl d_U_isApprovedBy_8 ?_
    refine AW.iload_n X (pc := 11) 1 rfl rfl d_U_isApprovedBy_11 ?_
    refine AW.icmp_ne X (pc := 12) 19 d_U_isApprovedBy_12 (by decide) (fun c_12 => ?_) (fun c_12 => ?_)
    · refine AW.iconst X (pc := 19) (v := 0) (by decide) d_U_isApprovedBy_19 ?_
      exact hret 20 _ _ _ d_U_isApprovedBy_20 (by first | rfl | exact bi_nar _) ⟨by first | rfl | simp [bi, c_4, c_12], rfl⟩
    · refine AW.iconst X (pc := 15) (v := 1) (by decide) d_U_isApprovedBy_15 ?_
      refine AW.goto X (pc := 16) 20 d_U_isApprovedBy_16 (by decide) ?_
      exact hret 20 _ _ _ d_U_isApprovedBy_20 (by first | rfl | exact bi_nar _) ⟨by first | rfl | simp [bi, c_4, c_12], rfl⟩
set_option maxHeartbeats 4000000 in
set_option maxRecDepth 100000 in
theorem c_U_setDisposed (K : KTy) (i : Nat) (x : Int32) (μ : Mu) (hN : 272 ≤ KN K) (hi : i < 60) : CT K y_U_setDisposed (k_U_setDisposed :: GT) 0 [.ref (5 + 4 * i), .int x] μ (fun v μ2 => v = none ∧ μ2 = m_up μ (5 + 4 * i) 7 x) := by
  refine CT.void (cc := b_U_setDisposed) (maxL := 2) (by decide) rfl rfl (Nat.le_of_ble_eq_true rfl) ?_
  intro G ad N hK X hret
  subst hK
  have hN : 272 ≤ N := hN
  show AW G (rmD 0) 2 (0, 0, ad, N, fb) 0 [(0, .ref (5 + 4 * i)), (1, .int x)] [] μ
  refine AW.aload_n X (pc := 0) 0 rfl rfl d_U_setDisposed_0 ?_
  refine AW.iload_n X (pc := 1) 1 rfl rfl d_U_setDisposed_1 ?_
  refine AW.put X (pc := 2) (k := 5 + 4 * i) (ci := 3) (j := 7) (x := x) (ty := .int) ft_U (by omega) (sh_u hi) rfl in_U ft_U_ok n_U (by decide) wf_U_31 rfl rfl rfl rfl rfl d_U_setDisposed_2 ?_
  exact hret 5 _ _ d_U_setDisposed_5 ⟨rfl, rfl⟩
set_option maxHeartbeats 4000000 in
set_option maxRecDepth 100000 in
theorem c_U_setCertificate (K : KTy) (i : Nat) (x : Int32) (μ : Mu) (hN : 272 ≤ KN K) (hi : i < 60) : CT K y_U_setCertificate (k_U_setCertificate :: GT) 0 [.ref (5 + 4 * i), .int x] μ (fun v μ2 => v = none ∧ μ2 = m_up μ (5 + 4 * i) 8 x) := by
  refine CT.void (cc := b_U_setCertificate) (maxL := 2) (by decide) rfl rfl (Nat.le_of_ble_eq_true rfl) ?_
  intro G ad N hK X hret
  subst hK
  have hN : 272 ≤ N := hN
  show AW G (rmD 0) 2 (0, 0, ad, N, fb) 0 [(0, .ref (5 + 4 * i)), (1, .int x)] [] μ
  refine AW.aload_n X (pc := 0) 0 rfl rfl d_U_setCertificate_0 ?_
  refine AW.iload_n X (pc := 1) 1 rfl rfl d_U_setCertificate_1 ?_
  refine AW.put X (pc := 2) (k := 5 + 4 * i) (ci := 3) (j := 8) (x := x) (ty := .int) ft_U (by omega) (sh_u hi) rfl in_U ft_U_ok n_U (by decide) wf_U_34 rfl rfl rfl rfl rfl d_U_setCertificate_2 ?_
  exact hret 5 _ _ d_U_setCertificate_5 ⟨rfl, rfl⟩
set_option maxHeartbeats 4000000 in
set_option maxRecDepth 100000 in
theorem c_U_takeApprovalsAway (K : KTy) (i : Nat) (μ : Mu) (hN : 272 ≤ KN K) (hi : i < 60) : CT K y_U_takeApprovalsAway (k_U_takeApprovalsAway :: GT) 0 [.ref (5 + 4 * i)] μ (fun v μ2 => v = none ∧ μ2 = m_up μ (5 + 4 * i) 5 0) := by
  refine CT.void (cc := b_U_takeApprovalsAway) (maxL := 1) (by decide) rfl rfl (Nat.le_of_ble_eq_true rfl) ?_
  intro G ad N hK X hret
  subst hK
  have hN : 272 ≤ N := hN
  show AW G (rmD 0) 1 (0, 0, ad, N, fb) 0 [(0, .ref (5 + 4 * i))] [] μ
  refine AW.aload_n X (pc := 0) 0 rfl rfl d_U_takeApprovalsAway_0 ?_
  refine AW.iconst X (pc := 1) (v := 0) (by decide) d_U_takeApprovalsAway_1 ?_
  refine AW.put X (pc := 2) (k := 5 + 4 * i) (ci := 3) (j := 5) (x := 0) (ty := .int) ft_U (by omega) (sh_u hi) rfl in_U ft_U_ok n_U (by decide) wf_U_71 rfl rfl rfl rfl rfl d_U_takeApprovalsAway_2 ?_
  exact hret 5 _ _ d_U_takeApprovalsAway_5 ⟨rfl, rfl⟩
set_option maxHeartbeats 4000000 in
set_option maxRecDepth 100000 in
theorem c_U_setException (K : KTy) (i : Nat) (x : Int32) (μ : Mu) (hN : 272 ≤ KN K) (hi : i < 60) : CT K y_U_setException (k_U_setException :: GT) 1 [.ref (5 + 4 * i), .int x] μ (fun v μ2 => v = none ∧ μ2 = m_up (m_up μ (5 + 4 * i) 4 x) (5 + 4 * i) 5 0) := by
  refine CT.void (cc := b_U_setException) (maxL := 2) (by decide) rfl rfl (Nat.le_of_ble_eq_true rfl) ?_
  intro G ad N hK X hret
  subst hK
  have hN : 272 ≤ N := hN
  show AW G (rmD 1) 2 (0, 0, ad, N, fb) 0 [(0, .ref (5 + 4 * i)), (1, .int x)] [] μ
  refine AW.aload_n X (pc := 0) 0 rfl rfl d_U_setException_0 ?_
  refine AW.iload_n X (pc := 1) 1 rfl rfl d_U_setException_1 ?_
  refine AW.put X (pc := 2) (k := 5 + 4 * i) (ci := 3) (j := 4) (x := x) (ty := .int) ft_U (by omega) (sh_u hi) rfl in_U ft_U_ok n_U (by decide) wf_U_24 rfl rfl rfl rfl rfl d_U_setException_2 ?_
  refine AW.aload_n X (pc := 5) 0 rfl rfl d_U_setException_5 ?_
  refine AW.callV X (pc := 6) (b := 5 + 4 * i) (ci := 3) (nA := 0) [] [] (c_U_takeApprovalsAway (kOf G ad N) i (m_up μ (5 + 4 * i) 4 x) hN hi) (gv_V wm_U_37 wi_U_takeApprovalsAway wl_U_takeApprovalsAway wn_U kw_U_takeApprovalsAway) rfl (by decide +kernel) rfl (by omega) (sh_u hi) rfl ⟨Nat.le_of_ble_eq_true rfl, Nat.le_of_ble_eq_true rfl⟩ ⟨Nat.zero_le _, Nat.zero_le _⟩ (Nat.le_of_ble_eq_true rfl) d_U_setException_6 rfl (fun v μ2 hq => ?_)
  obtain ⟨rfl, hm⟩ := hq
  rw [hm]
  clear hm
  show AW G (rmD 1) 2 (0, 0, ad, N, fb) 9 [(0, .ref (5 + 4 * i)), (1, .int x)] [] (m_up (m_up μ (5 + 4 * i) 4 x) (5 + 4 * i) 5 0)
  exact hret 9 _ _ d_U_setException_9 ⟨rfl, rfl⟩
set_option maxHeartbeats 4000000 in
set_option maxRecDepth 100000 in
theorem c_U_setEvent (K : KTy) (i q : Nat) (x : Int32) (μ : Mu) (hN : 272 ≤ KN K) (hi : i < 60) (hq : q < 4) : CT K y_U_setEvent (k_U_setEvent :: GT) 1 [.ref (5 + 4 * i), .int (nI q), .int x] μ (fun v μ2 => v = none ∧ μ2 = m_up (m_up μ (5 + 4 * i + 1) q x) (5 + 4 * i) 5 0) := by
  refine CT.void (cc := b_U_setEvent) (maxL := 3) (by decide) rfl rfl (Nat.le_of_ble_eq_true rfl) ?_
  intro G ad N hK X hret
  subst hK
  have hN : 272 ≤ N := hN
  show AW G (rmD 1) 3 (0, 0, ad, N, fb) 0 [(0, .ref (5 + 4 * i)), (1, .int (nI q)), (2, .int x)] [] μ
  refine AW.iload_n X (pc := 0) 1 rfl rfl d_U_setEvent_0 ?_
  refine AW.if_lt X (pc := 1) 24 d_U_setEvent_1 (by decide) (fun c_1 => absurd c_1 (by rw [i_lt (nI_toInt (show q < 2 ^ 31 by omega)) (show (0 : Int32).toInt = 0 by decide)]; omega)) (fun c_1 => ?_)
  refine AW.iload_n X (pc := 4) 1 rfl rfl d_U_setEvent_4 ?_
  refine AW.aload_n X (pc := 5) 0 rfl rfl d_U_setEvent_5 ?_
  refine AW.get X (pc := 6) (k := 5 + 4 * i) (ci := 3) (j := 0) (v := .ref (5 + 4 * i + 1)) (by omega) (sh_u hi) rfl in_U (by decide) wf_U_9 rfl rfl d_U_setEvent_6 ?_
  refine AW.alen X (pc := 9) (k := 5 + 4 * i + 1) (t := 0) (n := 4) (kd := 0) (v := 4) (by omega) (sh_ue hi) rfl (by decide) d_U_setEvent_9 ?_
  refine AW.icmp_ge X (pc := 10) 24 d_U_setEvent_10 (by decide) (fun c_10 => absurd c_10 (by rw [i_le (show (4 : Int32).toInt = 4 by decide) (nI_toInt (show q < 2 ^ 31 by omega))]; omega)) (fun c_10 => ?_)
  refine AW.aload_n X (pc := 13) 0 rfl rfl d_U_setEvent_13 ?_
  refine AW.get X (pc := 14) (k := 5 + 4 * i) (ci := 3) (j := 0) (v := .ref (5 + 4 * i + 1)) (by omega) (sh_u hi) rfl in_U (by decide) wf_U_9 rfl rfl d_U_setEvent_14 ?_
  refine AW.iload_n X (pc := 17) 1 rfl rfl d_U_setEvent_17 ?_
  refine AW.iload_n X (pc := 18) 2 rfl rfl d_U_setEvent_18 ?_
  refine AW.iastN X (pc := 19) (k := 5 + 4 * i + 1) (t := 0) (n := 4) (j := q) (x := x) (by omega) (sh_ue hi) rfl (by omega) (by decide) d_U_setEvent_19 ?_
  refine AW.aload_n X (pc := 20) 0 rfl rfl d_U_setEvent_20 ?_
  refine AW.callV X (pc := 21) (b := 5 + 4 * i) (ci := 3) (nA := 0) [] [] (c_U_takeApprovalsAway (kOf G ad N) i (m_up μ (5 + 4 * i + 1) q x) hN hi) (gv_V wm_U_37 wi_U_takeApprovalsAway wl_U_takeApprovalsAway wn_U kw_U_takeApprovalsAway) rfl (by decide +kernel) rfl (by omega) (sh_u hi) rfl ⟨Nat.le_of_ble_eq_true rfl, Nat.le_of_ble_eq_true rfl⟩ ⟨Nat.zero_le _, Nat.zero_le _⟩ (Nat.le_of_ble_eq_true rfl) d_U_setEvent_21 rfl (fun v μ2 hq => ?_)
  obtain ⟨rfl, hm⟩ := hq
  rw [hm]
  clear hm
  show AW G (rmD 1) 3 (0, 0, ad, N, fb) 24 [(0, .ref (5 + 4 * i)), (1, .int (nI q)), (2, .int x)] [] (m_up (m_up μ (5 + 4 * i + 1) q x) (5 + 4 * i) 5 0)
  exact hret 24 _ _ d_U_setEvent_24 ⟨rfl, rfl⟩
set_option maxHeartbeats 4000000 in
set_option maxRecDepth 100000 in
theorem c_U_setHold (K : KTy) (i q : Nat) (x : Int32) (μ : Mu) (hN : 272 ≤ KN K) (hi : i < 60) (hq : q < 4) : CT K y_U_setHold (k_U_setHold :: GT) 1 [.ref (5 + 4 * i), .int (nI q), .int x] μ (fun v μ2 => v = none ∧ μ2 = m_up (m_up μ (5 + 4 * i + 3) q x) (5 + 4 * i) 5 0) := by
  refine CT.void (cc := b_U_setHold) (maxL := 3) (by decide) rfl rfl (Nat.le_of_ble_eq_true rfl) ?_
  intro G ad N hK X hret
  subst hK
  have hN : 272 ≤ N := hN
  show AW G (rmD 1) 3 (0, 0, ad, N, fb) 0 [(0, .ref (5 + 4 * i)), (1, .int (nI q)), (2, .int x)] [] μ
  refine AW.iload_n X (pc := 0) 1 rfl rfl d_U_setHold_0 ?_
  refine AW.if_lt X (pc := 1) 24 d_U_setHold_1 (by decide) (fun c_1 => absurd c_1 (by rw [i_lt (nI_toInt (show q < 2 ^ 31 by omega)) (show (0 : Int32).toInt = 0 by decide)]; omega)) (fun c_1 => ?_)
  refine AW.iload_n X (pc := 4) 1 rfl rfl d_U_setHold_4 ?_
  refine AW.aload_n X (pc := 5) 0 rfl rfl d_U_setHold_5 ?_
  refine AW.get X (pc := 6) (k := 5 + 4 * i) (ci := 3) (j := 3) (v := .ref (5 + 4 * i + 3)) (by omega) (sh_u hi) rfl in_U (by decide) wf_U_21 rfl rfl d_U_setHold_6 ?_
  refine AW.alen X (pc := 9) (k := 5 + 4 * i + 3) (t := 0) (n := 4) (kd := 0) (v := 4) (by omega) (sh_uh hi) rfl (by decide) d_U_setHold_9 ?_
  refine AW.icmp_ge X (pc := 10) 24 d_U_setHold_10 (by decide) (fun c_10 => absurd c_10 (by rw [i_le (show (4 : Int32).toInt = 4 by decide) (nI_toInt (show q < 2 ^ 31 by omega))]; omega)) (fun c_10 => ?_)
  refine AW.aload_n X (pc := 13) 0 rfl rfl d_U_setHold_13 ?_
  refine AW.get X (pc := 14) (k := 5 + 4 * i) (ci := 3) (j := 3) (v := .ref (5 + 4 * i + 3)) (by omega) (sh_u hi) rfl in_U (by decide) wf_U_21 rfl rfl d_U_setHold_14 ?_
  refine AW.iload_n X (pc := 17) 1 rfl rfl d_U_setHold_17 ?_
  refine AW.iload_n X (pc := 18) 2 rfl rfl d_U_setHold_18 ?_
  refine AW.iastN X (pc := 19) (k := 5 + 4 * i + 3) (t := 0) (n := 4) (j := q) (x := x) (by omega) (sh_uh hi) rfl (by omega) (by decide) d_U_setHold_19 ?_
  refine AW.aload_n X (pc := 20) 0 rfl rfl d_U_setHold_20 ?_
  refine AW.callV X (pc := 21) (b := 5 + 4 * i) (ci := 3) (nA := 0) [] [] (c_U_takeApprovalsAway (kOf G ad N) i (m_up μ (5 + 4 * i + 3) q x) hN hi) (gv_V wm_U_37 wi_U_takeApprovalsAway wl_U_takeApprovalsAway wn_U kw_U_takeApprovalsAway) rfl (by decide +kernel) rfl (by omega) (sh_u hi) rfl ⟨Nat.le_of_ble_eq_true rfl, Nat.le_of_ble_eq_true rfl⟩ ⟨Nat.zero_le _, Nat.zero_le _⟩ (Nat.le_of_ble_eq_true rfl) d_U_setHold_21 rfl (fun v μ2 hq => ?_)
  obtain ⟨rfl, hm⟩ := hq
  rw [hm]
  clear hm
  show AW G (rmD 1) 3 (0, 0, ad, N, fb) 24 [(0, .ref (5 + 4 * i)), (1, .int (nI q)), (2, .int x)] [] (m_up (m_up μ (5 + 4 * i + 3) q x) (5 + 4 * i) 5 0)
  exact hret 24 _ _ d_U_setHold_24 ⟨rfl, rfl⟩
set_option maxHeartbeats 4000000 in
set_option maxRecDepth 100000 in
theorem c_U_eventDay (K : KTy) (i q : Nat) (μ : Mu) (hN : 272 ≤ KN K) (hi : i < 60) (hq : q < 4) : CT K y_U_eventDay (k_U_eventDay :: GT) 0 [.ref (5 + 4 * i), .int (nI q)] μ (fun v μ2 => v = some (.int (μ (5 + 4 * i + 1) q)) ∧ μ2 = μ) := by
  refine CT.int (cc := b_U_eventDay) (maxL := 2) (by decide) rfl rfl (Nat.le_of_ble_eq_true rfl) ?_
  intro G ad N hK X hret
  subst hK
  have hN : 272 ≤ N := hN
  show AW G (rmD 0) 2 (0, 0, ad, N, fb) 0 [(0, .ref (5 + 4 * i)), (1, .int (nI q))] [] μ
  refine AW.iload_n X (pc := 0) 1 rfl rfl d_U_eventDay_0 ?_
  refine AW.if_lt X (pc := 1) 22 d_U_eventDay_1 (by decide) (fun c_1 => absurd c_1 (by rw [i_lt (nI_toInt (show q < 2 ^ 31 by omega)) (show (0 : Int32).toInt = 0 by decide)]; omega)) (fun c_1 => ?_)
  refine AW.iload_n X (pc := 4) 1 rfl rfl d_U_eventDay_4 ?_
  refine AW.aload_n X (pc := 5) 0 rfl rfl d_U_eventDay_5 ?_
  refine AW.get X (pc := 6) (k := 5 + 4 * i) (ci := 3) (j := 0) (v := .ref (5 + 4 * i + 1)) (by omega) (sh_u hi) rfl in_U (by decide) wf_U_9 rfl rfl d_U_eventDay_6 ?_
  refine AW.alen X (pc := 9) (k := 5 + 4 * i + 1) (t := 0) (n := 4) (kd := 0) (v := 4) (by omega) (sh_ue hi) rfl (by decide) d_U_eventDay_9 ?_
  refine AW.icmp_ge X (pc := 10) 22 d_U_eventDay_10 (by decide) (fun c_10 => absurd c_10 (by rw [i_le (show (4 : Int32).toInt = 4 by decide) (nI_toInt (show q < 2 ^ 31 by omega))]; omega)) (fun c_10 => ?_)
  refine AW.aload_n X (pc := 13) 0 rfl rfl d_U_eventDay_13 ?_
  refine AW.get X (pc := 14) (k := 5 + 4 * i) (ci := 3) (j := 0) (v := .ref (5 + 4 * i + 1)) (by omega) (sh_u hi) rfl in_U (by decide) wf_U_9 rfl rfl d_U_eventDay_14 ?_
  refine AW.iload_n X (pc := 17) 1 rfl rfl d_U_eventDay_17 ?_
  refine AW.ialdN X (pc := 18) (k := 5 + 4 * i + 1) (t := 0) (n := 4) (j := q) (by omega) (sh_ue hi) rfl (by omega) (by decide) d_U_eventDay_18 ?_
  refine AW.goto X (pc := 19) 23 d_U_eventDay_19 (by decide) ?_
  exact hret 23 _ _ _ d_U_eventDay_23 ⟨by first | rfl | simp [bi, c_1, c_10], rfl⟩
set_option maxHeartbeats 4000000 in
set_option maxRecDepth 100000 in
theorem c_U_addApproval (K : KTy) (i : Nat) (p : Int32) (μ : Mu) (hN : 272 ≤ KN K) (hi : i < 60) : CT K y_U_addApproval (k_U_addApproval :: GT) 0 [.ref (5 + 4 * i), .int p] μ (fun v μ2 => v = none ∧ μ2 = if μ (5 + 4 * i) 5 = 0 then m_up (m_up μ (5 + 4 * i) 6 p) (5 + 4 * i) 5 (m_up μ (5 + 4 * i) 6 p (5 + 4 * i) 5 + 1) else m_up μ (5 + 4 * i) 5 (μ (5 + 4 * i) 5 + 1)) := by
  refine CT.void (cc := b_U_addApproval) (maxL := 2) (by decide) rfl rfl (Nat.le_of_ble_eq_true rfl) ?_
  intro G ad N hK X hret
  subst hK
  have hN : 272 ≤ N := hN
  show AW G (rmD 0) 2 (0, 0, ad, N, fb) 0 [(0, .ref (5 + 4 * i)), (1, .int p)] [] μ
  refine AW.aload_n X (pc := 0) 0 rfl rfl d_U_addApproval_0 ?_
  refine AW.get X (pc := 1) (k := 5 + 4 * i) (ci := 3) (j := 5) (v := .int (μ (5 + 4 * i) 5)) (by omega) (sh_u hi) rfl in_U (by decide) wf_U_71 rfl rfl d_U_addApproval_1 ?_
  refine AW.if_ne X (pc := 4) 12 d_U_addApproval_4 (by decide) (fun c_4 => ?_) (fun c_4 => ?_)
  · refine AW.aload_n X (pc := 12) 0 rfl rfl d_U_addApproval_12 ?_
    refine AW.dup X (pc := 13) rfl d_U_addApproval_13 ?_
    refine AW.get X (pc := 14) (k := 5 + 4 * i) (ci := 3) (j := 5) (v := .int (μ (5 + 4 * i) 5)) (by omega) (sh_u hi) rfl in_U (by decide) wf_U_71 rfl rfl d_U_addApproval_14 ?_
    refine AW.iconst X (pc := 17) (v := 1) (by decide) d_U_addApproval_17 ?_
    refine AW.iadd X (pc := 18) d_U_addApproval_18 ?_
    refine AW.put X (pc := 19) (k := 5 + 4 * i) (ci := 3) (j := 5) (x := (μ (5 + 4 * i) 5) + 1) (ty := .int) ft_U (by omega) (sh_u hi) rfl in_U ft_U_ok n_U (by decide) wf_U_71 rfl rfl rfl rfl rfl d_U_addApproval_19 ?_
    exact hret 22 _ _ d_U_addApproval_22 ⟨rfl, by simp [c_4]⟩
  · refine AW.aload_n X (pc := 7) 0 rfl rfl d_U_addApproval_7 ?_
    refine AW.iload_n X (pc := 8) 1 rfl rfl d_U_addApproval_8 ?_
    refine AW.put X (pc := 9) (k := 5 + 4 * i) (ci := 3) (j := 6) (x := p) (ty := .int) ft_U (by omega) (sh_u hi) rfl in_U ft_U_ok n_U (by decide) wf_U_28 rfl rfl rfl rfl rfl d_U_addApproval_9 ?_
    refine AW.aload_n X (pc := 12) 0 rfl rfl d_U_addApproval_12 ?_
    refine AW.dup X (pc := 13) rfl d_U_addApproval_13 ?_
    refine AW.get X (pc := 14) (k := 5 + 4 * i) (ci := 3) (j := 5) (v := .int ((m_up μ (5 + 4 * i) 6 p) (5 + 4 * i) 5)) (by omega) (sh_u hi) rfl in_U (by decide) wf_U_71 rfl rfl d_U_addApproval_14 ?_
    refine AW.iconst X (pc := 17) (v := 1) (by decide) d_U_addApproval_17 ?_
    refine AW.iadd X (pc := 18) d_U_addApproval_18 ?_
    refine AW.put X (pc := 19) (k := 5 + 4 * i) (ci := 3) (j := 5) (x := ((m_up μ (5 + 4 * i) 6 p) (5 + 4 * i) 5) + 1) (ty := .int) ft_U (by omega) (sh_u hi) rfl in_U ft_U_ok n_U (by decide) wf_U_71 rfl rfl rfl rfl rfl d_U_addApproval_19 ?_
    exact hret 22 _ _ d_U_addApproval_22 ⟨rfl, by simp [c_4]⟩
end
section
set_option maxHeartbeats 4000000 in
set_option maxRecDepth 100000 in
theorem c_R_yearsOn (K : KTy) (r nr : Nat) (on : Int32) (μ : Mu) (hN : 272 ≤ KN K) (hr : r < nr) (hI : CI μ nr) (hKN : KN K = 272 + 3 * nr) : CT K y_R_yearsOn (k_R_yearsOn :: GT) 0 [.ref (272 + 3 * r), .int on] μ (fun v μ2 => v = some (.int (f_years μ r on (ccN μ r))) ∧ μ2 = μ) := by
  refine CT.int (cc := b_R_yearsOn) (maxL := 4) (by decide) rfl rfl (Nat.le_of_ble_eq_true rfl) ?_
  intro G ad N hK X hret
  subst hK
  have hN : 272 ≤ N := hN
  have hKN : N = 272 + 3 * nr := hKN
  have hnr := hI.nr
  show AW G (rmD 0) 4 (0, 0, ad, N, fb) 0 [(0, .ref (272 + 3 * r)), (1, .int on)] [] μ
  have hcc := (hI.cc hr).2
  have key : ∀ (n : Nat) (j : Nat) (x : Int32) (y : Int32), ccN μ r - j < n → (j ≤ ccN μ r) → (x = nI j) → (y = f_years μ r on j) → AW G (rmD 0) 4 (0, 0, ad, N, fb) 7 [(3, .int x), (2, .int y), (0, .ref (272 + 3 * r)), (1, .int on)] [] μ := by
    intro n
    induction n with
    | zero =>
      intro j x y hlt
      exact absurd hlt (Nat.not_lt_zero _)
    | succ n ih =>
      intro j x y hlt hj ex ey
      subst ex
      subst ey
      refine AW.iload_n X (pc := 7) 0 rfl rfl d_R_yearsOn_7 ?_
      refine AW.aload_n X (pc := 8) 2 rfl rfl d_R_yearsOn_8 ?_
      refine AW.get X (pc := 9) (k := 272 + 3 * r) (ci := 1) (j := 5) (v := .int (μ (272 + 3 * r) 5)) (by omega) (sh_r _) rfl in_R (by decide) wf_R_32 rfl rfl d_R_yearsOn_9 ?_
      refine AW.val (w := .int (nI (ccN μ r))) (congrArg Value.int ((hI.cc hr).1)) ?_
      refine AW.icmp_ge X (pc := 12) 43 d_R_yearsOn_12 (by decide) (fun c_12 => ?_) (fun c_12 => ?_)
      · rw [nI_leI (by omega) (by omega)] at c_12
        refine AW.iload_n X (pc := 43) 1 rfl rfl d_R_yearsOn_43 ?_
        exact hret 44 _ _ _ d_R_yearsOn_44 ⟨by rw [show ccN μ r = j by omega], rfl⟩
      · rw [nI_leI (by omega) (by omega)] at c_12
        refine AW.iload_n X (pc := 15) 0 rfl rfl d_R_yearsOn_15 ?_
        refine AW.iconst X (pc := 16) (v := 5) (by decide) d_R_yearsOn_16 ?_
        refine AW.icmp_ge X (pc := 17) 43 d_R_yearsOn_17 (by decide) (fun c_17 => absurd c_17 (by rw [i_le (show (5 : Int32).toInt = 5 by decide) (nI_toInt (show j < 2 ^ 31 by omega))]; omega)) (fun c_17 => ?_)
        refine AW.aload_n X (pc := 20) 2 rfl rfl d_R_yearsOn_20 ?_
        refine AW.get X (pc := 21) (k := 272 + 3 * r) (ci := 1) (j := 3) (v := .ref (272 + 3 * r + 1)) (by omega) (sh_r _) rfl in_R (by decide) wf_R_9 rfl rfl d_R_yearsOn_21 ?_
        refine AW.iload_n X (pc := 24) 0 rfl rfl d_R_yearsOn_24 ?_
        refine AW.ialdN X (pc := 25) (k := 272 + 3 * r + 1) (t := 0) (n := 5) (j := j) (by omega) (sh_rd _) rfl (by omega) (by decide) d_R_yearsOn_25 ?_
        refine AW.iload_n X (pc := 26) 3 rfl rfl d_R_yearsOn_26 ?_
        refine AW.icmp_gt X (pc := 27) 37 d_R_yearsOn_27 (by decide) (fun c_27 => ?_) (fun c_27 => ?_)
        · refine AW.iinc X (pc := 37) (v := nI (j + 1)) (lv2 := [(3, .int (nI (j + 1))), (2, .int (f_years μ r on j)), (0, .ref (272 + 3 * r)), (1, .int on)]) 0 rfl (nI_1 _) d_R_yearsOn_37 (by decide) rfl ?_
          refine AW.goto X (pc := 40) 7 d_R_yearsOn_40 (by decide) ?_
          exact ih (j + 1) _ _ (by omega) (by omega) rfl (by rw [f_years, if_pos c_27])
        · refine AW.aload_n X (pc := 30) 2 rfl rfl d_R_yearsOn_30 ?_
          refine AW.get X (pc := 31) (k := 272 + 3 * r) (ci := 1) (j := 4) (v := .ref (272 + 3 * r + 2)) (by omega) (sh_r _) rfl in_R (by decide) wf_R_15 rfl rfl d_R_yearsOn_31 ?_
          refine AW.iload_n X (pc := 34) 0 rfl rfl d_R_yearsOn_34 ?_
          refine AW.ialdN X (pc := 35) (k := 272 + 3 * r + 2) (t := 0) (n := 5) (j := j) (by omega) (sh_ry _) rfl (by omega) (by decide) d_R_yearsOn_35 ?_
          refine AW.istore_n X (pc := 36) (lv2 := [(2, .int (μ (272 + 3 * r + 2) j)), (3, .int (nI j)), (0, .ref (272 + 3 * r)), (1, .int on)]) rfl d_R_yearsOn_36 (by decide) rfl ?_
          refine AW.iinc X (pc := 37) (v := nI (j + 1)) (lv2 := [(3, .int (nI (j + 1))), (2, .int (μ (272 + 3 * r + 2) j)), (0, .ref (272 + 3 * r)), (1, .int on)]) 1 rfl (nI_1 _) d_R_yearsOn_37 (by decide) rfl ?_
          refine AW.goto X (pc := 40) 7 d_R_yearsOn_40 (by decide) ?_
          exact ih (j + 1) _ _ (by omega) (by omega) rfl (by rw [f_years, if_neg c_27])
  refine AW.aload_n X (pc := 0) 0 rfl rfl d_R_yearsOn_0 ?_
  refine AW.get X (pc := 1) (k := 272 + 3 * r) (ci := 1) (j := 1) (v := .int (μ (272 + 3 * r) 1)) (by omega) (sh_r _) rfl in_R (by decide) wf_R_22 rfl rfl d_R_yearsOn_1 ?_
  refine AW.istore_n X (pc := 4) (lv2 := [(2, .int (μ (272 + 3 * r) 1)), (0, .ref (272 + 3 * r)), (1, .int on)]) rfl d_R_yearsOn_4 (by decide) rfl ?_
  refine AW.iconst X (pc := 5) (v := 0) (by decide) d_R_yearsOn_5 ?_
  refine AW.istore_n X (pc := 6) (lv2 := [(3, .int 0), (2, .int (μ (272 + 3 * r) 1)), (0, .ref (272 + 3 * r)), (1, .int on)]) rfl d_R_yearsOn_6 (by decide) rfl ?_
  exact key (ccN μ r + 1) 0 _ _ (by omega) (Nat.zero_le _) nI_0.symm rfl
set_option maxHeartbeats 4000000 in
set_option maxRecDepth 100000 in
theorem c_R_dueDay (K : KTy) (r nr : Nat) (ev on : Int32) (μ : Mu) (hN : 272 ≤ KN K) (hr : r < nr) (hI : CI μ nr) (hKN : KN K = 272 + 3 * nr) : CT K y_R_dueDay (k_R_dueDay :: GT) 1 [.ref (272 + 3 * r), .int ev, .int on] μ (fun v μ2 => v = some (.int (f_rday μ r ev on)) ∧ μ2 = μ) := by
  refine CT.int (cc := b_R_dueDay) (maxL := 3) (by decide) rfl rfl (Nat.le_of_ble_eq_true rfl) ?_
  intro G ad N hK X hret
  subst hK
  have hN : 272 ≤ N := hN
  have hKN : N = 272 + 3 * nr := hKN
  have hnr := hI.nr
  show AW G (rmD 1) 3 (0, 0, ad, N, fb) 0 [(0, .ref (272 + 3 * r)), (1, .int ev), (2, .int on)] [] μ
  refine AW.iload_n X (pc := 0) 1 rfl rfl d_R_dueDay_0 ?_
  refine AW.iconst X (pc := 1) (v := -1) (by decide) d_R_dueDay_1 ?_
  refine AW.icmp_ne X (pc := 2) 9 d_R_dueDay_2 (by decide) (fun c_2 => ?_) (fun c_2 => ?_)
  · refine AW.iload_n X (pc := 9) 1 rfl rfl d_R_dueDay_9 ?_
    refine AW.aload_n X (pc := 10) 0 rfl rfl d_R_dueDay_10 ?_
    refine AW.iload_n X (pc := 11) 2 rfl rfl d_R_dueDay_11 ?_
    refine AW.callV X (pc := 12) (b := 272 + 3 * r) (ci := 1) (nA := 1) [.int on] [.int ev] (c_R_yearsOn (kOf G ad N) r nr on μ hN hr hI hKN) (gv_V wm_R_35 wi_R_yearsOn wl_R_yearsOn wn_R kw_R_yearsOn) rfl (by decide +kernel) rfl (by omega) (sh_r _) rfl ⟨Nat.le_of_ble_eq_true rfl, Nat.le_of_ble_eq_true rfl⟩ ⟨Nat.zero_le _, Nat.zero_le _⟩ (Nat.le_of_ble_eq_true rfl) d_R_dueDay_12 rfl (fun v μ2 hq => ?_)
    obtain ⟨rfl, hm⟩ := hq
    rw [hm]
    clear hm
    show AW G (rmD 1) 3 (0, 0, ad, N, fb) 15 [(0, .ref (272 + 3 * r)), (1, .int ev), (2, .int on)] [.int (f_years μ r on (ccN μ r)), .int ev] μ
    refine AW.sipush X (pc := 15) (v := 365) (by decide) d_R_dueDay_15 ?_
    refine AW.imul X (pc := 18) d_R_dueDay_18 ?_
    refine AW.iadd X (pc := 19) d_R_dueDay_19 ?_
    exact hret 20 _ _ _ d_R_dueDay_20 ⟨by first | rfl | simp [bi, f_rday, c_2], rfl⟩
  · refine AW.iconst X (pc := 5) (v := -1) (by decide) d_R_dueDay_5 ?_
    refine AW.goto X (pc := 6) 20 d_R_dueDay_6 (by decide) ?_
    exact hret 20 _ _ _ d_R_dueDay_20 ⟨by first | rfl | simp [bi, f_rday, c_2], rfl⟩
set_option maxHeartbeats 4000000 in
set_option maxRecDepth 100000 in
theorem c_R_isChangedFrom (K : KTy) (r nr : Nat) (dd : Int32) (μ : Mu) (hN : 272 ≤ KN K) (hr : r < nr) (hI : CI μ nr) (hKN : KN K = 272 + 3 * nr) : CT K y_R_isChangedFrom (k_R_isChangedFrom :: GT) 0 [.ref (272 + 3 * r), .int dd] μ (fun v μ2 => v = some (.int (bi (decide (0 < ccN μ r ∧ ¬ μ (272 + 3 * r + 1) (ccN μ r - 1) < dd)))) ∧ μ2 = μ) := by
  refine CT.bool (cc := b_R_isChangedFrom) (maxL := 3) (by decide) rfl rfl (Nat.le_of_ble_eq_true rfl) ?_
  intro G ad N hK X hret
  subst hK
  have hN : 272 ≤ N := hN
  have hKN : N = 272 + 3 * nr := hKN
  have hnr := hI.nr
  show AW G (rmD 0) 3 (0, 0, ad, N, fb) 0 [(0, .ref (272 + 3 * r)), (1, .int dd)] [] μ
  have hcc := (hI.cc hr).2
  rcases Nat.eq_zero_or_pos (ccN μ r) with h0 | h0
  · refine AW.aload_n X (pc := 0) 0 rfl rfl d_R_isChangedFrom_0 ?_
    refine AW.get X (pc := 1) (k := 272 + 3 * r) (ci := 1) (j := 5) (v := .int (μ (272 + 3 * r) 5)) (by omega) (sh_r _) rfl in_R (by decide) wf_R_32 rfl rfl d_R_isChangedFrom_1 ?_
    refine AW.val (w := .int 0) (congrArg Value.int ((hI.cc hr).1.trans (by rw [h0] <;> exact nI_0))) ?_
    refine AW.iconst X (pc := 4) (v := 1) (by decide) d_R_isChangedFrom_4 ?_
    refine AW.isub X (pc := 5) d_R_isChangedFrom_5 ?_
    refine AW.istore_n X (pc := 6) (lv2 := [(2, .int (0 - 1)), (0, .ref (272 + 3 * r)), (1, .int dd)]) rfl d_R_isChangedFrom_6 (by decide) rfl ?_
    refine AW.iload_n X (pc := 7) 0 rfl rfl d_R_isChangedFrom_7 ?_
    refine AW.if_lt X (pc := 8) 30 d_R_isChangedFrom_8 (by decide) (fun c_8 => ?_) (fun c_8 => absurd c_8 (by decide))
    refine AW.iconst X (pc := 30) (v := 0) (by decide) d_R_isChangedFrom_30 ?_
    exact hret 31 _ _ _ d_R_isChangedFrom_31 rfl ⟨by simp [bi, h0], rfl⟩
  · refine AW.aload_n X (pc := 0) 0 rfl rfl d_R_isChangedFrom_0 ?_
    refine AW.get X (pc := 1) (k := 272 + 3 * r) (ci := 1) (j := 5) (v := .int (μ (272 + 3 * r) 5)) (by omega) (sh_r _) rfl in_R (by decide) wf_R_32 rfl rfl d_R_isChangedFrom_1 ?_
    refine AW.val (w := .int (nI (ccN μ r))) (congrArg Value.int ((hI.cc hr).1)) ?_
    refine AW.iconst X (pc := 4) (v := 1) (by decide) d_R_isChangedFrom_4 ?_
    refine AW.isub X (pc := 5) d_R_isChangedFrom_5 ?_
    refine AW.val (congrArg Value.int (show nI (ccN μ r) - 1 = nI (ccN μ r - 1) from pk_sub (b := 1) h0)) ?_
    refine AW.istore_n X (pc := 6) (lv2 := [(2, .int (nI (ccN μ r - 1))), (0, .ref (272 + 3 * r)), (1, .int dd)]) rfl d_R_isChangedFrom_6 (by decide) rfl ?_
    refine AW.iload_n X (pc := 7) 0 rfl rfl d_R_isChangedFrom_7 ?_
    refine AW.if_lt X (pc := 8) 30 d_R_isChangedFrom_8 (by decide) (fun c_8 => absurd c_8 (by rw [i_lt (nI_toInt (show ccN μ r - 1 < 2 ^ 31 by omega)) (show (0 : Int32).toInt = 0 by decide)]; omega)) (fun c_8 => ?_)
    refine AW.iload_n X (pc := 11) 0 rfl rfl d_R_isChangedFrom_11 ?_
    refine AW.iconst X (pc := 12) (v := 5) (by decide) d_R_isChangedFrom_12 ?_
    refine AW.icmp_ge X (pc := 13) 30 d_R_isChangedFrom_13 (by decide) (fun c_13 => absurd c_13 (by rw [i_le (show (5 : Int32).toInt = 5 by decide) (nI_toInt (show ccN μ r - 1 < 2 ^ 31 by omega))]; omega)) (fun c_13 => ?_)
    refine AW.aload_n X (pc := 16) 1 rfl rfl d_R_isChangedFrom_16 ?_
    refine AW.get X (pc := 17) (k := 272 + 3 * r) (ci := 1) (j := 3) (v := .ref (272 + 3 * r + 1)) (by omega) (sh_r _) rfl in_R (by decide) wf_R_9 rfl rfl d_R_isChangedFrom_17 ?_
    refine AW.iload_n X (pc := 20) 0 rfl rfl d_R_isChangedFrom_20 ?_
    refine AW.ialdN X (pc := 21) (k := 272 + 3 * r + 1) (t := 0) (n := 5) (j := ccN μ r - 1) (by omega) (sh_rd _) rfl (by omega) (by decide) d_R_isChangedFrom_21 ?_
    refine AW.iload_n X (pc := 22) 2 rfl rfl d_R_isChangedFrom_22 ?_
    refine AW.icmp_lt X (pc := 23) 30 d_R_isChangedFrom_23 (by decide) (fun c_23 => ?_) (fun c_23 => ?_)
    · refine AW.iconst X (pc := 30) (v := 0) (by decide) d_R_isChangedFrom_30 ?_
      exact hret 31 _ _ _ d_R_isChangedFrom_31 rfl ⟨by simp [bi, h0, c_23], rfl⟩
    · refine AW.iconst X (pc := 26) (v := 1) (by decide) d_R_isChangedFrom_26 ?_
      refine AW.goto X (pc := 27) 31 d_R_isChangedFrom_27 (by decide) ?_
      exact hret 31 _ _ _ d_R_isChangedFrom_31 rfl ⟨by simp [bi, h0, c_23], rfl⟩
set_option maxHeartbeats 4000000 in
set_option maxRecDepth 100000 in
theorem c_R_addChange (K : KTy) (r nr : Nat) (yy dd : Int32) (μ : Mu) (hN : 272 ≤ KN K) (hr : r < nr) (hI : CI μ nr) (hKN : KN K = 272 + 3 * nr) : CT K y_R_addChange (k_R_addChange :: GT) 0 [.ref (272 + 3 * r), .int yy, .int dd] μ (fun v μ2 => if ccN μ r < 5 then v = some (.int 1) ∧ μ2 = m_up (m_up (m_up μ (272 + 3 * r + 1) (ccN μ r) dd) (272 + 3 * r + 2) (ccN μ r) yy) (272 + 3 * r) 5 (nI (ccN μ r) + 1) else v = some (.int 0) ∧ μ2 = μ) := by
  refine CT.bool (cc := b_R_addChange) (maxL := 4) (by decide) rfl rfl (Nat.le_of_ble_eq_true rfl) ?_
  intro G ad N hK X hret
  subst hK
  have hN : 272 ≤ N := hN
  have hKN : N = 272 + 3 * nr := hKN
  have hnr := hI.nr
  have hcc := (hI.cc hr).2
  show AW G (rmD 0) 4 (0, 0, ad, N, fb) 0 [(0, .ref (272 + 3 * r)), (1, .int yy), (2, .int dd)] [] μ
  refine AW.aload_n X (pc := 0) 0 rfl rfl d_R_addChange_0 ?_
  refine AW.get X (pc := 1) (k := 272 + 3 * r) (ci := 1) (j := 5) (v := .int (μ (272 + 3 * r) 5)) (by omega) (sh_r _) rfl in_R (by decide) wf_R_32 rfl rfl d_R_addChange_1 ?_
  refine AW.val (w := .int (nI (ccN μ r))) (congrArg Value.int ((hI.cc hr).1)) ?_
  refine AW.istore_n X (pc := 4) (lv2 := [(3, .int (nI (ccN μ r))), (0, .ref (272 + 3 * r)), (1, .int yy), (2, .int dd)]) rfl d_R_addChange_4 (by decide) rfl ?_
  refine AW.iload_n X (pc := 5) 0 rfl rfl d_R_addChange_5 ?_
  refine AW.if_lt X (pc := 6) 14 d_R_addChange_6 (by decide) (fun c_6 => absurd c_6 (by rw [i_lt (nI_toInt (show ccN μ r < 2 ^ 31 by omega)) (show (0 : Int32).toInt = 0 by decide)]; omega)) (fun c_6 => ?_)
  refine AW.iload_n X (pc := 9) 0 rfl rfl d_R_addChange_9 ?_
  refine AW.iconst X (pc := 10) (v := 5) (by decide) d_R_addChange_10 ?_
  refine AW.icmp_lt X (pc := 11) 16 d_R_addChange_11 (by decide) (fun c_11 => ?_) (fun c_11 => ?_)
  · rw [i_lt (nI_toInt (show ccN μ r < 2 ^ 31 by omega)) (show (5 : Int32).toInt = 5 by decide)] at c_11
    have c_11 : ccN μ r < 5 := by omega
    refine AW.aload_n X (pc := 16) 1 rfl rfl d_R_addChange_16 ?_
    refine AW.get X (pc := 17) (k := 272 + 3 * r) (ci := 1) (j := 3) (v := .ref (272 + 3 * r + 1)) (by omega) (sh_r _) rfl in_R (by decide) wf_R_9 rfl rfl d_R_addChange_17 ?_
    refine AW.iload_n X (pc := 20) 0 rfl rfl d_R_addChange_20 ?_
    refine AW.iload_n X (pc := 21) 3 rfl rfl d_R_addChange_21 ?_
    refine AW.iastN X (pc := 22) (k := 272 + 3 * r + 1) (t := 0) (n := 5) (j := ccN μ r) (x := dd) (by omega) (sh_rd _) rfl (by omega) (by decide) d_R_addChange_22 ?_
    refine AW.aload_n X (pc := 23) 1 rfl rfl d_R_addChange_23 ?_
    refine AW.get X (pc := 24) (k := 272 + 3 * r) (ci := 1) (j := 4) (v := .ref (272 + 3 * r + 2)) (by omega) (sh_r _) rfl in_R (by decide) wf_R_15 rfl rfl d_R_addChange_24 ?_
    refine AW.iload_n X (pc := 27) 0 rfl rfl d_R_addChange_27 ?_
    refine AW.iload_n X (pc := 28) 2 rfl rfl d_R_addChange_28 ?_
    refine AW.iastN X (pc := 29) (k := 272 + 3 * r + 2) (t := 0) (n := 5) (j := ccN μ r) (x := yy) (by omega) (sh_ry _) rfl (by omega) (by decide) d_R_addChange_29 ?_
    refine AW.aload_n X (pc := 30) 1 rfl rfl d_R_addChange_30 ?_
    refine AW.iload_n X (pc := 31) 0 rfl rfl d_R_addChange_31 ?_
    refine AW.iconst X (pc := 32) (v := 1) (by decide) d_R_addChange_32 ?_
    refine AW.iadd X (pc := 33) d_R_addChange_33 ?_
    refine AW.put X (pc := 34) (k := 272 + 3 * r) (ci := 1) (j := 5) (x := (nI (ccN μ r)) + 1) (ty := .int) ft_R (by omega) (sh_r _) rfl in_R ft_R_ok n_R (by decide) wf_R_32 rfl rfl rfl rfl rfl d_R_addChange_34 ?_
    refine AW.iconst X (pc := 37) (v := 1) (by decide) d_R_addChange_37 ?_
    exact hret 38 _ _ _ d_R_addChange_38 rfl (by first | (rw [if_pos c_11]; exact ⟨rfl, rfl⟩) | (rw [if_neg c_11]; exact ⟨rfl, rfl⟩))
  · rw [i_lt (nI_toInt (show ccN μ r < 2 ^ 31 by omega)) (show (5 : Int32).toInt = 5 by decide)] at c_11
    have c_11 : ¬ ccN μ r < 5 := by omega
    refine AW.iconst X (pc := 14) (v := 0) (by decide) d_R_addChange_14 ?_
    exact hret 15 _ _ _ d_R_addChange_15 rfl (by first | (rw [if_pos c_11]; exact ⟨rfl, rfl⟩) | (rw [if_neg c_11]; exact ⟨rfl, rfl⟩))
set_option maxHeartbeats 4000000 in
set_option maxRecDepth 100000 in
theorem c_U_isHeld (K : KTy) (i : Nat) (dd : Int32) (μ : Mu) (hN : 272 ≤ KN K) (hi : i < 60) : CT K y_U_isHeld (k_U_isHeld :: GT) 0 [.ref (5 + 4 * i), .int dd] μ (fun v μ2 => v = some (.int (bi (f_held μ i dd))) ∧ μ2 = μ) := by
  refine CT.bool (cc := b_U_isHeld) (maxL := 3) (by decide) rfl rfl (Nat.le_of_ble_eq_true rfl) ?_
  intro G ad N hK X hret
  subst hK
  have hN : 272 ≤ N := hN
  show AW G (rmD 0) 3 (0, 0, ad, N, fb) 0 [(0, .ref (5 + 4 * i)), (1, .int dd)] [] μ
  have key : ∀ (n : Nat) (j : Nat) (x : Int32), 4 - j < n → (j ≤ 4) → (x = nI j) → (∀ q, q < j → (decide (μ (5 + 4 * i + 3) q = -1) || decide (¬ μ (5 + 4 * i + 3) q < dd)) = false) → AW G (rmD 0) 3 (0, 0, ad, N, fb) 2 [(2, .int x), (0, .ref (5 + 4 * i)), (1, .int dd)] [] μ := by
    intro n
    induction n with
    | zero =>
      intro j x hlt
      exact absurd hlt (Nat.not_lt_zero _)
    | succ n ih =>
      intro j x hlt hj ex hp
      subst ex
      refine AW.iload_n X (pc := 2) 0 rfl rfl d_U_isHeld_2 ?_
      refine AW.aload_n X (pc := 3) 1 rfl rfl d_U_isHeld_3 ?_
      refine AW.get X (pc := 4) (k := 5 + 4 * i) (ci := 3) (j := 3) (v := .ref (5 + 4 * i + 3)) (by omega) (sh_u hi) rfl in_U (by decide) wf_U_21 rfl rfl d_U_isHeld_4 ?_
      refine AW.alen X (pc := 7) (k := 5 + 4 * i + 3) (t := 0) (n := 4) (kd := 0) (v := 4) (by omega) (sh_uh hi) rfl (by decide) d_U_isHeld_7 ?_
      refine AW.icmp_ge X (pc := 8) 39 d_U_isHeld_8 (by decide) (fun c_8 => ?_) (fun c_8 => ?_)
      · rw [i_le (show (4 : Int32).toInt = 4 by decide) (nI_toInt (show j < 2 ^ 31 by omega))] at c_8
        refine AW.iconst X (pc := 39) (v := 0) (by decide) d_U_isHeld_39 ?_
        exact hret 40 _ _ _ d_U_isHeld_40 rfl ⟨by rw [f_held, anyB_f (fun q hq => hp q (by omega))]; rfl, rfl⟩
      · rw [i_le (show (4 : Int32).toInt = 4 by decide) (nI_toInt (show j < 2 ^ 31 by omega))] at c_8
        refine AW.aload_n X (pc := 11) 1 rfl rfl d_U_isHeld_11 ?_
        refine AW.get X (pc := 12) (k := 5 + 4 * i) (ci := 3) (j := 3) (v := .ref (5 + 4 * i + 3)) (by omega) (sh_u hi) rfl in_U (by decide) wf_U_21 rfl rfl d_U_isHeld_12 ?_
        refine AW.iload_n X (pc := 15) 0 rfl rfl d_U_isHeld_15 ?_
        refine AW.ialdN X (pc := 16) (k := 5 + 4 * i + 3) (t := 0) (n := 4) (j := j) (by omega) (sh_uh hi) rfl (by omega) (by decide) d_U_isHeld_16 ?_
        refine AW.iconst X (pc := 17) (v := -1) (by decide) d_U_isHeld_17 ?_
        refine AW.icmp_eq X (pc := 18) 31 d_U_isHeld_18 (by decide) (fun c_18 => ?_) (fun c_18 => ?_)
        · refine AW.iconst X (pc := 31) (v := 1) (by decide) d_U_isHeld_31 ?_
          exact hret 32 _ _ _ d_U_isHeld_32 rfl ⟨by rw [f_held, anyB_t (j := j) (by omega) (by simp [c_18])]; rfl, rfl⟩
        · refine AW.aload_n X (pc := 21) 1 rfl rfl d_U_isHeld_21 ?_
          refine AW.get X (pc := 22) (k := 5 + 4 * i) (ci := 3) (j := 3) (v := .ref (5 + 4 * i + 3)) (by omega) (sh_u hi) rfl in_U (by decide) wf_U_21 rfl rfl d_U_isHeld_22 ?_
          refine AW.iload_n X (pc := 25) 0 rfl rfl d_U_isHeld_25 ?_
          refine AW.ialdN X (pc := 26) (k := 5 + 4 * i + 3) (t := 0) (n := 4) (j := j) (by omega) (sh_uh hi) rfl (by omega) (by decide) d_U_isHeld_26 ?_
          refine AW.iload_n X (pc := 27) 2 rfl rfl d_U_isHeld_27 ?_
          refine AW.icmp_lt X (pc := 28) 33 d_U_isHeld_28 (by decide) (fun c_28 => ?_) (fun c_28 => ?_)
          · refine AW.iinc X (pc := 33) (v := nI (j + 1)) (lv2 := [(2, .int (nI (j + 1))), (0, .ref (5 + 4 * i)), (1, .int dd)]) 0 rfl (nI_1 _) d_U_isHeld_33 (by decide) rfl ?_
            refine AW.goto X (pc := 36) 2 d_U_isHeld_36 (by decide) ?_
            exact ih (j + 1) _ (by omega) (by omega) rfl (lt_s hp (by simp [c_18, c_28]))
          · refine AW.iconst X (pc := 31) (v := 1) (by decide) d_U_isHeld_31 ?_
            exact hret 32 _ _ _ d_U_isHeld_32 rfl ⟨by rw [f_held, anyB_t (j := j) (by omega) (by simp [c_18, c_28])]; rfl, rfl⟩
  refine AW.iconst X (pc := 0) (v := 0) (by decide) d_U_isHeld_0 ?_
  refine AW.istore_n X (pc := 1) (lv2 := [(2, .int 0), (0, .ref (5 + 4 * i)), (1, .int dd)]) rfl d_U_isHeld_1 (by decide) rfl ?_
  exact key 5 0 _ (by omega) (Nat.zero_le _) nI_0.symm lt_0
end
section
set_option maxHeartbeats 4000000 in
set_option maxRecDepth 100000 in
theorem c_R_ek (K : KTy) (r nr : Nat) (μ : Mu) (hN : 272 ≤ KN K) (hr : r < nr) (hI : CI μ nr) (hKN : KN K = 272 + 3 * nr) : CT K y_R_eventKind (k_R_eventKind :: GT) 0 [.ref (272 + 3 * r)] μ (fun v μ2 => v = some (.int (nI (ekN μ r))) ∧ μ2 = μ) := by
  refine CT.int (cc := b_R_eventKind) (maxL := 1) (by decide) rfl rfl (Nat.le_of_ble_eq_true rfl) ?_
  intro G ad N hK X hret
  subst hK
  have hN : 272 ≤ N := hN
  have hKN : N = 272 + 3 * nr := hKN
  have hnr := hI.nr
  show AW G (rmD 0) 1 (0, 0, ad, N, fb) 0 [(0, .ref (272 + 3 * r))] [] μ
  refine AW.aload_n X (pc := 0) 0 rfl rfl d_R_eventKind_0 ?_
  refine AW.get X (pc := 1) (k := 272 + 3 * r) (ci := 1) (j := 0) (v := .int (μ (272 + 3 * r) 0)) (by omega) (sh_r _) rfl in_R (by decide) wf_R_18 rfl rfl d_R_eventKind_1 ?_
  exact hret 4 _ _ _ d_R_eventKind_4 ⟨by rw [(hI.ek hr).1], rfl⟩
set_option maxHeartbeats 4000000 in
set_option maxRecDepth 100000 in
theorem c_U_hasRule (K : KTy) (i r nr : Nat) (μ : Mu) (hN : 272 ≤ KN K) (hi : i < 60) (hr : r < nr) (hI : CI μ nr) (hKN : KN K = 272 + 3 * nr) : CT K y_U_hasRule (k_U_hasRule :: GT) 0 [.ref (5 + 4 * i), .ref (272 + 3 * r)] μ (fun v μ2 => v = some (.int (bi (anyB (fun j => decide (rwN μ i j = r)) (rnN μ i)))) ∧ μ2 = μ) := by
  refine CT.bool (cc := b_U_hasRule) (maxL := 3) (by decide) rfl rfl (Nat.le_of_ble_eq_true rfl) ?_
  intro G ad N hK X hret
  subst hK
  have hN : 272 ≤ N := hN
  have hKN : N = 272 + 3 * nr := hKN
  have hnr := hI.nr
  have hrn := (hI.rn hi).2
  show AW G (rmD 0) 3 (0, 0, ad, N, fb) 0 [(0, .ref (5 + 4 * i)), (1, .ref (272 + 3 * r))] [] μ
  have key : ∀ (n : Nat) (j : Nat) (x : Int32), rnN μ i - j < n → (j ≤ rnN μ i) → (x = nI j) → (∀ q, q < j → decide (rwN μ i q = r) = false) → AW G (rmD 0) 3 (0, 0, ad, N, fb) 2 [(2, .int x), (0, .ref (5 + 4 * i)), (1, .ref (272 + 3 * r))] [] μ := by
    intro n
    induction n with
    | zero =>
      intro j x hlt
      exact absurd hlt (Nat.not_lt_zero _)
    | succ n ih =>
      intro j x hlt hj ex hp
      subst ex
      refine AW.iload_n X (pc := 2) 0 rfl rfl d_U_hasRule_2 ?_
      refine AW.aload_n X (pc := 3) 1 rfl rfl d_U_hasRule_3 ?_
      refine AW.get X (pc := 4) (k := 5 + 4 * i) (ci := 3) (j := 2) (v := .int (μ (5 + 4 * i) 2)) (by omega) (sh_u hi) rfl in_U (by decide) wf_U_40 rfl rfl d_U_hasRule_4 ?_
      refine AW.val (w := .int (nI (rnN μ i))) (congrArg Value.int ((hI.rn hi).1)) ?_
      refine AW.icmp_ge X (pc := 7) 37 d_U_hasRule_7 (by decide) (fun c_7 => ?_) (fun c_7 => ?_)
      · rw [i_le (nI_toInt (show rnN μ i < 2 ^ 31 by omega)) (nI_toInt (show j < 2 ^ 31 by omega))] at c_7
        refine AW.iconst X (pc := 37) (v := 0) (by decide) d_U_hasRule_37 ?_
        exact hret 38 _ _ _ d_U_hasRule_38 rfl ⟨by rw [anyB_f (fun q hq => hp q (by omega))]; rfl, rfl⟩
      · rw [i_le (nI_toInt (show rnN μ i < 2 ^ 31 by omega)) (nI_toInt (show j < 2 ^ 31 by omega))] at c_7
        have hw := (hI.rw hi (show j < rnN μ i by omega)).2
        refine AW.iload_n X (pc := 10) 0 rfl rfl d_U_hasRule_10 ?_
        refine AW.aload_n X (pc := 11) 1 rfl rfl d_U_hasRule_11 ?_
        refine AW.get X (pc := 12) (k := 5 + 4 * i) (ci := 3) (j := 1) (v := .ref (5 + 4 * i + 2)) (by omega) (sh_u hi) rfl in_U (by decide) wf_U_17 rfl rfl d_U_hasRule_12 ?_
        refine AW.alen X (pc := 15) (k := 5 + 4 * i + 2) (t := 2) (n := 4) (kd := 2) (v := 4) (by omega) (sh_ur hi) rfl (by decide) d_U_hasRule_15 ?_
        refine AW.icmp_ge X (pc := 16) 37 d_U_hasRule_16 (by decide) (fun c_16 => absurd c_16 (by rw [i_le (show (4 : Int32).toInt = 4 by decide) (nI_toInt (show j < 2 ^ 31 by omega))]; omega)) (fun c_16 => ?_)
        refine AW.aload_n X (pc := 19) 1 rfl rfl d_U_hasRule_19 ?_
        refine AW.get X (pc := 20) (k := 5 + 4 * i) (ci := 3) (j := 1) (v := .ref (5 + 4 * i + 2)) (by omega) (sh_u hi) rfl in_U (by decide) wf_U_17 rfl rfl d_U_hasRule_20 ?_
        refine AW.iload_n X (pc := 23) 0 rfl rfl d_U_hasRule_23 ?_
        refine AW.aaldN X (pc := 24) (k := 5 + 4 * i + 2) (t := 2) (n := 4) (j := j) (v := .ref (272 + 3 * (rwN μ i j))) (by omega) (sh_ur hi) rfl (by omega) (by decide) (by rw [(hI.rw hi (show j < rnN μ i by omega)).1]; exact m_rv_nI (by omega)) d_U_hasRule_24 ?_
        refine AW.aload_n X (pc := 25) 2 rfl rfl d_U_hasRule_25 ?_
        refine AW.acmp_ne X (pc := 26) 31 (by omega) (by omega) d_U_hasRule_26 (by decide) (fun c_26 => ?_) (fun c_26 => ?_)
        · refine AW.iinc X (pc := 31) (v := nI (j + 1)) (lv2 := [(2, .int (nI (j + 1))), (0, .ref (5 + 4 * i)), (1, .ref (272 + 3 * r))]) 0 rfl (nI_1 _) d_U_hasRule_31 (by decide) rfl ?_
          refine AW.goto X (pc := 34) 2 d_U_hasRule_34 (by decide) ?_
          exact ih (j + 1) _ (by omega) (by omega) rfl (lt_s hp (decide_eq_false (by omega)))
        · refine AW.iconst X (pc := 29) (v := 1) (by decide) d_U_hasRule_29 ?_
          exact hret 30 _ _ _ d_U_hasRule_30 rfl ⟨by rw [anyB_t (j := j) (by omega) (decide_eq_true (by omega))]; rfl, rfl⟩
  refine AW.iconst X (pc := 0) (v := 0) (by decide) d_U_hasRule_0 ?_
  refine AW.istore_n X (pc := 1) (lv2 := [(2, .int 0), (0, .ref (5 + 4 * i)), (1, .ref (272 + 3 * r))]) rfl d_U_hasRule_1 (by decide) rfl ?_
  exact key (rnN μ i + 1) 0 _ (by omega) (Nat.zero_le _) nI_0.symm lt_0
set_option maxHeartbeats 4000000 in
set_option maxRecDepth 100000 in
theorem c_U_hasBrokenRule (K : KTy) (i nr : Nat) (μ : Mu) (hN : 272 ≤ KN K) (hi : i < 60) (hI : CI μ nr) (hKN : KN K = 272 + 3 * nr) : CT K y_U_hasBrokenRule (k_U_hasBrokenRule :: GT) 1 [.ref (5 + 4 * i)] μ (fun v μ2 => v = some (.int (bi (f_fails μ i))) ∧ μ2 = μ) := by
  refine CT.bool (cc := b_U_hasBrokenRule) (maxL := 3) (by decide) rfl rfl (Nat.le_of_ble_eq_true rfl) ?_
  intro G ad N hK X hret
  subst hK
  have hN : 272 ≤ N := hN
  have hKN : N = 272 + 3 * nr := hKN
  have hnr := hI.nr
  have hrn := (hI.rn hi).2
  show AW G (rmD 1) 3 (0, 0, ad, N, fb) 0 [(0, .ref (5 + 4 * i))] [] μ
  have key : ∀ (n : Nat) (j : Nat) (x : Int32), rnN μ i - j < n → (j ≤ rnN μ i) → (x = nI j) → (∀ q, q < j → brB μ (rwN μ i q) = false) → AW G (rmD 1) 3 (0, 0, ad, N, fb) 2 [(1, .int x), (0, .ref (5 + 4 * i))] [] μ := by
    intro n
    induction n with
    | zero =>
      intro j x hlt
      exact absurd hlt (Nat.not_lt_zero _)
    | succ n ih =>
      intro j x hlt hj ex hp
      subst ex
      refine AW.iload_n X (pc := 2) 0 rfl rfl d_U_hasBrokenRule_2 ?_
      refine AW.aload_n X (pc := 3) 1 rfl rfl d_U_hasBrokenRule_3 ?_
      refine AW.get X (pc := 4) (k := 5 + 4 * i) (ci := 3) (j := 2) (v := .int (μ (5 + 4 * i) 2)) (by omega) (sh_u hi) rfl in_U (by decide) wf_U_40 rfl rfl d_U_hasBrokenRule_4 ?_
      refine AW.val (w := .int (nI (rnN μ i))) (congrArg Value.int ((hI.rn hi).1)) ?_
      refine AW.icmp_ge X (pc := 7) 45 d_U_hasBrokenRule_7 (by decide) (fun c_7 => ?_) (fun c_7 => ?_)
      · rw [i_le (nI_toInt (show rnN μ i < 2 ^ 31 by omega)) (nI_toInt (show j < 2 ^ 31 by omega))] at c_7
        refine AW.iconst X (pc := 45) (v := 0) (by decide) d_U_hasBrokenRule_45 ?_
        exact hret 46 _ _ _ d_U_hasBrokenRule_46 rfl ⟨by rw [f_fails, anyB_f (fun q hq => hp q (by omega))]; rfl, rfl⟩
      · rw [i_le (nI_toInt (show rnN μ i < 2 ^ 31 by omega)) (nI_toInt (show j < 2 ^ 31 by omega))] at c_7
        have hw := (hI.rw hi (show j < rnN μ i by omega)).2
        refine AW.iload_n X (pc := 10) 0 rfl rfl d_U_hasBrokenRule_10 ?_
        refine AW.aload_n X (pc := 11) 1 rfl rfl d_U_hasBrokenRule_11 ?_
        refine AW.get X (pc := 12) (k := 5 + 4 * i) (ci := 3) (j := 1) (v := .ref (5 + 4 * i + 2)) (by omega) (sh_u hi) rfl in_U (by decide) wf_U_17 rfl rfl d_U_hasBrokenRule_12 ?_
        refine AW.alen X (pc := 15) (k := 5 + 4 * i + 2) (t := 2) (n := 4) (kd := 2) (v := 4) (by omega) (sh_ur hi) rfl (by decide) d_U_hasBrokenRule_15 ?_
        refine AW.icmp_ge X (pc := 16) 45 d_U_hasBrokenRule_16 (by decide) (fun c_16 => absurd c_16 (by rw [i_le (show (4 : Int32).toInt = 4 by decide) (nI_toInt (show j < 2 ^ 31 by omega))]; omega)) (fun c_16 => ?_)
        refine AW.aload_n X (pc := 19) 1 rfl rfl d_U_hasBrokenRule_19 ?_
        refine AW.get X (pc := 20) (k := 5 + 4 * i) (ci := 3) (j := 1) (v := .ref (5 + 4 * i + 2)) (by omega) (sh_u hi) rfl in_U (by decide) wf_U_17 rfl rfl d_U_hasBrokenRule_20 ?_
        refine AW.iload_n X (pc := 23) 0 rfl rfl d_U_hasBrokenRule_23 ?_
        refine AW.aaldN X (pc := 24) (k := 5 + 4 * i + 2) (t := 2) (n := 4) (j := j) (v := .ref (272 + 3 * (rwN μ i j))) (by omega) (sh_ur hi) rfl (by omega) (by decide) (by rw [(hI.rw hi (show j < rnN μ i by omega)).1]; exact m_rv_nI (by omega)) d_U_hasBrokenRule_24 ?_
        refine AW.astore_n X (pc := 25) (lv2 := [(2, .ref (272 + 3 * (rwN μ i j))), (1, .int (nI j)), (0, .ref (5 + 4 * i))]) rfl d_U_hasBrokenRule_25 (by decide) rfl ?_
        refine AW.aload_n X (pc := 26) 0 rfl rfl d_U_hasBrokenRule_26 ?_
        refine AW.ifnull X (pc := 27) d_U_hasBrokenRule_27 ?_
        refine AW.aload_n X (pc := 30) 0 rfl rfl d_U_hasBrokenRule_30 ?_
        refine AW.callV X (pc := 31) (b := 272 + 3 * (rwN μ i j)) (ci := 1) (nA := 0) [] [] (c_R_isBroken (kOf G ad N) (rwN μ i j) (brB μ (rwN μ i j)) μ hN (show 272 + 3 * (rwN μ i j) + 2 < N by omega) (hI.br hw)) (gv_V wm_U_43 wi_R_isBroken wl_R_isBroken wn_R kw_R_isBroken) rfl (by decide +kernel) rfl (by omega) (sh_r _) rfl ⟨Nat.le_of_ble_eq_true rfl, Nat.le_of_ble_eq_true rfl⟩ ⟨Nat.zero_le _, Nat.zero_le _⟩ (Nat.le_of_ble_eq_true rfl) d_U_hasBrokenRule_31 rfl (fun v μ2 hq => ?_)
        obtain ⟨rfl, hm⟩ := hq
        rw [hm]
        clear hm
        show AW G (rmD 1) 3 (0, 0, ad, N, fb) 34 [(2, .ref (272 + 3 * (rwN μ i j))), (1, .int (nI j)), (0, .ref (5 + 4 * i))] [.int (bi (brB μ (rwN μ i j)))] μ
        refine AW.if_eq X (pc := 34) 39 d_U_hasBrokenRule_34 (by decide) (fun c_34 => ?_) (fun c_34 => ?_)
        · have c_34 := bi_eq.mp c_34
          refine AW.iinc X (pc := 39) (v := nI (j + 1)) (lv2 := [(1, .int (nI (j + 1))), (2, .ref (272 + 3 * (rwN μ i j))), (0, .ref (5 + 4 * i))]) 1 rfl (nI_1 _) d_U_hasBrokenRule_39 (by decide) rfl ?_
          refine AW.goto X (pc := 42) 2 d_U_hasBrokenRule_42 (by decide) ?_
          refine AW.locs (lv2 := [(1, .int (nI (j + 1))), (0, .ref (5 + 4 * i))]) [0, 2] rfl ?_
          exact ih (j + 1) _ (by omega) (by omega) rfl (lt_s hp c_34)
        · have c_34 := bi_ne.mp c_34
          refine AW.iconst X (pc := 37) (v := 1) (by decide) d_U_hasBrokenRule_37 ?_
          exact hret 38 _ _ _ d_U_hasBrokenRule_38 rfl ⟨by rw [f_fails, anyB_t (j := j) (by omega) c_34]; rfl, rfl⟩
  refine AW.iconst X (pc := 0) (v := 0) (by decide) d_U_hasBrokenRule_0 ?_
  refine AW.istore_n X (pc := 1) (lv2 := [(1, .int 0), (0, .ref (5 + 4 * i))]) rfl d_U_hasBrokenRule_1 (by decide) rfl ?_
  exact key (rnN μ i + 1) 0 _ (by omega) (Nat.zero_le _) nI_0.symm lt_0
set_option maxHeartbeats 4000000 in
set_option maxRecDepth 100000 in
theorem c_U_decidingRule (K : KTy) (i nr : Nat) (on : Int32) (μ : Mu) (hN : 272 ≤ KN K) (hi : i < 60) (hI : CI μ nr) (hKN : KN K = 272 + 3 * nr) : CT K y_U_decidingRule (k_U_decidingRule :: GT) 2 [.ref (5 + 4 * i), .int on] μ (fun v μ2 => v = some (f_decv μ i on) ∧ μ2 = μ) := by
  refine CT.ref (cc := b_U_decidingRule) (maxL := 7) (by decide) rfl rfl (Nat.le_of_ble_eq_true rfl) ?_
  intro G ad N hK X hret
  subst hK
  have hN : 272 ≤ N := hN
  have hKN : N = 272 + 3 * nr := hKN
  have hnr := hI.nr
  have hrn := (hI.rn hi).2
  show AW G (rmD 2) 7 (0, 0, ad, N, fb) 0 [(0, .ref (5 + 4 * i)), (1, .int on)] [] μ
  have key : ∀ (n : Nat) (j : Nat) (x : Int32) (y : Int32) (dv : Value), rnN μ i - j < n → (j ≤ rnN μ i) → (x = nI j) → (y = (f_scan (f_day μ i on) j).2) → (dv = (match (f_scan (f_day μ i on) j).1 with | none => .null | some p => .ref (272 + 3 * rwN μ i p))) → (∀ q, q < j → (brB μ (rwN μ i q) || decide (f_day μ i on q = -1)) = false) → AW G (rmD 2) 7 (0, 0, ad, N, fb) 7 [(4, .int x), (3, .int y), (2, dv), (0, .ref (5 + 4 * i)), (1, .int on)] [] μ := by
    intro n
    induction n with
    | zero =>
      intro j x y dv hlt
      exact absurd hlt (Nat.not_lt_zero _)
    | succ n ih =>
      intro j x y dv hlt hj ex ey ed hp
      subst ex
      refine AW.iload X (pc := 7) 0 rfl d_U_decidingRule_7 ?_
      refine AW.aload_n X (pc := 9) 3 rfl rfl d_U_decidingRule_9 ?_
      refine AW.get X (pc := 10) (k := 5 + 4 * i) (ci := 3) (j := 2) (v := .int (μ (5 + 4 * i) 2)) (by omega) (sh_u hi) rfl in_U (by decide) wf_U_40 rfl rfl d_U_decidingRule_10 ?_
      refine AW.val (w := .int (nI (rnN μ i))) (congrArg Value.int ((hI.rn hi).1)) ?_
      refine AW.icmp_ge X (pc := 13) 93 d_U_decidingRule_13 (by decide) (fun c_13 => ?_) (fun c_13 => ?_)
      · rw [i_le (nI_toInt (show rnN μ i < 2 ^ 31 by omega)) (nI_toInt (show j < 2 ^ 31 by omega))] at c_13
        have hjn : rnN μ i = j := by omega
        have hno : f_dec μ i on = (f_scan (f_day μ i on) j).1 := by rw [f_dec, if_neg (by rw [anyB_f (fun q hq => hp q (by omega))]; decide), hjn]
        cases hsc : (f_scan (f_day μ i on) j).1 with
        | none =>
          rw [hsc] at ed hno
          subst ed
          show AW G (rmD 2) 7 (0, 0, ad, N, fb) 93 [(4, .int (nI j)), (3, .int y), (2, .null), (0, .ref (5 + 4 * i)), (1, .int on)] [] μ
          refine AW.aload_nN X (pc := 93) 2 rfl rfl d_U_decidingRule_93 ?_
          exact hret 94 _ _ _ d_U_decidingRule_94 (by first | exact Or.inl rfl | exact Or.inr ⟨_, rfl⟩) ⟨by rw [f_decv, hno], rfl⟩
        | some p =>
          rw [hsc] at ed hno
          subst ed
          show AW G (rmD 2) 7 (0, 0, ad, N, fb) 93 [(4, .int (nI j)), (3, .int y), (2, .ref (272 + 3 * (rwN μ i p))), (0, .ref (5 + 4 * i)), (1, .int on)] [] μ
          refine AW.aload_n X (pc := 93) 2 rfl rfl d_U_decidingRule_93 ?_
          exact hret 94 _ _ _ d_U_decidingRule_94 (by first | exact Or.inl rfl | exact Or.inr ⟨_, rfl⟩) ⟨by rw [f_decv, hno], rfl⟩
      · rw [i_le (nI_toInt (show rnN μ i < 2 ^ 31 by omega)) (nI_toInt (show j < 2 ^ 31 by omega))] at c_13
        have hw := (hI.rw hi (show j < rnN μ i by omega)).2
        refine AW.iload X (pc := 16) 0 rfl d_U_decidingRule_16 ?_
        refine AW.aload_n X (pc := 18) 3 rfl rfl d_U_decidingRule_18 ?_
        refine AW.get X (pc := 19) (k := 5 + 4 * i) (ci := 3) (j := 1) (v := .ref (5 + 4 * i + 2)) (by omega) (sh_u hi) rfl in_U (by decide) wf_U_17 rfl rfl d_U_decidingRule_19 ?_
        refine AW.alen X (pc := 22) (k := 5 + 4 * i + 2) (t := 2) (n := 4) (kd := 2) (v := 4) (by omega) (sh_ur hi) rfl (by decide) d_U_decidingRule_22 ?_
        refine AW.icmp_ge X (pc := 23) 93 d_U_decidingRule_23 (by decide) (fun c_23 => absurd c_23 (by rw [i_le (show (4 : Int32).toInt = 4 by decide) (nI_toInt (show j < 2 ^ 31 by omega))]; omega)) (fun c_23 => ?_)
        refine AW.aload_n X (pc := 26) 3 rfl rfl d_U_decidingRule_26 ?_
        refine AW.get X (pc := 27) (k := 5 + 4 * i) (ci := 3) (j := 1) (v := .ref (5 + 4 * i + 2)) (by omega) (sh_u hi) rfl in_U (by decide) wf_U_17 rfl rfl d_U_decidingRule_27 ?_
        refine AW.iload X (pc := 30) 0 rfl d_U_decidingRule_30 ?_
        refine AW.aaldN X (pc := 32) (k := 5 + 4 * i + 2) (t := 2) (n := 4) (j := j) (v := .ref (272 + 3 * (rwN μ i j))) (by omega) (sh_ur hi) rfl (by omega) (by decide) (by rw [(hI.rw hi (show j < rnN μ i by omega)).1]; exact m_rv_nI (by omega)) d_U_decidingRule_32 ?_
        refine AW.astore X (pc := 33) (lv2 := [(5, .ref (272 + 3 * (rwN μ i j))), (4, .int (nI j)), (3, .int y), (2, dv), (0, .ref (5 + 4 * i)), (1, .int on)]) d_U_decidingRule_33 (by decide) rfl ?_
        refine AW.aload X (pc := 35) 0 rfl d_U_decidingRule_35 ?_
        refine AW.ifnull X (pc := 37) d_U_decidingRule_37 ?_
        refine AW.aload X (pc := 40) 0 rfl d_U_decidingRule_40 ?_
        refine AW.callV X (pc := 42) (b := 272 + 3 * (rwN μ i j)) (ci := 1) (nA := 0) [] [] (c_R_isBroken (kOf G ad N) (rwN μ i j) (brB μ (rwN μ i j)) μ hN (show 272 + 3 * (rwN μ i j) + 2 < N by omega) (hI.br hw)) (gv_V wm_U_43 wi_R_isBroken wl_R_isBroken wn_R kw_R_isBroken) rfl (by decide +kernel) rfl (by omega) (sh_r _) rfl ⟨Nat.le_of_ble_eq_true rfl, Nat.le_of_ble_eq_true rfl⟩ ⟨Nat.zero_le _, Nat.zero_le _⟩ (Nat.le_of_ble_eq_true rfl) d_U_decidingRule_42 rfl (fun v μ2 hq => ?_)
        obtain ⟨rfl, hm⟩ := hq
        rw [hm]
        clear hm
        show AW G (rmD 2) 7 (0, 0, ad, N, fb) 45 [(5, .ref (272 + 3 * (rwN μ i j))), (4, .int (nI j)), (3, .int y), (2, dv), (0, .ref (5 + 4 * i)), (1, .int on)] [.int (bi (brB μ (rwN μ i j)))] μ
        refine AW.if_eq X (pc := 45) 50 d_U_decidingRule_45 (by decide) (fun c_45 => ?_) (fun c_45 => ?_)
        · have c_45 := bi_eq.mp c_45
          refine AW.aload X (pc := 50) 0 rfl d_U_decidingRule_50 ?_
          refine AW.aload_n X (pc := 52) 4 rfl rfl d_U_decidingRule_52 ?_
          refine AW.aload X (pc := 53) 0 rfl d_U_decidingRule_53 ?_
          refine AW.callV X (pc := 55) (b := 272 + 3 * (rwN μ i j)) (ci := 1) (nA := 0) [] [.ref (5 + 4 * i), .ref (272 + 3 * (rwN μ i j))] (c_R_ek (kOf G ad N) (rwN μ i j) nr μ hN hw hI hKN) (gv_V wm_U_51 wi_R_eventKind wl_R_eventKind wn_R kw_R_eventKind) rfl (by decide +kernel) rfl (by omega) (sh_r _) rfl ⟨Nat.le_of_ble_eq_true rfl, Nat.le_of_ble_eq_true rfl⟩ ⟨Nat.zero_le _, Nat.zero_le _⟩ (Nat.le_of_ble_eq_true rfl) d_U_decidingRule_55 rfl (fun v μ2 hq => ?_)
          obtain ⟨rfl, hm⟩ := hq
          rw [hm]
          clear hm
          show AW G (rmD 2) 7 (0, 0, ad, N, fb) 58 [(5, .ref (272 + 3 * (rwN μ i j))), (4, .int (nI j)), (3, .int y), (2, dv), (0, .ref (5 + 4 * i)), (1, .int on)] [.int (nI (ekN μ (rwN μ i j))), .ref (5 + 4 * i), .ref (272 + 3 * (rwN μ i j))] μ
          refine AW.callV X (pc := 58) (b := 5 + 4 * i) (ci := 3) (nA := 1) [.int (nI (ekN μ (rwN μ i j)))] [.ref (272 + 3 * (rwN μ i j))] (c_U_eventDay (kOf G ad N) i (ekN μ (rwN μ i j)) μ hN hi (hI.ek hw).2) (gv_V wm_U_55 wi_U_eventDay wl_U_eventDay wn_U kw_U_eventDay) rfl (by decide +kernel) rfl (by omega) (sh_u hi) rfl ⟨Nat.le_of_ble_eq_true rfl, Nat.le_of_ble_eq_true rfl⟩ ⟨Nat.zero_le _, Nat.zero_le _⟩ (Nat.le_of_ble_eq_true rfl) d_U_decidingRule_58 rfl (fun v μ2 hq => ?_)
          obtain ⟨rfl, hm⟩ := hq
          rw [hm]
          clear hm
          show AW G (rmD 2) 7 (0, 0, ad, N, fb) 61 [(5, .ref (272 + 3 * (rwN μ i j))), (4, .int (nI j)), (3, .int y), (2, dv), (0, .ref (5 + 4 * i)), (1, .int on)] [.int (μ (5 + 4 * i + 1) (ekN μ (rwN μ i j))), .ref (272 + 3 * (rwN μ i j))] μ
          refine AW.iload_n X (pc := 61) 5 rfl rfl d_U_decidingRule_61 ?_
          refine AW.callV X (pc := 62) (b := 272 + 3 * (rwN μ i j)) (ci := 1) (nA := 2) [.int (μ (5 + 4 * i + 1) (ekN μ (rwN μ i j))), .int on] [] (c_R_dueDay (kOf G ad N) (rwN μ i j) nr (μ (5 + 4 * i + 1) (ekN μ (rwN μ i j))) on μ hN hw hI hKN) (gv_V wm_U_59 wi_R_dueDay wl_R_dueDay wn_R kw_R_dueDay) rfl (by decide +kernel) rfl (by omega) (sh_r _) rfl ⟨Nat.le_of_ble_eq_true rfl, Nat.le_of_ble_eq_true rfl⟩ ⟨Nat.zero_le _, Nat.zero_le _⟩ (Nat.le_of_ble_eq_true rfl) d_U_decidingRule_62 rfl (fun v μ2 hq => ?_)
          obtain ⟨rfl, hm⟩ := hq
          rw [hm]
          clear hm
          show AW G (rmD 2) 7 (0, 0, ad, N, fb) 65 [(5, .ref (272 + 3 * (rwN μ i j))), (4, .int (nI j)), (3, .int y), (2, dv), (0, .ref (5 + 4 * i)), (1, .int on)] [.int (f_day μ i on j)] μ
          refine AW.istore X (pc := 65) (lv2 := [(6, .int (f_day μ i on j)), (5, .ref (272 + 3 * (rwN μ i j))), (4, .int (nI j)), (3, .int y), (2, dv), (0, .ref (5 + 4 * i)), (1, .int on)]) d_U_decidingRule_65 (by decide) rfl ?_
          refine AW.iload X (pc := 67) 0 rfl d_U_decidingRule_67 ?_
          refine AW.iconst X (pc := 69) (v := -1) (by decide) d_U_decidingRule_69 ?_
          refine AW.icmp_ne X (pc := 70) 75 d_U_decidingRule_70 (by decide) (fun c_70 => ?_) (fun c_70 => ?_)
          · refine AW.iload X (pc := 75) 0 rfl d_U_decidingRule_75 ?_
            refine AW.iload_n X (pc := 77) 3 rfl rfl d_U_decidingRule_77 ?_
            refine AW.icmp_le X (pc := 78) 87 d_U_decidingRule_78 (by decide) (fun c_78 => ?_) (fun c_78 => ?_)
            · refine AW.iinc X (pc := 87) (v := nI (j + 1)) (lv2 := [(4, .int (nI (j + 1))), (6, .int (f_day μ i on j)), (5, .ref (272 + 3 * (rwN μ i j))), (3, .int y), (2, dv), (0, .ref (5 + 4 * i)), (1, .int on)]) 2 rfl (nI_1 _) d_U_decidingRule_87 (by decide) rfl ?_
              refine AW.goto X (pc := 90) 7 d_U_decidingRule_90 (by decide) ?_
              refine AW.locs (lv2 := [(4, .int (nI (j + 1))), (3, .int y), (2, dv), (0, .ref (5 + 4 * i)), (1, .int on)]) [0, 3, 4, 5, 6] rfl ?_
              exact ih (j + 1) _ _ _ (by omega) (by omega) rfl (by rw [f_scan, if_pos (by rw [← ey]; exact c_78)]; exact ey) (by rw [f_scan, if_pos (by rw [← ey]; exact c_78)]; exact ed) (lt_s hp (by rw [c_45]; simpa using c_70))
            · refine AW.iload X (pc := 81) 0 rfl d_U_decidingRule_81 ?_
              cases hsc : (f_scan (f_day μ i on) j).1 with
              | none =>
                rw [hsc] at ed
                subst ed
                show AW G (rmD 2) 7 (0, 0, ad, N, fb) 83 [(6, .int (f_day μ i on j)), (5, .ref (272 + 3 * (rwN μ i j))), (4, .int (nI j)), (3, .int y), (2, .null), (0, .ref (5 + 4 * i)), (1, .int on)] [.int (f_day μ i on j)] μ
                refine AW.istore_n X (pc := 83) (lv2 := [(3, .int (f_day μ i on j)), (6, .int (f_day μ i on j)), (5, .ref (272 + 3 * (rwN μ i j))), (4, .int (nI j)), (2, .null), (0, .ref (5 + 4 * i)), (1, .int on)]) rfl d_U_decidingRule_83 (by decide) rfl ?_
                refine AW.aload X (pc := 84) 2 rfl d_U_decidingRule_84 ?_
                refine AW.astore_n X (pc := 86) (lv2 := [(2, .ref (272 + 3 * (rwN μ i j))), (3, .int (f_day μ i on j)), (6, .int (f_day μ i on j)), (5, .ref (272 + 3 * (rwN μ i j))), (4, .int (nI j)), (0, .ref (5 + 4 * i)), (1, .int on)]) rfl d_U_decidingRule_86 (by decide) rfl ?_
                refine AW.iinc X (pc := 87) (v := nI (j + 1)) (lv2 := [(4, .int (nI (j + 1))), (2, .ref (272 + 3 * (rwN μ i j))), (3, .int (f_day μ i on j)), (6, .int (f_day μ i on j)), (5, .ref (272 + 3 * (rwN μ i j))), (0, .ref (5 + 4 * i)), (1, .int on)]) 4 rfl (nI_1 _) d_U_decidingRule_87 (by decide) rfl ?_
                refine AW.goto X (pc := 90) 7 d_U_decidingRule_90 (by decide) ?_
                refine AW.locs (lv2 := [(4, .int (nI (j + 1))), (3, .int (f_day μ i on j)), (2, .ref (272 + 3 * (rwN μ i j))), (0, .ref (5 + 4 * i)), (1, .int on)]) [0, 2, 1, 5, 6] rfl ?_
                exact ih (j + 1) _ _ _ (by omega) (by omega) rfl (by rw [f_scan, if_neg (by rw [← ey]; exact c_78)]) (by rw [f_scan, if_neg (by rw [← ey]; exact c_78)]) (lt_s hp (by rw [c_45]; simpa using c_70))
              | some p =>
                rw [hsc] at ed
                subst ed
                show AW G (rmD 2) 7 (0, 0, ad, N, fb) 83 [(6, .int (f_day μ i on j)), (5, .ref (272 + 3 * (rwN μ i j))), (4, .int (nI j)), (3, .int y), (2, .ref (272 + 3 * (rwN μ i p))), (0, .ref (5 + 4 * i)), (1, .int on)] [.int (f_day μ i on j)] μ
                refine AW.istore_n X (pc := 83) (lv2 := [(3, .int (f_day μ i on j)), (6, .int (f_day μ i on j)), (5, .ref (272 + 3 * (rwN μ i j))), (4, .int (nI j)), (2, .ref (272 + 3 * (rwN μ i p))), (0, .ref (5 + 4 * i)), (1, .int on)]) rfl d_U_decidingRule_83 (by decide) rfl ?_
                refine AW.aload X (pc := 84) 2 rfl d_U_decidingRule_84 ?_
                refine AW.astore_n X (pc := 86) (lv2 := [(2, .ref (272 + 3 * (rwN μ i j))), (3, .int (f_day μ i on j)), (6, .int (f_day μ i on j)), (5, .ref (272 + 3 * (rwN μ i j))), (4, .int (nI j)), (0, .ref (5 + 4 * i)), (1, .int on)]) rfl d_U_decidingRule_86 (by decide) rfl ?_
                refine AW.iinc X (pc := 87) (v := nI (j + 1)) (lv2 := [(4, .int (nI (j + 1))), (2, .ref (272 + 3 * (rwN μ i j))), (3, .int (f_day μ i on j)), (6, .int (f_day μ i on j)), (5, .ref (272 + 3 * (rwN μ i j))), (0, .ref (5 + 4 * i)), (1, .int on)]) 4 rfl (nI_1 _) d_U_decidingRule_87 (by decide) rfl ?_
                refine AW.goto X (pc := 90) 7 d_U_decidingRule_90 (by decide) ?_
                refine AW.locs (lv2 := [(4, .int (nI (j + 1))), (3, .int (f_day μ i on j)), (2, .ref (272 + 3 * (rwN μ i j))), (0, .ref (5 + 4 * i)), (1, .int on)]) [0, 2, 1, 5, 6] rfl ?_
                exact ih (j + 1) _ _ _ (by omega) (by omega) rfl (by rw [f_scan, if_neg (by rw [← ey]; exact c_78)]) (by rw [f_scan, if_neg (by rw [← ey]; exact c_78)]) (lt_s hp (by rw [c_45]; simpa using c_70))
          · refine AW.aconst_null X (pc := 73) d_U_decidingRule_73 ?_
            exact hret 74 _ _ _ d_U_decidingRule_74 (Or.inl rfl) ⟨by rw [f_decv, f_dec, if_pos (anyB_t (j := j) (by omega) (by simp [c_70]))], rfl⟩
        · have c_45 := bi_ne.mp c_45
          refine AW.aconst_null X (pc := 48) d_U_decidingRule_48 ?_
          exact hret 49 _ _ _ d_U_decidingRule_49 (Or.inl rfl) ⟨by rw [f_decv, f_dec, if_pos (anyB_t (j := j) (by omega) (by rw [c_45]; rfl))], rfl⟩
  refine AW.aconst_null X (pc := 0) d_U_decidingRule_0 ?_
  refine AW.astore_nN X (pc := 1) (lv2 := [(2, .null), (0, .ref (5 + 4 * i)), (1, .int on)]) rfl d_U_decidingRule_1 (by decide) rfl ?_
  refine AW.iconst X (pc := 2) (v := -1) (by decide) d_U_decidingRule_2 ?_
  refine AW.istore_n X (pc := 3) (lv2 := [(3, .int (-1)), (2, .null), (0, .ref (5 + 4 * i)), (1, .int on)]) rfl d_U_decidingRule_3 (by decide) rfl ?_
  refine AW.iconst X (pc := 4) (v := 0) (by decide) d_U_decidingRule_4 ?_
  refine AW.istore X (pc := 5) (lv2 := [(4, .int 0), (3, .int (-1)), (2, .null), (0, .ref (5 + 4 * i)), (1, .int on)]) d_U_decidingRule_5 (by decide) rfl ?_
  exact key (rnN μ i + 1) 0 _ _ _ (by omega) (Nat.zero_le _) nI_0.symm rfl rfl lt_0
set_option maxHeartbeats 4000000 in
set_option maxRecDepth 100000 in
theorem c_U_dueDay (K : KTy) (i nr : Nat) (on : Int32) (μ : Mu) (hN : 272 ≤ KN K) (hi : i < 60) (hI : CI μ nr) (hKN : KN K = 272 + 3 * nr) : CT K y_U_dueDay (k_U_dueDay :: GT) 3 [.ref (5 + 4 * i), .int on] μ (fun v μ2 => v = some (.int (f_dueDay μ i on)) ∧ μ2 = μ) := by
  refine CT.int (cc := b_U_dueDay) (maxL := 3) (by decide) rfl rfl (Nat.le_of_ble_eq_true rfl) ?_
  intro G ad N hK X hret
  subst hK
  have hN : 272 ≤ N := hN
  have hKN : N = 272 + 3 * nr := hKN
  have hnr := hI.nr
  have hrn := (hI.rn hi).2
  show AW G (rmD 3) 3 (0, 0, ad, N, fb) 0 [(0, .ref (5 + 4 * i)), (1, .int on)] [] μ
  cases hdec : f_dec μ i on with
  | none =>
    have hdv : f_decv μ i on = .null := by rw [f_decv, hdec]
    refine AW.aload_n X (pc := 0) 0 rfl rfl d_U_dueDay_0 ?_
    refine AW.iload_n X (pc := 1) 1 rfl rfl d_U_dueDay_1 ?_
    refine AW.callV X (pc := 2) (b := 5 + 4 * i) (ci := 3) (nA := 1) [.int on] [] (c_U_decidingRule (kOf G ad N) i nr on μ hN hi hI hKN) (gv_V wm_U_47 wi_U_decidingRule wl_U_decidingRule wn_U kw_U_decidingRule) rfl (by decide +kernel) rfl (by omega) (sh_u hi) rfl ⟨Nat.le_of_ble_eq_true rfl, Nat.le_of_ble_eq_true rfl⟩ ⟨Nat.zero_le _, Nat.zero_le _⟩ (Nat.le_of_ble_eq_true rfl) d_U_dueDay_2 rfl (fun v μ2 hq => ?_)
    obtain ⟨rfl, hm⟩ := hq
    rw [hm, hdv]
    clear hm
    show AW G (rmD 3) 3 (0, 0, ad, N, fb) 5 [(0, .ref (5 + 4 * i)), (1, .int on)] [.null] μ
    refine AW.astore_nN X (pc := 5) (lv2 := [(2, .null), (0, .ref (5 + 4 * i)), (1, .int on)]) rfl d_U_dueDay_5 (by decide) rfl ?_
    refine AW.aload_nN X (pc := 6) 0 rfl rfl d_U_dueDay_6 ?_
    refine AW.ifnonnullN X (pc := 7) d_U_dueDay_7 ?_
    refine AW.iconst X (pc := 10) (v := -1) (by decide) d_U_dueDay_10 ?_
    refine AW.goto X (pc := 11) 27 d_U_dueDay_11 (by decide) ?_
    exact hret 27 _ _ _ d_U_dueDay_27 ⟨by rw [f_dueDay, hdec], rfl⟩
  | some p =>
    have hpl := f_dec_lt hdec
    have hw := (hI.rw hi hpl).2
    have hdv : f_decv μ i on = .ref (272 + 3 * rwN μ i p) := by rw [f_decv, hdec]
    refine AW.aload_n X (pc := 0) 0 rfl rfl d_U_dueDay_0 ?_
    refine AW.iload_n X (pc := 1) 1 rfl rfl d_U_dueDay_1 ?_
    refine AW.callV X (pc := 2) (b := 5 + 4 * i) (ci := 3) (nA := 1) [.int on] [] (c_U_decidingRule (kOf G ad N) i nr on μ hN hi hI hKN) (gv_V wm_U_47 wi_U_decidingRule wl_U_decidingRule wn_U kw_U_decidingRule) rfl (by decide +kernel) rfl (by omega) (sh_u hi) rfl ⟨Nat.le_of_ble_eq_true rfl, Nat.le_of_ble_eq_true rfl⟩ ⟨Nat.zero_le _, Nat.zero_le _⟩ (Nat.le_of_ble_eq_true rfl) d_U_dueDay_2 rfl (fun v μ2 hq => ?_)
    obtain ⟨rfl, hm⟩ := hq
    rw [hm, hdv]
    clear hm
    show AW G (rmD 3) 3 (0, 0, ad, N, fb) 5 [(0, .ref (5 + 4 * i)), (1, .int on)] [.ref (272 + 3 * (rwN μ i p))] μ
    refine AW.astore_n X (pc := 5) (lv2 := [(2, .ref (272 + 3 * (rwN μ i p))), (0, .ref (5 + 4 * i)), (1, .int on)]) rfl d_U_dueDay_5 (by decide) rfl ?_
    refine AW.aload_n X (pc := 6) 0 rfl rfl d_U_dueDay_6 ?_
    refine AW.ifnonnull X (pc := 7) 14 d_U_dueDay_7 (by decide) ?_
    refine AW.aload_n X (pc := 14) 0 rfl rfl d_U_dueDay_14 ?_
    refine AW.aload_n X (pc := 15) 1 rfl rfl d_U_dueDay_15 ?_
    refine AW.aload_n X (pc := 16) 0 rfl rfl d_U_dueDay_16 ?_
    refine AW.callV X (pc := 17) (b := 272 + 3 * (rwN μ i p)) (ci := 1) (nA := 0) [] [.ref (5 + 4 * i), .ref (272 + 3 * (rwN μ i p))] (c_R_ek (kOf G ad N) (rwN μ i p) nr μ hN hw hI hKN) (gv_V wm_U_51 wi_R_eventKind wl_R_eventKind wn_R kw_R_eventKind) rfl (by decide +kernel) rfl (by omega) (sh_r _) rfl ⟨Nat.le_of_ble_eq_true rfl, Nat.le_of_ble_eq_true rfl⟩ ⟨Nat.zero_le _, Nat.zero_le _⟩ (Nat.le_of_ble_eq_true rfl) d_U_dueDay_17 rfl (fun v μ2 hq => ?_)
    obtain ⟨rfl, hm⟩ := hq
    rw [hm]
    clear hm
    show AW G (rmD 3) 3 (0, 0, ad, N, fb) 20 [(2, .ref (272 + 3 * (rwN μ i p))), (0, .ref (5 + 4 * i)), (1, .int on)] [.int (nI (ekN μ (rwN μ i p))), .ref (5 + 4 * i), .ref (272 + 3 * (rwN μ i p))] μ
    refine AW.callV X (pc := 20) (b := 5 + 4 * i) (ci := 3) (nA := 1) [.int (nI (ekN μ (rwN μ i p)))] [.ref (272 + 3 * (rwN μ i p))] (c_U_eventDay (kOf G ad N) i (ekN μ (rwN μ i p)) μ hN hi (hI.ek hw).2) (gv_V wm_U_55 wi_U_eventDay wl_U_eventDay wn_U kw_U_eventDay) rfl (by decide +kernel) rfl (by omega) (sh_u hi) rfl ⟨Nat.le_of_ble_eq_true rfl, Nat.le_of_ble_eq_true rfl⟩ ⟨Nat.zero_le _, Nat.zero_le _⟩ (Nat.le_of_ble_eq_true rfl) d_U_dueDay_20 rfl (fun v μ2 hq => ?_)
    obtain ⟨rfl, hm⟩ := hq
    rw [hm]
    clear hm
    show AW G (rmD 3) 3 (0, 0, ad, N, fb) 23 [(2, .ref (272 + 3 * (rwN μ i p))), (0, .ref (5 + 4 * i)), (1, .int on)] [.int (μ (5 + 4 * i + 1) (ekN μ (rwN μ i p))), .ref (272 + 3 * (rwN μ i p))] μ
    refine AW.iload_n X (pc := 23) 2 rfl rfl d_U_dueDay_23 ?_
    refine AW.callV X (pc := 24) (b := 272 + 3 * (rwN μ i p)) (ci := 1) (nA := 2) [.int (μ (5 + 4 * i + 1) (ekN μ (rwN μ i p))), .int on] [] (c_R_dueDay (kOf G ad N) (rwN μ i p) nr (μ (5 + 4 * i + 1) (ekN μ (rwN μ i p))) on μ hN hw hI hKN) (gv_V wm_U_59 wi_R_dueDay wl_R_dueDay wn_R kw_R_dueDay) rfl (by decide +kernel) rfl (by omega) (sh_r _) rfl ⟨Nat.le_of_ble_eq_true rfl, Nat.le_of_ble_eq_true rfl⟩ ⟨Nat.zero_le _, Nat.zero_le _⟩ (Nat.le_of_ble_eq_true rfl) d_U_dueDay_24 rfl (fun v μ2 hq => ?_)
    obtain ⟨rfl, hm⟩ := hq
    rw [hm]
    clear hm
    show AW G (rmD 3) 3 (0, 0, ad, N, fb) 27 [(2, .ref (272 + 3 * (rwN μ i p))), (0, .ref (5 + 4 * i)), (1, .int on)] [.int (f_day μ i on p)] μ
    exact hret 27 _ _ _ d_U_dueDay_27 ⟨by rw [f_dueDay, hdec], rfl⟩
set_option maxHeartbeats 4000000 in
set_option maxRecDepth 100000 in
theorem c_U_dueAction (K : KTy) (i nr : Nat) (on : Int32) (μ : Mu) (hN : 272 ≤ KN K) (hi : i < 60) (hI : CI μ nr) (hKN : KN K = 272 + 3 * nr) : CT K y_U_dueAction (k_U_dueAction :: GT) 3 [.ref (5 + 4 * i), .int on] μ (fun v μ2 => v = some (.int (f_dueAction μ i on)) ∧ μ2 = μ) := by
  refine CT.int (cc := b_U_dueAction) (maxL := 3) (by decide) rfl rfl (Nat.le_of_ble_eq_true rfl) ?_
  intro G ad N hK X hret
  subst hK
  have hN : 272 ≤ N := hN
  have hKN : N = 272 + 3 * nr := hKN
  have hnr := hI.nr
  have hrn := (hI.rn hi).2
  show AW G (rmD 3) 3 (0, 0, ad, N, fb) 0 [(0, .ref (5 + 4 * i)), (1, .int on)] [] μ
  cases hdec : f_dec μ i on with
  | none =>
    have hdv : f_decv μ i on = .null := by rw [f_decv, hdec]
    refine AW.aload_n X (pc := 0) 0 rfl rfl d_U_dueAction_0 ?_
    refine AW.iload_n X (pc := 1) 1 rfl rfl d_U_dueAction_1 ?_
    refine AW.callV X (pc := 2) (b := 5 + 4 * i) (ci := 3) (nA := 1) [.int on] [] (c_U_decidingRule (kOf G ad N) i nr on μ hN hi hI hKN) (gv_V wm_U_47 wi_U_decidingRule wl_U_decidingRule wn_U kw_U_decidingRule) rfl (by decide +kernel) rfl (by omega) (sh_u hi) rfl ⟨Nat.le_of_ble_eq_true rfl, Nat.le_of_ble_eq_true rfl⟩ ⟨Nat.zero_le _, Nat.zero_le _⟩ (Nat.le_of_ble_eq_true rfl) d_U_dueAction_2 rfl (fun v μ2 hq => ?_)
    obtain ⟨rfl, hm⟩ := hq
    rw [hm, hdv]
    clear hm
    show AW G (rmD 3) 3 (0, 0, ad, N, fb) 5 [(0, .ref (5 + 4 * i)), (1, .int on)] [.null] μ
    refine AW.astore_nN X (pc := 5) (lv2 := [(2, .null), (0, .ref (5 + 4 * i)), (1, .int on)]) rfl d_U_dueAction_5 (by decide) rfl ?_
    refine AW.aload_nN X (pc := 6) 0 rfl rfl d_U_dueAction_6 ?_
    refine AW.ifnonnullN X (pc := 7) d_U_dueAction_7 ?_
    refine AW.iconst X (pc := 10) (v := -1) (by decide) d_U_dueAction_10 ?_
    refine AW.goto X (pc := 11) 18 d_U_dueAction_11 (by decide) ?_
    exact hret 18 _ _ _ d_U_dueAction_18 ⟨by rw [f_dueAction, hdec], rfl⟩
  | some p =>
    have hpl := f_dec_lt hdec
    have hw := (hI.rw hi hpl).2
    have hdv : f_decv μ i on = .ref (272 + 3 * rwN μ i p) := by rw [f_decv, hdec]
    refine AW.aload_n X (pc := 0) 0 rfl rfl d_U_dueAction_0 ?_
    refine AW.iload_n X (pc := 1) 1 rfl rfl d_U_dueAction_1 ?_
    refine AW.callV X (pc := 2) (b := 5 + 4 * i) (ci := 3) (nA := 1) [.int on] [] (c_U_decidingRule (kOf G ad N) i nr on μ hN hi hI hKN) (gv_V wm_U_47 wi_U_decidingRule wl_U_decidingRule wn_U kw_U_decidingRule) rfl (by decide +kernel) rfl (by omega) (sh_u hi) rfl ⟨Nat.le_of_ble_eq_true rfl, Nat.le_of_ble_eq_true rfl⟩ ⟨Nat.zero_le _, Nat.zero_le _⟩ (Nat.le_of_ble_eq_true rfl) d_U_dueAction_2 rfl (fun v μ2 hq => ?_)
    obtain ⟨rfl, hm⟩ := hq
    rw [hm, hdv]
    clear hm
    show AW G (rmD 3) 3 (0, 0, ad, N, fb) 5 [(0, .ref (5 + 4 * i)), (1, .int on)] [.ref (272 + 3 * (rwN μ i p))] μ
    refine AW.astore_n X (pc := 5) (lv2 := [(2, .ref (272 + 3 * (rwN μ i p))), (0, .ref (5 + 4 * i)), (1, .int on)]) rfl d_U_dueAction_5 (by decide) rfl ?_
    refine AW.aload_n X (pc := 6) 0 rfl rfl d_U_dueAction_6 ?_
    refine AW.ifnonnull X (pc := 7) 14 d_U_dueAction_7 (by decide) ?_
    refine AW.aload_n X (pc := 14) 0 rfl rfl d_U_dueAction_14 ?_
    refine AW.callV X (pc := 15) (b := 272 + 3 * (rwN μ i p)) (ci := 1) (nA := 0) [] [] (c_R_action (kOf G ad N) (rwN μ i p) μ hN (show 272 + 3 * (rwN μ i p) + 2 < N by omega)) (gv_V wm_U_63 wi_R_action wl_R_action wn_R kw_R_action) rfl (by decide +kernel) rfl (by omega) (sh_r _) rfl ⟨Nat.le_of_ble_eq_true rfl, Nat.le_of_ble_eq_true rfl⟩ ⟨Nat.zero_le _, Nat.zero_le _⟩ (Nat.le_of_ble_eq_true rfl) d_U_dueAction_15 rfl (fun v μ2 hq => ?_)
    obtain ⟨rfl, hm⟩ := hq
    rw [hm]
    clear hm
    show AW G (rmD 3) 3 (0, 0, ad, N, fb) 18 [(2, .ref (272 + 3 * (rwN μ i p))), (0, .ref (5 + 4 * i)), (1, .int on)] [.int (μ (272 + 3 * (rwN μ i p)) 2)] μ
    exact hret 18 _ _ _ d_U_dueAction_18 ⟨by rw [f_dueAction, hdec], rfl⟩
set_option maxHeartbeats 4000000 in
set_option maxRecDepth 100000 in
theorem c_U_isDue (K : KTy) (i nr : Nat) (on : Int32) (μ : Mu) (hN : 272 ≤ KN K) (hi : i < 60) (hI : CI μ nr) (hKN : KN K = 272 + 3 * nr) : CT K y_U_isDue (k_U_isDue :: GT) 4 [.ref (5 + 4 * i), .int on] μ (fun v μ2 => v = some (.int (bi (f_isDue μ i on))) ∧ μ2 = μ) := by
  refine CT.bool (cc := b_U_isDue) (maxL := 3) (by decide) rfl rfl (Nat.le_of_ble_eq_true rfl) ?_
  intro G ad N hK X hret
  subst hK
  have hN : 272 ≤ N := hN
  have hKN : N = 272 + 3 * nr := hKN
  have hnr := hI.nr
  have hrn := (hI.rn hi).2
  show AW G (rmD 4) 3 (0, 0, ad, N, fb) 0 [(0, .ref (5 + 4 * i)), (1, .int on)] [] μ
  refine AW.aload_n X (pc := 0) 0 rfl rfl d_U_isDue_0 ?_
  refine AW.callV X (pc := 1) (b := 5 + 4 * i) (ci := 3) (nA := 0) [] [] (c_U_isDisposed (kOf G ad N) i μ hN hi) (gv_V wm_U_66 wi_U_isDisposed wl_U_isDisposed wn_U kw_U_isDisposed) rfl (by decide +kernel) rfl (by omega) (sh_u hi) rfl ⟨Nat.le_of_ble_eq_true rfl, Nat.le_of_ble_eq_true rfl⟩ ⟨Nat.zero_le _, Nat.zero_le _⟩ (Nat.le_of_ble_eq_true rfl) d_U_isDue_1 rfl (fun v μ2 hq => ?_)
  obtain ⟨rfl, hm⟩ := hq
  rw [hm]
  clear hm
  show AW G (rmD 4) 3 (0, 0, ad, N, fb) 4 [(0, .ref (5 + 4 * i)), (1, .int on)] [.int (bi (decide (¬ μ (5 + 4 * i) 7 = -1)))] μ
  refine AW.if_ne X (pc := 4) 15 d_U_isDue_4 (by decide) (fun c_4 => ?_) (fun c_4 => ?_)
  · have c_4 := of_decide_eq_true (bi_ne.mp c_4)
    refine AW.iconst X (pc := 15) (v := 0) (by decide) d_U_isDue_15 ?_
    exact hret 16 _ _ _ d_U_isDue_16 rfl ⟨by simp [bi, f_isDue, c_4], rfl⟩
  · have c_4 := Decidable.not_not.mp (of_decide_eq_false (bi_eq.mp c_4))
    refine AW.aload_n X (pc := 7) 0 rfl rfl d_U_isDue_7 ?_
    refine AW.get X (pc := 8) (k := 5 + 4 * i) (ci := 3) (j := 4) (v := .int (μ (5 + 4 * i) 4)) (by omega) (sh_u hi) rfl in_U (by decide) wf_U_24 rfl rfl d_U_isDue_8 ?_
    refine AW.iload_n X (pc := 11) 1 rfl rfl d_U_isDue_11 ?_
    refine AW.icmp_lt X (pc := 12) 17 d_U_isDue_12 (by decide) (fun c_12 => ?_) (fun c_12 => ?_)
    · refine AW.aload_n X (pc := 17) 0 rfl rfl d_U_isDue_17 ?_
      refine AW.iload_n X (pc := 18) 1 rfl rfl d_U_isDue_18 ?_
      refine AW.callV X (pc := 19) (b := 5 + 4 * i) (ci := 3) (nA := 1) [.int on] [] (c_U_dueDay (kOf G ad N) i nr on μ hN hi hI hKN) (gv_V wm_U_69 wi_U_dueDay wl_U_dueDay wn_U kw_U_dueDay) rfl (by decide +kernel) rfl (by omega) (sh_u hi) rfl ⟨Nat.le_of_ble_eq_true rfl, Nat.le_of_ble_eq_true rfl⟩ ⟨Nat.zero_le _, Nat.zero_le _⟩ (Nat.le_of_ble_eq_true rfl) d_U_isDue_19 rfl (fun v μ2 hq => ?_)
      obtain ⟨rfl, hm⟩ := hq
      rw [hm]
      clear hm
      show AW G (rmD 4) 3 (0, 0, ad, N, fb) 22 [(0, .ref (5 + 4 * i)), (1, .int on)] [.int (f_dueDay μ i on)] μ
      refine AW.istore_n X (pc := 22) (lv2 := [(2, .int (f_dueDay μ i on)), (0, .ref (5 + 4 * i)), (1, .int on)]) rfl d_U_isDue_22 (by decide) rfl ?_
      refine AW.iload_n X (pc := 23) 0 rfl rfl d_U_isDue_23 ?_
      refine AW.iconst X (pc := 24) (v := -1) (by decide) d_U_isDue_24 ?_
      refine AW.icmp_eq X (pc := 25) 37 d_U_isDue_25 (by decide) (fun c_25 => ?_) (fun c_25 => ?_)
      · refine AW.iconst X (pc := 37) (v := 0) (by decide) d_U_isDue_37 ?_
        exact hret 38 _ _ _ d_U_isDue_38 rfl ⟨by simp [bi, f_isDue, c_4, c_12, c_25], rfl⟩
      · refine AW.iload_n X (pc := 28) 0 rfl rfl d_U_isDue_28 ?_
        refine AW.iload_n X (pc := 29) 2 rfl rfl d_U_isDue_29 ?_
        refine AW.icmp_gt X (pc := 30) 37 d_U_isDue_30 (by decide) (fun c_30 => ?_) (fun c_30 => ?_)
        · refine AW.iconst X (pc := 37) (v := 0) (by decide) d_U_isDue_37 ?_
          exact hret 38 _ _ _ d_U_isDue_38 rfl ⟨by simp [bi, f_isDue, c_4, c_12, c_25, c_30], rfl⟩
        · refine AW.iconst X (pc := 33) (v := 1) (by decide) d_U_isDue_33 ?_
          refine AW.goto X (pc := 34) 38 d_U_isDue_34 (by decide) ?_
          exact hret 38 _ _ _ d_U_isDue_38 rfl ⟨by simp [bi, f_isDue, c_4, c_12, c_25, c_30], rfl⟩
    · refine AW.iconst X (pc := 15) (v := 0) (by decide) d_U_isDue_15 ?_
      exact hret 16 _ _ _ d_U_isDue_16 rfl ⟨by simp [bi, f_isDue, c_4, c_12], rfl⟩
set_option maxHeartbeats 4000000 in
set_option maxRecDepth 100000 in
theorem c_U_addRule (K : KTy) (i r nr : Nat) (μ : Mu) (hN : 272 ≤ KN K) (hi : i < 60) (hr : r < nr) (hI : CI μ nr) (hKN : KN K = 272 + 3 * nr) : CT K y_U_addRule (k_U_addRule :: GT) 1 [.ref (5 + 4 * i), .ref (272 + 3 * r)] μ (fun v μ2 => if rnN μ i < 4 then v = some (.int 1) ∧ μ2 = m_up (m_up (m_up μ (5 + 4 * i + 2) (rnN μ i) (nI (272 + 3 * r + 1))) (5 + 4 * i) 2 (nI (rnN μ i) + 1)) (5 + 4 * i) 5 0 else v = some (.int 0) ∧ μ2 = μ) := by
  refine CT.bool (cc := b_U_addRule) (maxL := 2) (by decide) rfl rfl (Nat.le_of_ble_eq_true rfl) ?_
  intro G ad N hK X hret
  subst hK
  have hN : 272 ≤ N := hN
  have hKN : N = 272 + 3 * nr := hKN
  have hnr := hI.nr
  have hrn := (hI.rn hi).2
  show AW G (rmD 1) 2 (0, 0, ad, N, fb) 0 [(0, .ref (5 + 4 * i)), (1, .ref (272 + 3 * r))] [] μ
  refine AW.aload_n X (pc := 0) 0 rfl rfl d_U_addRule_0 ?_
  refine AW.get X (pc := 1) (k := 5 + 4 * i) (ci := 3) (j := 2) (v := .int (μ (5 + 4 * i) 2)) (by omega) (sh_u hi) rfl in_U (by decide) wf_U_40 rfl rfl d_U_addRule_1 ?_
  refine AW.val (w := .int (nI (rnN μ i))) (congrArg Value.int ((hI.rn hi).1)) ?_
  refine AW.if_lt X (pc := 4) 19 d_U_addRule_4 (by decide) (fun c_4 => absurd c_4 (by rw [i_lt (nI_toInt (show rnN μ i < 2 ^ 31 by omega)) (show (0 : Int32).toInt = 0 by decide)]; omega)) (fun c_4 => ?_)
  refine AW.aload_n X (pc := 7) 0 rfl rfl d_U_addRule_7 ?_
  refine AW.get X (pc := 8) (k := 5 + 4 * i) (ci := 3) (j := 2) (v := .int (μ (5 + 4 * i) 2)) (by omega) (sh_u hi) rfl in_U (by decide) wf_U_40 rfl rfl d_U_addRule_8 ?_
  refine AW.val (w := .int (nI (rnN μ i))) (congrArg Value.int ((hI.rn hi).1)) ?_
  refine AW.aload_n X (pc := 11) 0 rfl rfl d_U_addRule_11 ?_
  refine AW.get X (pc := 12) (k := 5 + 4 * i) (ci := 3) (j := 1) (v := .ref (5 + 4 * i + 2)) (by omega) (sh_u hi) rfl in_U (by decide) wf_U_17 rfl rfl d_U_addRule_12 ?_
  refine AW.alen X (pc := 15) (k := 5 + 4 * i + 2) (t := 2) (n := 4) (kd := 2) (v := 4) (by omega) (sh_ur hi) rfl (by decide) d_U_addRule_15 ?_
  refine AW.icmp_lt X (pc := 16) 21 d_U_addRule_16 (by decide) (fun c_16 => ?_) (fun c_16 => ?_)
  · rw [i_lt (nI_toInt (show rnN μ i < 2 ^ 31 by omega)) (show (4 : Int32).toInt = 4 by decide)] at c_16
    have c_16 : rnN μ i < 4 := by omega
    refine AW.aload_n X (pc := 21) 0 rfl rfl d_U_addRule_21 ?_
    refine AW.get X (pc := 22) (k := 5 + 4 * i) (ci := 3) (j := 1) (v := .ref (5 + 4 * i + 2)) (by omega) (sh_u hi) rfl in_U (by decide) wf_U_17 rfl rfl d_U_addRule_22 ?_
    refine AW.aload_n X (pc := 25) 0 rfl rfl d_U_addRule_25 ?_
    refine AW.get X (pc := 26) (k := 5 + 4 * i) (ci := 3) (j := 2) (v := .int (μ (5 + 4 * i) 2)) (by omega) (sh_u hi) rfl in_U (by decide) wf_U_40 rfl rfl d_U_addRule_26 ?_
    refine AW.val (w := .int (nI (rnN μ i))) (congrArg Value.int ((hI.rn hi).1)) ?_
    refine AW.aload_n X (pc := 29) 1 rfl rfl d_U_addRule_29 ?_
    refine AW.aastN X (pc := 30) (k := 5 + 4 * i + 2) (v := 272 + 3 * r) (t := 2) (n := 4) (ci := 1) (j := rnN μ i) (by omega) (by omega) (by omega) (sh_ur hi) rfl (sh_r _) rfl (by omega) (by decide) d_U_addRule_30 ?_
    refine AW.aload_n X (pc := 31) 0 rfl rfl d_U_addRule_31 ?_
    refine AW.dup X (pc := 32) rfl d_U_addRule_32 ?_
    refine AW.get X (pc := 33) (k := 5 + 4 * i) (ci := 3) (j := 2) (v := .int ((m_up μ (5 + 4 * i + 2) (rnN μ i) (nI (272 + 3 * r + 1))) (5 + 4 * i) 2)) (by omega) (sh_u hi) rfl in_U (by decide) wf_U_40 rfl rfl d_U_addRule_33 ?_
    refine AW.val (w := .int (nI (rnN μ i))) (congrArg Value.int ((m_up_ne (by omega)).trans (hI.rn hi).1)) ?_
    refine AW.iconst X (pc := 36) (v := 1) (by decide) d_U_addRule_36 ?_
    refine AW.iadd X (pc := 37) d_U_addRule_37 ?_
    refine AW.put X (pc := 38) (k := 5 + 4 * i) (ci := 3) (j := 2) (x := (nI (rnN μ i)) + 1) (ty := .int) ft_U (by omega) (sh_u hi) rfl in_U ft_U_ok n_U (by decide) wf_U_40 rfl rfl rfl rfl rfl d_U_addRule_38 ?_
    refine AW.aload_n X (pc := 41) 0 rfl rfl d_U_addRule_41 ?_
    refine AW.callV X (pc := 42) (b := 5 + 4 * i) (ci := 3) (nA := 0) [] [] (c_U_takeApprovalsAway (kOf G ad N) i (m_up (m_up μ (5 + 4 * i + 2) (rnN μ i) (nI (272 + 3 * r + 1))) (5 + 4 * i) 2 ((nI (rnN μ i)) + 1)) hN hi) (gv_V wm_U_37 wi_U_takeApprovalsAway wl_U_takeApprovalsAway wn_U kw_U_takeApprovalsAway) rfl (by decide +kernel) rfl (by omega) (sh_u hi) rfl ⟨Nat.le_of_ble_eq_true rfl, Nat.le_of_ble_eq_true rfl⟩ ⟨Nat.zero_le _, Nat.zero_le _⟩ (Nat.le_of_ble_eq_true rfl) d_U_addRule_42 rfl (fun v μ2 hq => ?_)
    obtain ⟨rfl, hm⟩ := hq
    rw [hm]
    clear hm
    show AW G (rmD 1) 2 (0, 0, ad, N, fb) 45 [(0, .ref (5 + 4 * i)), (1, .ref (272 + 3 * r))] [] (m_up (m_up (m_up μ (5 + 4 * i + 2) (rnN μ i) (nI (272 + 3 * r + 1))) (5 + 4 * i) 2 ((nI (rnN μ i)) + 1)) (5 + 4 * i) 5 0)
    refine AW.iconst X (pc := 45) (v := 1) (by decide) d_U_addRule_45 ?_
    exact hret 46 _ _ _ d_U_addRule_46 rfl (by first | (rw [if_pos c_16]; exact ⟨rfl, rfl⟩) | (rw [if_neg c_16]; exact ⟨rfl, rfl⟩))
  · rw [i_lt (nI_toInt (show rnN μ i < 2 ^ 31 by omega)) (show (4 : Int32).toInt = 4 by decide)] at c_16
    have c_16 : ¬ rnN μ i < 4 := by omega
    refine AW.iconst X (pc := 19) (v := 0) (by decide) d_U_addRule_19 ?_
    exact hret 20 _ _ _ d_U_addRule_20 rfl (by first | (rw [if_pos c_16]; exact ⟨rfl, rfl⟩) | (rw [if_neg c_16]; exact ⟨rfl, rfl⟩))
end
section
/-! the answers and the new cells of the class's public calls, case by case as the code has them -/
def okU (u : Int32) : Bool := decide (¬ u < 0) && decide (¬ 60 ≤ u)
def okD (d : Int32) : Bool := decide (¬ d < 0) && decide (¬ 1000000 < d)
def okR (nr : Nat) (r : Int32) : Bool := decide (¬ r < 0) && decide (¬ nI nr ≤ r)
theorem okU_of {u : Int32} (h : okU u = true) : ∃ i, i < 60 ∧ u = nI i := by
  simp only [okU, Bool.and_eq_true, decide_eq_true_eq] at h
  rcases pk_ix u (n := 60) (by decide) with h1 | h1 | h1
  · exact absurd h1 h.1
  · exact absurd h1 h.2
  · exact h1
theorem okU_nI {i : Nat} (hi : i < 60) : okU (nI i) = true := by
  simp only [okU, Bool.and_eq_true, decide_eq_true_eq]
  exact ⟨nI_pos (by omega), fun h => by rw [i_le (show (60 : Int32).toInt = 60 by decide) (nI_toInt (show i < 2 ^ 31 by omega))] at h; omega⟩
theorem okR_of {nr : Nat} {r : Int32} (hn : nr ≤ 20) (h : okR nr r = true) : ∃ i, i < nr ∧ r = nI i := by
  simp only [okR, Bool.and_eq_true, decide_eq_true_eq] at h
  rcases pk_ix r (n := nr) (by omega) with h1 | h1 | h1
  · exact absurd h1 h.1
  · exact absurd h1 h.2
  · exact h1
theorem okR_nI {nr i : Nat} (hn : nr ≤ 20) (hi : i < nr) : okR nr (nI i) = true := by
  simp only [okR, Bool.and_eq_true, decide_eq_true_eq]
  exact ⟨nI_pos (by omega), fun h => by rw [i_le (nI_toInt (show nr < 2 ^ 31 by omega)) (nI_toInt (show i < 2 ^ 31 by omega))] at h; omega⟩
theorem ofIx {x : Int32} {n : Nat} {M : Int32} (hn : n < 2 ^ 31) (hM : M.toInt = n) (h0 : ¬ x < 0) (h1 : ¬ M ≤ x) : ∃ i, i < n ∧ x = nI i := by
  rcases pk_ix x (n := n) hn with h | h | h
  · exact absurd h h0
  · exact absurd (by rw [i_le hM rfl]; rw [i_le (nI_toInt hn) rfl] at h; exact h) h1
  · exact h
def F_event (μ : Mu) (u k d : Int32) : Int32 × Mu :=
  if okU u = false then (-1, μ) else if k < 0 ∨ 4 ≤ k ∨ okD d = false then (-2, μ)
  else if ¬ μ (5 + 4 * u.toNatClampNeg) 7 = -1 then (-3, μ)
  else (1, m_up (m_up μ (5 + 4 * u.toNatClampNeg + 1) k.toNatClampNeg d) (5 + 4 * u.toNatClampNeg) 5 0)
def F_hold (μ : Mu) (u k d : Int32) : Int32 × Mu :=
  if okU u = false then (-1, μ) else if k < 0 ∨ 4 ≤ k ∨ (¬ d = -1 ∧ okD d = false) then (-2, μ)
  else (1, m_up (m_up μ (5 + 4 * u.toNatClampNeg + 3) k.toNatClampNeg d) (5 + 4 * u.toNatClampNeg) 5 0)
def F_except (μ : Mu) (u d : Int32) : Int32 × Mu :=
  if okU u = false then (-1, μ) else if okD d = false then (-2, μ)
  else (1, m_up (m_up μ (5 + 4 * u.toNatClampNeg) 4 d) (5 + 4 * u.toNatClampNeg) 5 0)
def F_day (μ : Mu) (u on : Int32) : Int32 :=
  if okU u = false ∨ okD on = false then -2 else if f_fails μ u.toNatClampNeg = true then -3 else f_dueDay μ u.toNatClampNeg on
def addAp (μ : Mu) (i : Nat) (p : Int32) : Mu := if μ (5 + 4 * i) 5 = 0 then m_up (m_up μ (5 + 4 * i) 6 p) (5 + 4 * i) 5 (m_up μ (5 + 4 * i) 6 p (5 + 4 * i) 5 + 1) else m_up μ (5 + 4 * i) 5 (μ (5 + 4 * i) 5 + 1)
def F_approve (μ : Mu) (u p : Int32) : Int32 × Mu :=
  if okU u = false then (-1, μ) else if p < 0 ∨ ¬ p < 100 then (-2, μ)
  else if ¬ μ (5 + 4 * u.toNatClampNeg) 7 = -1 ∨ 2 ≤ μ (5 + 4 * u.toNatClampNeg) 5 ∨ (¬ μ (5 + 4 * u.toNatClampNeg) 5 ≤ 0 ∧ μ (5 + 4 * u.toNatClampNeg) 6 = p) then (-3, μ)
  else (addAp μ u.toNatClampNeg p (5 + 4 * u.toNatClampNeg) 5, addAp μ u.toNatClampNeg p)
def F_certificate (μ : Mu) (u n : Int32) : Int32 × Mu :=
  if okU u = false then (-1, μ) else if n < 1 ∨ ¬ n ≤ 1000000 then (-2, μ)
  else if μ (5 + 4 * u.toNatClampNeg) 7 = -1 ∨ ¬ μ (5 + 4 * u.toNatClampNeg) 8 = -1 then (-3, μ)
  else (1, m_up μ (5 + 4 * u.toNatClampNeg) 8 n)
def F_about (μ : Mu) (u w : Int32) : Int32 :=
  if okU u = false then -1 else if w = 4 then μ (5 + 4 * u.toNatClampNeg) 2 else if w = 5 then μ (5 + 4 * u.toNatClampNeg) 5
  else if w = 6 then (if μ (5 + 4 * u.toNatClampNeg) 7 = -1 then 0 else 1) else if w = 7 then μ (5 + 4 * u.toNatClampNeg) 7
  else if w = 8 then μ (5 + 4 * u.toNatClampNeg) 8 else if w < 0 ∨ 4 ≤ w then -1 else μ (5 + 4 * u.toNatClampNeg + 1) w.toNatClampNeg
def F_schedule (μ : Mu) (nr : Nat) (u r : Int32) : Int32 × Mu :=
  if okU u = false ∨ okR nr r = false then (-1, μ)
  else if ¬ μ (5 + 4 * u.toNatClampNeg) 7 = -1 ∨ anyB (fun j => decide (rwN μ u.toNatClampNeg j = r.toNatClampNeg)) (rnN μ u.toNatClampNeg) = true then (-3, μ)
  else if rnN μ u.toNatClampNeg < 4 then (nI (rnN μ u.toNatClampNeg) + 1, m_up (m_up (m_up μ (5 + 4 * u.toNatClampNeg + 2) (rnN μ u.toNatClampNeg) (nI (272 + 3 * r.toNatClampNeg + 1))) (5 + 4 * u.toNatClampNeg) 2 (nI (rnN μ u.toNatClampNeg) + 1)) (5 + 4 * u.toNatClampNeg) 5 0)
  else (-4, μ)
def F_change (μ : Mu) (nr : Nat) (r y d : Int32) : Int32 × Mu :=
  if okR nr r = false then (-1, μ) else if y < 0 ∨ 999 < y ∨ okD d = false then (-2, μ)
  else if 0 < ccN μ r.toNatClampNeg ∧ ¬ μ (272 + 3 * r.toNatClampNeg + 1) (ccN μ r.toNatClampNeg - 1) < d then (-3, μ)
  else if ccN μ r.toNatClampNeg < 5 then (1, m_up (m_up (m_up μ (272 + 3 * r.toNatClampNeg + 1) (ccN μ r.toNatClampNeg) d) (272 + 3 * r.toNatClampNeg + 2) (ccN μ r.toNatClampNeg) y) (272 + 3 * r.toNatClampNeg) 5 (nI (ccN μ r.toNatClampNeg) + 1))
  else (-4, μ)
def F_breaks (μ : Mu) (nr : Nat) (r : Int32) (b : Bool) : Bool × Mu :=
  if okR nr r = false then (false, μ) else (brB μ r.toNatClampNeg, m_up μ (272 + 3 * r.toNatClampNeg) 6 (bi b))
def f_cm (μ : Mu) : Bool := decide (0 < dnN μ) && decide (μ (5 + 4 * diN μ (dnN μ - 1)) 8 = -1)
def f_obst (μ : Mu) (i : Nat) (how d : Int32) : Int32 :=
  if ¬ μ (5 + 4 * i) 7 = -1 then 1 else if f_cm μ = true then 2 else if f_fails μ i = true then 3 else if f_isDue μ i d = false then 4
  else if f_held μ i d = true then 5 else if ¬ 2 ≤ μ (5 + 4 * i) 5 then 6 else if ¬ f_dueAction μ i d = how then 7 else 0
def keepD (μ : Mu) (n : Nat) (u : Int32) : Mu := if n < 60 then m_up (m_up μ 249 n u) 0 6 (nI n + 1) else μ
def F_dispose (μ : Mu) (u how d : Int32) : Int32 × Mu :=
  if okU u = false then (-1, μ) else if (¬ how = 0 ∧ ¬ how = 1) ∨ okD d = false then (-2, μ)
  else if ¬ f_obst μ u.toNatClampNeg how d = 0 then (-10 - f_obst μ u.toNatClampNeg how d, μ)
  else (1, keepD (m_up μ (5 + 4 * u.toNatClampNeg) 7 d) (dnN μ) u)
/-- three rows, a place each -/
abbrev put3 (a b c : Nat) (μ : Mu) (j : Nat) (u d x : Int32) : Mu := m_up (m_up (m_up μ a j u) b j d) c j x
/-- room is made for day d: the later ones go up a place -/
def ins (a b c : Nat) (d : Int32) : Nat → Mu → Mu × Nat
  | 0, μ => (μ, 0)
  | f + 1, μ => if μ b f ≤ d then (μ, f + 1) else ins a b c d f (put3 a b c μ (f + 1) (μ a f) (μ b f) (μ c f))
def insM (μ : Mu) (u d x : Int32) : Mu := m_up (put3 246 247 248 (ins 246 247 248 d (lnN μ) μ).1 (ins 246 247 248 d (lnN μ) μ).2 u d x) 245 3 (nI (lnN μ) + 1)
def dueM (μ : Mu) (on : Int32) : Nat → Mu
  | 0 => m_up μ 245 3 0
  | j + 1 => if f_isDue (dueM μ on j) j on = true then insM (dueM μ on j) (nI j) (f_dueDay (dueM μ on j) j on) (f_dueAction (dueM μ on j) j on) else dueM μ on j
theorem ins_le (a b c : Nat) (d : Int32) : ∀ (f : Nat) (μ : Mu), (ins a b c d f μ).2 ≤ f
  | 0, _ => Nat.le_refl _
  | f + 1, μ => by
    unfold ins
    split
    · exact Nat.le_refl _
    · exact Nat.le_succ_of_le (ins_le a b c d f _)
theorem put3_out {a b c j k : Nat} {μ : Mu} {u d x : Int32} (ha : k ≠ a) (hb : k ≠ b) (hc : k ≠ c) : put3 a b c μ j u d x k = μ k := by
  unfold put3
  rw [m_up_row hc, m_up_row hb, m_up_row ha]
theorem ins_out (a b c : Nat) (d : Int32) {k : Nat} (ha : k ≠ a) (hb : k ≠ b) (hc : k ≠ c) : ∀ (f : Nat) (μ : Mu), (ins a b c d f μ).1 k = μ k
  | 0, _ => rfl
  | f + 1, μ => by
    unfold ins
    split
    · rfl
    · rw [ins_out a b c d ha hb hc f, put3_out ha hb hc]
theorem insM_out {μ : Mu} {u d x : Int32} {k : Nat} (h : k < 245 ∨ 248 < k) : insM μ u d x k = μ k := by
  unfold insM
  rw [m_up_row (by omega), put3_out (by omega) (by omega) (by omega), ins_out _ _ _ _ (by omega) (by omega) (by omega)]
theorem insM_ln {μ : Mu} {u d x : Int32} : insM μ u d x 245 3 = nI (lnN μ) + 1 := m_up_self _ _ _ _
theorem dueM_out (μ : Mu) (on : Int32) {k : Nat} (h : k < 245 ∨ 248 < k) : ∀ j, dueM μ on j k = μ k
  | 0 => m_up_row (by omega)
  | j + 1 => by
    unfold dueM
    split
    · rw [insM_out h, dueM_out μ on h j]
    · exact dueM_out μ on h j
theorem dueM_ln (μ : Mu) (on : Int32) : ∀ j, j ≤ 60 → dueM μ on j 245 3 = nI (lnN (dueM μ on j)) ∧ lnN (dueM μ on j) ≤ j
  | 0, _ => by
    have e : dueM μ on 0 245 3 = 0 := m_up_self _ _ _ _
    refine ⟨?_, ?_⟩
    · rw [lnN, e]; decide
    · rw [lnN, e]; decide
  | j + 1, h => by
    obtain ⟨h1, h2⟩ := dueM_ln μ on j (by omega)
    unfold dueM
    split
    · have e : lnN (insM (dueM μ on j) (nI j) (f_dueDay (dueM μ on j) j on) (f_dueAction (dueM μ on j) j on)) = lnN (dueM μ on j) + 1 := by
        rw [lnN, insM_ln, nI_1, nI_clamp (by omega)]
      rw [e, insM_ln, nI_1]
      exact ⟨rfl, by omega⟩
    · exact ⟨h1, by omega⟩
/-- the class's cells but the list's stay: so does what is said of them -/
theorem CI.list {μ μ1 : Mu} {nr : Nat} (h : CI μ nr) (hk : ∀ k, (k < 245 ∨ 248 < k) → μ1 k = μ k) (hl : μ1 245 3 = nI (lnN μ1) ∧ lnN μ1 ≤ 60) : CI μ1 nr := by
  have hr : ∀ r, μ1 (272 + 3 * r) = μ (272 + 3 * r) := fun r => hk _ (by omega)
  have hu : ∀ i, i < 60 → μ1 (5 + 4 * i) = μ (5 + 4 * i) := fun i hi => hk _ (by omega)
  have hw : ∀ i, i < 60 → μ1 (5 + 4 * i + 2) = μ (5 + 4 * i + 2) := fun i hi => hk _ (by omega)
  refine ⟨⟨h.1.1, by rw [hk 0 (by omega)]; exact h.1.2⟩, fun r hr => by rw [hk 3 (by omega)]; exact h.2.1 r hr, fun i hi => by rw [hk 4 (by omega)]; exact h.2.2.1 i hi, fun r hr2 => ?_, fun i hi => ?_, ?_, hl, ?_⟩
  · simp only [ekN, ccN, brB, hr]
    exact h.2.2.2.1 r hr2
  · simp only [rnN, rwN, hu i hi, hw i hi]
    exact h.2.2.2.2.1 i hi
  · simp only [dnN, diN, hk 0 (by omega), hk 249 (by omega)]
    exact h.2.2.2.2.2.1
  · simp only [tlN, hk 1 (by omega)]
    exact h.2.2.2.2.2.2.2
theorem CI.due {μ : Mu} {nr : Nat} (h : CI μ nr) (on : Int32) {j : Nat} (hj : j ≤ 60) : CI (dueM μ on j) nr := h.list (fun k hk => dueM_out μ on hk j) ⟨(dueM_ln μ on j hj).1, by have := (dueM_ln μ on j hj).2; omega⟩
end
section
set_option maxHeartbeats 4000000 in
set_option maxRecDepth 100000 in
theorem c_C_findUnit (K : KTy) (i nr : Nat) (μ : Mu) (hN : 272 ≤ KN K) (hi : i < 60) (hI : CI μ nr) (hKN : KN K = 272 + 3 * nr) : CT K y_C_findUnit (k_C_findUnit :: GT) 0 [.ref 0, .int (nI i)] μ (fun v μ2 => v = some (.ref (5 + 4 * i)) ∧ μ2 = μ) := by
  refine CT.ref (cc := b_C_findUnit) (maxL := 2) (by decide) rfl rfl (Nat.le_of_ble_eq_true rfl) ?_
  intro G ad N hK X hret
  subst hK
  have hN : 272 ≤ N := hN
  have hKN : N = 272 + 3 * nr := hKN
  have hnr := hI.nr
  show AW G (rmD 0) 2 (0, 0, ad, N, fb) 0 [(0, .ref 0), (1, .int (nI i))] [] μ
  refine AW.iload_n X (pc := 0) 1 rfl rfl d_C_findUnit_0 ?_
  refine AW.if_lt X (pc := 1) 22 d_C_findUnit_1 (by decide) (fun c_1 => absurd c_1 (by rw [i_lt (nI_toInt (show i < 2 ^ 31 by omega)) (show (0 : Int32).toInt = 0 by decide)]; omega)) (fun c_1 => ?_)
  refine AW.iload_n X (pc := 4) 1 rfl rfl d_C_findUnit_4 ?_
  refine AW.aload_n X (pc := 5) 0 rfl rfl d_C_findUnit_5 ?_
  refine AW.get X (pc := 6) (k := 0) (ci := 4) (j := 3) (v := .ref 4) (by omega) rfl rfl in_C (by decide) wf_C_24 rfl rfl d_C_findUnit_6 ?_
  refine AW.alen X (pc := 9) (k := 4) (t := 3) (n := 60) (kd := 2) (v := 60) (by omega) rfl rfl (by decide) d_C_findUnit_9 ?_
  refine AW.icmp_ge X (pc := 10) 22 d_C_findUnit_10 (by decide) (fun c_10 => absurd c_10 (by rw [i_le (show (60 : Int32).toInt = 60 by decide) (nI_toInt (show i < 2 ^ 31 by omega))]; omega)) (fun c_10 => ?_)
  refine AW.aload_n X (pc := 13) 0 rfl rfl d_C_findUnit_13 ?_
  refine AW.get X (pc := 14) (k := 0) (ci := 4) (j := 3) (v := .ref 4) (by omega) rfl rfl in_C (by decide) wf_C_24 rfl rfl d_C_findUnit_14 ?_
  refine AW.iload_n X (pc := 17) 1 rfl rfl d_C_findUnit_17 ?_
  refine AW.aaldN X (pc := 18) (k := 4) (t := 3) (n := 60) (j := i) (v := .ref (5 + 4 * i)) (by omega) rfl rfl (by omega) (by decide) (by rw [hI.un hi]; exact m_rv_nI (by omega)) d_C_findUnit_18 ?_
  refine AW.goto X (pc := 19) 23 d_C_findUnit_19 (by decide) ?_
  exact hret 23 _ _ _ d_C_findUnit_23 (by first | exact Or.inl rfl | exact Or.inr ⟨_, rfl⟩) ⟨by first | rfl | simp [bi, c_1, c_10], rfl⟩
set_option maxHeartbeats 4000000 in
set_option maxRecDepth 100000 in
theorem c_C_findUnit_no (K : KTy) (u : Int32) (μ : Mu) (hN : 272 ≤ KN K) (hU : okU u = false) : CT K y_C_findUnit (k_C_findUnit :: GT) 0 [.ref 0, .int u] μ (fun v μ2 => v = some .null ∧ μ2 = μ) := by
  refine CT.ref (cc := b_C_findUnit) (maxL := 2) (by decide) rfl rfl (Nat.le_of_ble_eq_true rfl) ?_
  intro G ad N hK X hret
  subst hK
  have hN : 272 ≤ N := hN
  show AW G (rmD 0) 2 (0, 0, ad, N, fb) 0 [(0, .ref 0), (1, .int u)] [] μ
  refine AW.iload_n X (pc := 0) 1 rfl rfl d_C_findUnit_0 ?_
  refine AW.if_lt X (pc := 1) 22 d_C_findUnit_1 (by decide) (fun c_1 => ?_) (fun c_1 => ?_)
  · refine AW.aconst_null X (pc := 22) d_C_findUnit_22 ?_
    exact hret 23 _ _ _ d_C_findUnit_23 (Or.inl rfl) ⟨rfl, rfl⟩
  · refine AW.iload_n X (pc := 4) 1 rfl rfl d_C_findUnit_4 ?_
    refine AW.aload_n X (pc := 5) 0 rfl rfl d_C_findUnit_5 ?_
    refine AW.get X (pc := 6) (k := 0) (ci := 4) (j := 3) (v := .ref 4) (by omega) rfl rfl in_C (by decide) wf_C_24 rfl rfl d_C_findUnit_6 ?_
    refine AW.alen X (pc := 9) (k := 4) (t := 3) (n := 60) (kd := 2) (v := 60) (by omega) rfl rfl (by decide) d_C_findUnit_9 ?_
    refine AW.icmp_ge X (pc := 10) 22 d_C_findUnit_10 (by decide) (fun c_10 => ?_) (fun c_10 => ?_)
    · refine AW.aconst_null X (pc := 22) d_C_findUnit_22 ?_
      exact hret 23 _ _ _ d_C_findUnit_23 (Or.inl rfl) ⟨rfl, rfl⟩
    · exact absurd hU (by simp [okU, c_1, c_10])
set_option maxHeartbeats 4000000 in
set_option maxRecDepth 100000 in
theorem c_C_findRule (K : KTy) (r nr : Nat) (μ : Mu) (hN : 272 ≤ KN K) (hr : r < nr) (hI : CI μ nr) (hKN : KN K = 272 + 3 * nr) : CT K y_C_findRule (k_C_findRule :: GT) 0 [.ref 0, .int (nI r)] μ (fun v μ2 => v = some (.ref (272 + 3 * r)) ∧ μ2 = μ) := by
  refine CT.ref (cc := b_C_findRule) (maxL := 2) (by decide) rfl rfl (Nat.le_of_ble_eq_true rfl) ?_
  intro G ad N hK X hret
  subst hK
  have hN : 272 ≤ N := hN
  have hKN : N = 272 + 3 * nr := hKN
  have hnr := hI.nr
  show AW G (rmD 0) 2 (0, 0, ad, N, fb) 0 [(0, .ref 0), (1, .int (nI r))] [] μ
  refine AW.iload_n X (pc := 0) 1 rfl rfl d_C_findRule_0 ?_
  refine AW.if_lt X (pc := 1) 30 d_C_findRule_1 (by decide) (fun c_1 => absurd c_1 (by rw [i_lt (nI_toInt (show r < 2 ^ 31 by omega)) (show (0 : Int32).toInt = 0 by decide)]; omega)) (fun c_1 => ?_)
  refine AW.iload_n X (pc := 4) 1 rfl rfl d_C_findRule_4 ?_
  refine AW.aload_n X (pc := 5) 0 rfl rfl d_C_findRule_5 ?_
  refine AW.get X (pc := 6) (k := 0) (ci := 4) (j := 2) (v := .int (μ 0 2)) (by omega) rfl rfl in_C (by decide) wf_C_55 rfl rfl d_C_findRule_6 ?_
  refine AW.val (w := .int (nI nr)) (congrArg Value.int (hI.rc)) ?_
  refine AW.icmp_ge X (pc := 9) 30 d_C_findRule_9 (by decide) (fun c_9 => absurd c_9 (by rw [i_le (nI_toInt (show nr < 2 ^ 31 by omega)) (nI_toInt (show r < 2 ^ 31 by omega))]; omega)) (fun c_9 => ?_)
  refine AW.iload_n X (pc := 12) 1 rfl rfl d_C_findRule_12 ?_
  refine AW.aload_n X (pc := 13) 0 rfl rfl d_C_findRule_13 ?_
  refine AW.get X (pc := 14) (k := 0) (ci := 4) (j := 1) (v := .ref 3) (by omega) rfl rfl in_C (by decide) wf_C_18 rfl rfl d_C_findRule_14 ?_
  refine AW.alen X (pc := 17) (k := 3) (t := 2) (n := 20) (kd := 2) (v := 20) (by omega) rfl rfl (by decide) d_C_findRule_17 ?_
  refine AW.icmp_ge X (pc := 18) 30 d_C_findRule_18 (by decide) (fun c_18 => absurd c_18 (by rw [i_le (show (20 : Int32).toInt = 20 by decide) (nI_toInt (show r < 2 ^ 31 by omega))]; omega)) (fun c_18 => ?_)
  refine AW.aload_n X (pc := 21) 0 rfl rfl d_C_findRule_21 ?_
  refine AW.get X (pc := 22) (k := 0) (ci := 4) (j := 1) (v := .ref 3) (by omega) rfl rfl in_C (by decide) wf_C_18 rfl rfl d_C_findRule_22 ?_
  refine AW.iload_n X (pc := 25) 1 rfl rfl d_C_findRule_25 ?_
  refine AW.aaldN X (pc := 26) (k := 3) (t := 2) (n := 20) (j := r) (v := .ref (272 + 3 * r)) (by omega) rfl rfl (by omega) (by decide) (by rw [hI.ru hr]; exact m_rv_nI (by omega)) d_C_findRule_26 ?_
  refine AW.goto X (pc := 27) 31 d_C_findRule_27 (by decide) ?_
  exact hret 31 _ _ _ d_C_findRule_31 (by first | exact Or.inl rfl | exact Or.inr ⟨_, rfl⟩) ⟨by first | rfl | simp [bi, c_1, c_9, c_18], rfl⟩
set_option maxHeartbeats 4000000 in
set_option maxRecDepth 100000 in
theorem c_C_findRule_no (K : KTy) (nr : Nat) (u : Int32) (μ : Mu) (hN : 272 ≤ KN K) (hU : okR nr u = false) (hI : CI μ nr) (hKN : KN K = 272 + 3 * nr) : CT K y_C_findRule (k_C_findRule :: GT) 0 [.ref 0, .int u] μ (fun v μ2 => v = some .null ∧ μ2 = μ) := by
  refine CT.ref (cc := b_C_findRule) (maxL := 2) (by decide) rfl rfl (Nat.le_of_ble_eq_true rfl) ?_
  intro G ad N hK X hret
  subst hK
  have hN : 272 ≤ N := hN
  have hKN : N = 272 + 3 * nr := hKN
  have hnr := hI.nr
  show AW G (rmD 0) 2 (0, 0, ad, N, fb) 0 [(0, .ref 0), (1, .int u)] [] μ
  refine AW.iload_n X (pc := 0) 1 rfl rfl d_C_findRule_0 ?_
  refine AW.if_lt X (pc := 1) 30 d_C_findRule_1 (by decide) (fun c_1 => ?_) (fun c_1 => ?_)
  · refine AW.aconst_null X (pc := 30) d_C_findRule_30 ?_
    exact hret 31 _ _ _ d_C_findRule_31 (Or.inl rfl) ⟨rfl, rfl⟩
  · refine AW.iload_n X (pc := 4) 1 rfl rfl d_C_findRule_4 ?_
    refine AW.aload_n X (pc := 5) 0 rfl rfl d_C_findRule_5 ?_
    refine AW.get X (pc := 6) (k := 0) (ci := 4) (j := 2) (v := .int (μ 0 2)) (by omega) rfl rfl in_C (by decide) wf_C_55 rfl rfl d_C_findRule_6 ?_
    refine AW.val (w := .int (nI nr)) (congrArg Value.int (hI.rc)) ?_
    refine AW.icmp_ge X (pc := 9) 30 d_C_findRule_9 (by decide) (fun c_9 => ?_) (fun c_9 => ?_)
    · refine AW.aconst_null X (pc := 30) d_C_findRule_30 ?_
      exact hret 31 _ _ _ d_C_findRule_31 (Or.inl rfl) ⟨rfl, rfl⟩
    · exact absurd hU (by simp [okR, c_1, c_9])
set_option maxHeartbeats 4000000 in
set_option maxRecDepth 100000 in
theorem c_C_isDay (K : KTy) (d : Int32) (μ : Mu) (hN : 272 ≤ KN K)  : CT K y_C_isDay (k_C_isDay :: GT) 0 [.int d] μ (fun v μ2 => v = some (.int (bi (okD d))) ∧ μ2 = μ) := by
  refine CT.bool (cc := b_C_isDay) (maxL := 1) (by decide) rfl rfl (Nat.le_of_ble_eq_true rfl) ?_
  intro G ad N hK X hret
  subst hK
  have hN : 272 ≤ N := hN
  show AW G (rmD 0) 1 (0, 0, ad, N, fb) 0 [(0, .int d)] [] μ
  refine AW.iload_n X (pc := 0) 0 rfl rfl d_C_isDay_0 ?_
  refine AW.if_lt X (pc := 1) 14 d_C_isDay_1 (by decide) (fun c_1 => ?_) (fun c_1 => ?_)
  · refine AW.iconst X (pc := 14) (v := 0) (by decide) d_C_isDay_14 ?_
    exact hret 15 _ _ _ d_C_isDay_15 (by first | rfl | exact bi_nar _) ⟨by first | rfl | simp [bi, okD, c_1], rfl⟩
  · refine AW.iload_n X (pc := 4) 0 rfl rfl d_C_isDay_4 ?_
    refine AW.ldc X (pc := 5) (v := 1000000) (by decide +kernel) d_C_isDay_5 ?_
    refine AW.icmp_gt X (pc := 7) 14 d_C_isDay_7 (by decide) (fun c_7 => ?_) (fun c_7 => ?_)
    · refine AW.iconst X (pc := 14) (v := 0) (by decide) d_C_isDay_14 ?_
      exact hret 15 _ _ _ d_C_isDay_15 (by first | rfl | exact bi_nar _) ⟨by first | rfl | simp [bi, okD, c_1, c_7], rfl⟩
    · refine AW.iconst X (pc := 10) (v := 1) (by decide) d_C_isDay_10 ?_
      refine AW.goto X (pc := 11) 15 d_C_isDay_11 (by decide) ?_
      exact hret 15 _ _ _ d_C_isDay_15 (by first | rfl | exact bi_nar _) ⟨by first | rfl | simp [bi, okD, c_1, c_7], rfl⟩
set_option maxHeartbeats 4000000 in
set_option maxRecDepth 100000 in
theorem c_C_event (K : KTy) (nr : Nat) (u k d : Int32) (μ : Mu) (hN : 272 ≤ KN K) (hI : CI μ nr) (hKN : KN K = 272 + 3 * nr) : CT K y_C_event (k_C_event :: GT) 2 [.ref 0, .int u, .int k, .int d] μ (fun v μ2 => v = some (.int (F_event μ u k d).1) ∧ μ2 = (F_event μ u k d).2) := by
  refine CT.int (cc := b_C_event) (maxL := 5) (by decide) rfl rfl (Nat.le_of_ble_eq_true rfl) ?_
  intro G ad N hK X hret
  subst hK
  have hN : 272 ≤ N := hN
  have hKN : N = 272 + 3 * nr := hKN
  have hnr := hI.nr
  show AW G (rmD 2) 5 (0, 0, ad, N, fb) 0 [(0, .ref 0), (1, .int u), (2, .int k), (3, .int d)] [] μ
  cases hU : okU u with
  | false =>
    refine AW.aload_n X (pc := 0) 0 rfl rfl d_C_event_0 ?_
    refine AW.iload_n X (pc := 1) 1 rfl rfl d_C_event_1 ?_
    refine AW.callV X (pc := 2) (b := 0) (ci := 4) (nA := 1) [.int u] [] (c_C_findUnit_no (kOf G ad N) u μ hN hU) (gv_V wm_C_93 wi_C_findUnit wl_C_findUnit wn_C kw_C_findUnit) rfl (by decide +kernel) rfl (by omega) rfl rfl ⟨Nat.le_of_ble_eq_true rfl, Nat.le_of_ble_eq_true rfl⟩ ⟨Nat.zero_le _, Nat.zero_le _⟩ (Nat.le_of_ble_eq_true rfl) d_C_event_2 rfl (fun v μ2 hq => ?_)
    obtain ⟨rfl, hm⟩ := hq
    rw [hm]
    clear hm
    show AW G (rmD 2) 5 (0, 0, ad, N, fb) 5 [(0, .ref 0), (1, .int u), (2, .int k), (3, .int d)] [.null] μ
    refine AW.astoreN X (pc := 5) (lv2 := [(4, .null), (0, .ref 0), (1, .int u), (2, .int k), (3, .int d)]) d_C_event_5 (by decide) rfl ?_
    refine AW.aloadN X (pc := 7) 0 rfl d_C_event_7 ?_
    refine AW.ifnonnullN X (pc := 9) d_C_event_9 ?_
    refine AW.iconst X (pc := 12) (v := -1) (by decide) d_C_event_12 ?_
    exact hret 13 _ _ _ d_C_event_13 (by rw [show F_event μ u k d = (-1, μ) by simp [F_event, hU]]; exact ⟨rfl, rfl⟩)
  | true =>
    obtain ⟨i, hi, rfl⟩ := okU_of hU
    have hci : (nI i).toNatClampNeg = i := nI_clamp (by omega)
    show AW G (rmD 2) 5 (0, 0, ad, N, fb) 0 [(0, .ref 0), (1, .int (nI i)), (2, .int k), (3, .int d)] [] μ
    refine AW.aload_n X (pc := 0) 0 rfl rfl d_C_event_0 ?_
    refine AW.iload_n X (pc := 1) 1 rfl rfl d_C_event_1 ?_
    refine AW.callV X (pc := 2) (b := 0) (ci := 4) (nA := 1) [.int (nI i)] [] (c_C_findUnit (kOf G ad N) i nr μ hN hi hI hKN) (gv_V wm_C_93 wi_C_findUnit wl_C_findUnit wn_C kw_C_findUnit) rfl (by decide +kernel) rfl (by omega) rfl rfl ⟨Nat.le_of_ble_eq_true rfl, Nat.le_of_ble_eq_true rfl⟩ ⟨Nat.zero_le _, Nat.zero_le _⟩ (Nat.le_of_ble_eq_true rfl) d_C_event_2 rfl (fun v μ2 hq => ?_)
    obtain ⟨rfl, hm⟩ := hq
    rw [hm]
    clear hm
    show AW G (rmD 2) 5 (0, 0, ad, N, fb) 5 [(0, .ref 0), (1, .int (nI i)), (2, .int k), (3, .int d)] [.ref (5 + 4 * i)] μ
    refine AW.astore X (pc := 5) (lv2 := [(4, .ref (5 + 4 * i)), (0, .ref 0), (1, .int (nI i)), (2, .int k), (3, .int d)]) d_C_event_5 (by decide) rfl ?_
    refine AW.aload X (pc := 7) 0 rfl d_C_event_7 ?_
    refine AW.ifnonnull X (pc := 9) 14 d_C_event_9 (by decide) ?_
    refine AW.iload_n X (pc := 14) 3 rfl rfl d_C_event_14 ?_
    refine AW.if_lt X (pc := 15) 30 d_C_event_15 (by decide) (fun c_15 => ?_) (fun c_15 => ?_)
    · refine AW.bipush X (pc := 30) (v := -2) (by decide) d_C_event_30 ?_
      exact hret 32 _ _ _ d_C_event_32 (by rw [show F_event μ (nI i) k d = (-2, μ) by simp [F_event, hU, hci, c_15]]; exact ⟨rfl, rfl⟩)
    · refine AW.iload_n X (pc := 18) 3 rfl rfl d_C_event_18 ?_
      refine AW.iconst X (pc := 19) (v := 4) (by decide) d_C_event_19 ?_
      refine AW.icmp_ge X (pc := 20) 30 d_C_event_20 (by decide) (fun c_20 => ?_) (fun c_20 => ?_)
      · refine AW.bipush X (pc := 30) (v := -2) (by decide) d_C_event_30 ?_
        exact hret 32 _ _ _ d_C_event_32 (by rw [show F_event μ (nI i) k d = (-2, μ) by simp [F_event, hU, hci, c_15, c_20]]; exact ⟨rfl, rfl⟩)
      · obtain ⟨q, hq, rfl⟩ := ofIx (n := 4) (M := 4) (by decide) (by decide) c_15 c_20
        have hcq : (nI q).toNatClampNeg = q := nI_clamp (by omega)
        refine AW.iload_n X (pc := 23) 4 rfl rfl d_C_event_23 ?_
        refine AW.callS X (pc := 24) (nA := 1) [.int d] [] (c_C_isDay (kOf G ad N) d μ hN) (gv_S wm_C_75 ws_C_isDay wn_C kw_C_isDay) rfl (by decide +kernel) rfl ⟨Nat.le_of_ble_eq_true rfl, Nat.le_of_ble_eq_true rfl⟩ ⟨Nat.zero_le _, Nat.zero_le _⟩ (Nat.le_of_ble_eq_true rfl) d_C_event_24 rfl (fun v μ2 hq => ?_)
        obtain ⟨rfl, hm⟩ := hq
        rw [hm]
        clear hm
        show AW G (rmD 2) 5 (0, 0, ad, N, fb) 27 [(4, .ref (5 + 4 * i)), (0, .ref 0), (1, .int (nI i)), (2, .int (nI q)), (3, .int d)] [.int (bi (okD d))] μ
        refine AW.if_ne X (pc := 27) 33 d_C_event_27 (by decide) (fun c_27 => ?_) (fun c_27 => ?_)
        · have c_27 := bi_ne.mp c_27
          refine AW.aload X (pc := 33) 0 rfl d_C_event_33 ?_
          refine AW.callV X (pc := 35) (b := 5 + 4 * i) (ci := 3) (nA := 0) [] [] (c_U_isDisposed (kOf G ad N) i μ hN hi) (gv_V wm_C_97 wi_U_isDisposed wl_U_isDisposed wn_U kw_U_isDisposed) rfl (by decide +kernel) rfl (by omega) (sh_u hi) rfl ⟨Nat.le_of_ble_eq_true rfl, Nat.le_of_ble_eq_true rfl⟩ ⟨Nat.zero_le _, Nat.zero_le _⟩ (Nat.le_of_ble_eq_true rfl) d_C_event_35 rfl (fun v μ2 hq => ?_)
          obtain ⟨rfl, hm⟩ := hq
          rw [hm]
          clear hm
          show AW G (rmD 2) 5 (0, 0, ad, N, fb) 38 [(4, .ref (5 + 4 * i)), (0, .ref 0), (1, .int (nI i)), (2, .int (nI q)), (3, .int d)] [.int (bi (decide (¬ μ (5 + 4 * i) 7 = -1)))] μ
          refine AW.if_eq X (pc := 38) 44 d_C_event_38 (by decide) (fun c_38 => ?_) (fun c_38 => ?_)
          · have c_38 := Decidable.not_not.mp (of_decide_eq_false (bi_eq.mp c_38))
            refine AW.aload X (pc := 44) 0 rfl d_C_event_44 ?_
            refine AW.iload_n X (pc := 46) 3 rfl rfl d_C_event_46 ?_
            refine AW.iload_n X (pc := 47) 4 rfl rfl d_C_event_47 ?_
            refine AW.callV X (pc := 48) (b := 5 + 4 * i) (ci := 3) (nA := 2) [.int (nI q), .int d] [] (c_U_setEvent (kOf G ad N) i q d μ hN hi hq) (gv_V wm_C_100 wi_U_setEvent wl_U_setEvent wn_U kw_U_setEvent) rfl (by decide +kernel) rfl (by omega) (sh_u hi) rfl ⟨Nat.le_of_ble_eq_true rfl, Nat.le_of_ble_eq_true rfl⟩ ⟨Nat.zero_le _, Nat.zero_le _⟩ (Nat.le_of_ble_eq_true rfl) d_C_event_48 rfl (fun v μ2 hq => ?_)
            obtain ⟨rfl, hm⟩ := hq
            rw [hm]
            clear hm
            show AW G (rmD 2) 5 (0, 0, ad, N, fb) 51 [(4, .ref (5 + 4 * i)), (0, .ref 0), (1, .int (nI i)), (2, .int (nI q)), (3, .int d)] [] (m_up (m_up μ (5 + 4 * i + 1) q d) (5 + 4 * i) 5 0)
            refine AW.iconst X (pc := 51) (v := 1) (by decide) d_C_event_51 ?_
            exact hret 52 _ _ _ d_C_event_52 (by rw [show F_event μ (nI i) (nI q) d = (1, (m_up (m_up μ (5 + 4 * i + 1) q d) (5 + 4 * i) 5 0)) by simp [F_event, hU, hci, c_15, c_20, hcq, c_27, c_38]]; exact ⟨rfl, rfl⟩)
          · have c_38 := of_decide_eq_true (bi_ne.mp c_38)
            refine AW.bipush X (pc := 41) (v := -3) (by decide) d_C_event_41 ?_
            exact hret 43 _ _ _ d_C_event_43 (by rw [show F_event μ (nI i) (nI q) d = (-3, μ) by simp [F_event, hU, hci, c_15, c_20, hcq, c_27, c_38]]; exact ⟨rfl, rfl⟩)
        · have c_27 := bi_eq.mp c_27
          refine AW.bipush X (pc := 30) (v := -2) (by decide) d_C_event_30 ?_
          exact hret 32 _ _ _ d_C_event_32 (by rw [show F_event μ (nI i) (nI q) d = (-2, μ) by simp [F_event, hU, hci, c_15, c_20, hcq, c_27]]; exact ⟨rfl, rfl⟩)
set_option maxHeartbeats 4000000 in
set_option maxRecDepth 100000 in
theorem c_C_hold (K : KTy) (nr : Nat) (u k d : Int32) (μ : Mu) (hN : 272 ≤ KN K) (hI : CI μ nr) (hKN : KN K = 272 + 3 * nr) : CT K y_C_hold (k_C_hold :: GT) 2 [.ref 0, .int u, .int k, .int d] μ (fun v μ2 => v = some (.int (F_hold μ u k d).1) ∧ μ2 = (F_hold μ u k d).2) := by
  refine CT.int (cc := b_C_hold) (maxL := 5) (by decide) rfl rfl (Nat.le_of_ble_eq_true rfl) ?_
  intro G ad N hK X hret
  subst hK
  have hN : 272 ≤ N := hN
  have hKN : N = 272 + 3 * nr := hKN
  have hnr := hI.nr
  show AW G (rmD 2) 5 (0, 0, ad, N, fb) 0 [(0, .ref 0), (1, .int u), (2, .int k), (3, .int d)] [] μ
  cases hU : okU u with
  | false =>
    refine AW.aload_n X (pc := 0) 0 rfl rfl d_C_hold_0 ?_
    refine AW.iload_n X (pc := 1) 1 rfl rfl d_C_hold_1 ?_
    refine AW.callV X (pc := 2) (b := 0) (ci := 4) (nA := 1) [.int u] [] (c_C_findUnit_no (kOf G ad N) u μ hN hU) (gv_V wm_C_93 wi_C_findUnit wl_C_findUnit wn_C kw_C_findUnit) rfl (by decide +kernel) rfl (by omega) rfl rfl ⟨Nat.le_of_ble_eq_true rfl, Nat.le_of_ble_eq_true rfl⟩ ⟨Nat.zero_le _, Nat.zero_le _⟩ (Nat.le_of_ble_eq_true rfl) d_C_hold_2 rfl (fun v μ2 hq => ?_)
    obtain ⟨rfl, hm⟩ := hq
    rw [hm]
    clear hm
    show AW G (rmD 2) 5 (0, 0, ad, N, fb) 5 [(0, .ref 0), (1, .int u), (2, .int k), (3, .int d)] [.null] μ
    refine AW.astoreN X (pc := 5) (lv2 := [(4, .null), (0, .ref 0), (1, .int u), (2, .int k), (3, .int d)]) d_C_hold_5 (by decide) rfl ?_
    refine AW.aloadN X (pc := 7) 0 rfl d_C_hold_7 ?_
    refine AW.ifnonnullN X (pc := 9) d_C_hold_9 ?_
    refine AW.iconst X (pc := 12) (v := -1) (by decide) d_C_hold_12 ?_
    exact hret 13 _ _ _ d_C_hold_13 (by rw [show F_hold μ u k d = (-1, μ) by simp [F_hold, hU]]; exact ⟨rfl, rfl⟩)
  | true =>
    obtain ⟨i, hi, rfl⟩ := okU_of hU
    have hci : (nI i).toNatClampNeg = i := nI_clamp (by omega)
    show AW G (rmD 2) 5 (0, 0, ad, N, fb) 0 [(0, .ref 0), (1, .int (nI i)), (2, .int k), (3, .int d)] [] μ
    refine AW.aload_n X (pc := 0) 0 rfl rfl d_C_hold_0 ?_
    refine AW.iload_n X (pc := 1) 1 rfl rfl d_C_hold_1 ?_
    refine AW.callV X (pc := 2) (b := 0) (ci := 4) (nA := 1) [.int (nI i)] [] (c_C_findUnit (kOf G ad N) i nr μ hN hi hI hKN) (gv_V wm_C_93 wi_C_findUnit wl_C_findUnit wn_C kw_C_findUnit) rfl (by decide +kernel) rfl (by omega) rfl rfl ⟨Nat.le_of_ble_eq_true rfl, Nat.le_of_ble_eq_true rfl⟩ ⟨Nat.zero_le _, Nat.zero_le _⟩ (Nat.le_of_ble_eq_true rfl) d_C_hold_2 rfl (fun v μ2 hq => ?_)
    obtain ⟨rfl, hm⟩ := hq
    rw [hm]
    clear hm
    show AW G (rmD 2) 5 (0, 0, ad, N, fb) 5 [(0, .ref 0), (1, .int (nI i)), (2, .int k), (3, .int d)] [.ref (5 + 4 * i)] μ
    refine AW.astore X (pc := 5) (lv2 := [(4, .ref (5 + 4 * i)), (0, .ref 0), (1, .int (nI i)), (2, .int k), (3, .int d)]) d_C_hold_5 (by decide) rfl ?_
    refine AW.aload X (pc := 7) 0 rfl d_C_hold_7 ?_
    refine AW.ifnonnull X (pc := 9) 14 d_C_hold_9 (by decide) ?_
    refine AW.iload_n X (pc := 14) 3 rfl rfl d_C_hold_14 ?_
    refine AW.if_lt X (pc := 15) 35 d_C_hold_15 (by decide) (fun c_15 => ?_) (fun c_15 => ?_)
    · refine AW.bipush X (pc := 35) (v := -2) (by decide) d_C_hold_35 ?_
      exact hret 37 _ _ _ d_C_hold_37 (by rw [show F_hold μ (nI i) k d = (-2, μ) by simp [F_hold, hU, hci, c_15]]; exact ⟨rfl, rfl⟩)
    · refine AW.iload_n X (pc := 18) 3 rfl rfl d_C_hold_18 ?_
      refine AW.iconst X (pc := 19) (v := 4) (by decide) d_C_hold_19 ?_
      refine AW.icmp_ge X (pc := 20) 35 d_C_hold_20 (by decide) (fun c_20 => ?_) (fun c_20 => ?_)
      · refine AW.bipush X (pc := 35) (v := -2) (by decide) d_C_hold_35 ?_
        exact hret 37 _ _ _ d_C_hold_37 (by rw [show F_hold μ (nI i) k d = (-2, μ) by simp [F_hold, hU, hci, c_15, c_20]]; exact ⟨rfl, rfl⟩)
      · obtain ⟨q, hq, rfl⟩ := ofIx (n := 4) (M := 4) (by decide) (by decide) c_15 c_20
        have hcq : (nI q).toNatClampNeg = q := nI_clamp (by omega)
        refine AW.iload_n X (pc := 23) 4 rfl rfl d_C_hold_23 ?_
        refine AW.iconst X (pc := 24) (v := -1) (by decide) d_C_hold_24 ?_
        refine AW.icmp_eq X (pc := 25) 38 d_C_hold_25 (by decide) (fun c_25 => ?_) (fun c_25 => ?_)
        · refine AW.aload X (pc := 38) 0 rfl d_C_hold_38 ?_
          refine AW.iload_n X (pc := 40) 3 rfl rfl d_C_hold_40 ?_
          refine AW.iload_n X (pc := 41) 4 rfl rfl d_C_hold_41 ?_
          refine AW.callV X (pc := 42) (b := 5 + 4 * i) (ci := 3) (nA := 2) [.int (nI q), .int d] [] (c_U_setHold (kOf G ad N) i q d μ hN hi hq) (gv_V wm_C_113 wi_U_setHold wl_U_setHold wn_U kw_U_setHold) rfl (by decide +kernel) rfl (by omega) (sh_u hi) rfl ⟨Nat.le_of_ble_eq_true rfl, Nat.le_of_ble_eq_true rfl⟩ ⟨Nat.zero_le _, Nat.zero_le _⟩ (Nat.le_of_ble_eq_true rfl) d_C_hold_42 rfl (fun v μ2 hq => ?_)
          obtain ⟨rfl, hm⟩ := hq
          rw [hm]
          clear hm
          show AW G (rmD 2) 5 (0, 0, ad, N, fb) 45 [(4, .ref (5 + 4 * i)), (0, .ref 0), (1, .int (nI i)), (2, .int (nI q)), (3, .int d)] [] (m_up (m_up μ (5 + 4 * i + 3) q d) (5 + 4 * i) 5 0)
          refine AW.iconst X (pc := 45) (v := 1) (by decide) d_C_hold_45 ?_
          exact hret 46 _ _ _ d_C_hold_46 (by rw [show F_hold μ (nI i) (nI q) d = (1, (m_up (m_up μ (5 + 4 * i + 3) q d) (5 + 4 * i) 5 0)) by simp [F_hold, hU, hci, c_15, c_20, hcq, c_25]]; exact ⟨rfl, rfl⟩)
        · refine AW.iload_n X (pc := 28) 4 rfl rfl d_C_hold_28 ?_
          refine AW.callS X (pc := 29) (nA := 1) [.int d] [] (c_C_isDay (kOf G ad N) d μ hN) (gv_S wm_C_75 ws_C_isDay wn_C kw_C_isDay) rfl (by decide +kernel) rfl ⟨Nat.le_of_ble_eq_true rfl, Nat.le_of_ble_eq_true rfl⟩ ⟨Nat.zero_le _, Nat.zero_le _⟩ (Nat.le_of_ble_eq_true rfl) d_C_hold_29 rfl (fun v μ2 hq => ?_)
          obtain ⟨rfl, hm⟩ := hq
          rw [hm]
          clear hm
          show AW G (rmD 2) 5 (0, 0, ad, N, fb) 32 [(4, .ref (5 + 4 * i)), (0, .ref 0), (1, .int (nI i)), (2, .int (nI q)), (3, .int d)] [.int (bi (okD d))] μ
          refine AW.if_ne X (pc := 32) 38 d_C_hold_32 (by decide) (fun c_32 => ?_) (fun c_32 => ?_)
          · have c_32 := bi_ne.mp c_32
            refine AW.aload X (pc := 38) 0 rfl d_C_hold_38 ?_
            refine AW.iload_n X (pc := 40) 3 rfl rfl d_C_hold_40 ?_
            refine AW.iload_n X (pc := 41) 4 rfl rfl d_C_hold_41 ?_
            refine AW.callV X (pc := 42) (b := 5 + 4 * i) (ci := 3) (nA := 2) [.int (nI q), .int d] [] (c_U_setHold (kOf G ad N) i q d μ hN hi hq) (gv_V wm_C_113 wi_U_setHold wl_U_setHold wn_U kw_U_setHold) rfl (by decide +kernel) rfl (by omega) (sh_u hi) rfl ⟨Nat.le_of_ble_eq_true rfl, Nat.le_of_ble_eq_true rfl⟩ ⟨Nat.zero_le _, Nat.zero_le _⟩ (Nat.le_of_ble_eq_true rfl) d_C_hold_42 rfl (fun v μ2 hq => ?_)
            obtain ⟨rfl, hm⟩ := hq
            rw [hm]
            clear hm
            show AW G (rmD 2) 5 (0, 0, ad, N, fb) 45 [(4, .ref (5 + 4 * i)), (0, .ref 0), (1, .int (nI i)), (2, .int (nI q)), (3, .int d)] [] (m_up (m_up μ (5 + 4 * i + 3) q d) (5 + 4 * i) 5 0)
            refine AW.iconst X (pc := 45) (v := 1) (by decide) d_C_hold_45 ?_
            exact hret 46 _ _ _ d_C_hold_46 (by rw [show F_hold μ (nI i) (nI q) d = (1, (m_up (m_up μ (5 + 4 * i + 3) q d) (5 + 4 * i) 5 0)) by simp [F_hold, hU, hci, c_15, c_20, hcq, c_25, c_32]]; exact ⟨rfl, rfl⟩)
          · have c_32 := bi_eq.mp c_32
            refine AW.bipush X (pc := 35) (v := -2) (by decide) d_C_hold_35 ?_
            exact hret 37 _ _ _ d_C_hold_37 (by rw [show F_hold μ (nI i) (nI q) d = (-2, μ) by simp [F_hold, hU, hci, c_15, c_20, hcq, c_25, c_32]]; exact ⟨rfl, rfl⟩)
set_option maxHeartbeats 4000000 in
set_option maxRecDepth 100000 in
theorem c_C_except (K : KTy) (nr : Nat) (u d : Int32) (μ : Mu) (hN : 272 ≤ KN K) (hI : CI μ nr) (hKN : KN K = 272 + 3 * nr) : CT K y_C_except (k_C_except :: GT) 2 [.ref 0, .int u, .int d] μ (fun v μ2 => v = some (.int (F_except μ u d).1) ∧ μ2 = (F_except μ u d).2) := by
  refine CT.int (cc := b_C_except) (maxL := 4) (by decide) rfl rfl (Nat.le_of_ble_eq_true rfl) ?_
  intro G ad N hK X hret
  subst hK
  have hN : 272 ≤ N := hN
  have hKN : N = 272 + 3 * nr := hKN
  have hnr := hI.nr
  show AW G (rmD 2) 4 (0, 0, ad, N, fb) 0 [(0, .ref 0), (1, .int u), (2, .int d)] [] μ
  cases hU : okU u with
  | false =>
    refine AW.aload_n X (pc := 0) 0 rfl rfl d_C_except_0 ?_
    refine AW.iload_n X (pc := 1) 1 rfl rfl d_C_except_1 ?_
    refine AW.callV X (pc := 2) (b := 0) (ci := 4) (nA := 1) [.int u] [] (c_C_findUnit_no (kOf G ad N) u μ hN hU) (gv_V wm_C_93 wi_C_findUnit wl_C_findUnit wn_C kw_C_findUnit) rfl (by decide +kernel) rfl (by omega) rfl rfl ⟨Nat.le_of_ble_eq_true rfl, Nat.le_of_ble_eq_true rfl⟩ ⟨Nat.zero_le _, Nat.zero_le _⟩ (Nat.le_of_ble_eq_true rfl) d_C_except_2 rfl (fun v μ2 hq => ?_)
    obtain ⟨rfl, hm⟩ := hq
    rw [hm]
    clear hm
    show AW G (rmD 2) 4 (0, 0, ad, N, fb) 5 [(0, .ref 0), (1, .int u), (2, .int d)] [.null] μ
    refine AW.astore_nN X (pc := 5) (lv2 := [(3, .null), (0, .ref 0), (1, .int u), (2, .int d)]) rfl d_C_except_5 (by decide) rfl ?_
    refine AW.aload_nN X (pc := 6) 0 rfl rfl d_C_except_6 ?_
    refine AW.ifnonnullN X (pc := 7) d_C_except_7 ?_
    refine AW.iconst X (pc := 10) (v := -1) (by decide) d_C_except_10 ?_
    exact hret 11 _ _ _ d_C_except_11 (by rw [show F_except μ u d = (-1, μ) by first | (simp [F_except, hU]; done) | simp +contextual [F_except, hU]]; exact ⟨rfl, rfl⟩)
  | true =>
    obtain ⟨i, hi, rfl⟩ := okU_of hU
    have hci : (nI i).toNatClampNeg = i := nI_clamp (by omega)
    show AW G (rmD 2) 4 (0, 0, ad, N, fb) 0 [(0, .ref 0), (1, .int (nI i)), (2, .int d)] [] μ
    refine AW.aload_n X (pc := 0) 0 rfl rfl d_C_except_0 ?_
    refine AW.iload_n X (pc := 1) 1 rfl rfl d_C_except_1 ?_
    refine AW.callV X (pc := 2) (b := 0) (ci := 4) (nA := 1) [.int (nI i)] [] (c_C_findUnit (kOf G ad N) i nr μ hN hi hI hKN) (gv_V wm_C_93 wi_C_findUnit wl_C_findUnit wn_C kw_C_findUnit) rfl (by decide +kernel) rfl (by omega) rfl rfl ⟨Nat.le_of_ble_eq_true rfl, Nat.le_of_ble_eq_true rfl⟩ ⟨Nat.zero_le _, Nat.zero_le _⟩ (Nat.le_of_ble_eq_true rfl) d_C_except_2 rfl (fun v μ2 hq => ?_)
    obtain ⟨rfl, hm⟩ := hq
    rw [hm]
    clear hm
    show AW G (rmD 2) 4 (0, 0, ad, N, fb) 5 [(0, .ref 0), (1, .int (nI i)), (2, .int d)] [.ref (5 + 4 * i)] μ
    refine AW.astore_n X (pc := 5) (lv2 := [(3, .ref (5 + 4 * i)), (0, .ref 0), (1, .int (nI i)), (2, .int d)]) rfl d_C_except_5 (by decide) rfl ?_
    refine AW.aload_n X (pc := 6) 0 rfl rfl d_C_except_6 ?_
    refine AW.ifnonnull X (pc := 7) 12 d_C_except_7 (by decide) ?_
    refine AW.iload_n X (pc := 12) 3 rfl rfl d_C_except_12 ?_
    refine AW.callS X (pc := 13) (nA := 1) [.int d] [] (c_C_isDay (kOf G ad N) d μ hN) (gv_S wm_C_75 ws_C_isDay wn_C kw_C_isDay) rfl (by decide +kernel) rfl ⟨Nat.le_of_ble_eq_true rfl, Nat.le_of_ble_eq_true rfl⟩ ⟨Nat.zero_le _, Nat.zero_le _⟩ (Nat.le_of_ble_eq_true rfl) d_C_except_13 rfl (fun v μ2 hq => ?_)
    obtain ⟨rfl, hm⟩ := hq
    rw [hm]
    clear hm
    show AW G (rmD 2) 4 (0, 0, ad, N, fb) 16 [(3, .ref (5 + 4 * i)), (0, .ref 0), (1, .int (nI i)), (2, .int d)] [.int (bi (okD d))] μ
    refine AW.if_ne X (pc := 16) 22 d_C_except_16 (by decide) (fun c_16 => ?_) (fun c_16 => ?_)
    · have c_16 := bi_ne.mp c_16
      refine AW.aload_n X (pc := 22) 0 rfl rfl d_C_except_22 ?_
      refine AW.iload_n X (pc := 23) 3 rfl rfl d_C_except_23 ?_
      refine AW.callV X (pc := 24) (b := 5 + 4 * i) (ci := 3) (nA := 1) [.int d] [] (c_U_setException (kOf G ad N) i d μ hN hi) (gv_V wm_C_116 wi_U_setException wl_U_setException wn_U kw_U_setException) rfl (by decide +kernel) rfl (by omega) (sh_u hi) rfl ⟨Nat.le_of_ble_eq_true rfl, Nat.le_of_ble_eq_true rfl⟩ ⟨Nat.zero_le _, Nat.zero_le _⟩ (Nat.le_of_ble_eq_true rfl) d_C_except_24 rfl (fun v μ2 hq => ?_)
      obtain ⟨rfl, hm⟩ := hq
      rw [hm]
      clear hm
      show AW G (rmD 2) 4 (0, 0, ad, N, fb) 27 [(3, .ref (5 + 4 * i)), (0, .ref 0), (1, .int (nI i)), (2, .int d)] [] (m_up (m_up μ (5 + 4 * i) 4 d) (5 + 4 * i) 5 0)
      refine AW.iconst X (pc := 27) (v := 1) (by decide) d_C_except_27 ?_
      exact hret 28 _ _ _ d_C_except_28 (by rw [show F_except μ (nI i) d = (1, (m_up (m_up μ (5 + 4 * i) 4 d) (5 + 4 * i) 5 0)) by first | (simp [F_except, hU, hci, c_16]; done) | simp +contextual [F_except, hU, hci, c_16]]; exact ⟨rfl, rfl⟩)
    · have c_16 := bi_eq.mp c_16
      refine AW.bipush X (pc := 19) (v := -2) (by decide) d_C_except_19 ?_
      exact hret 21 _ _ _ d_C_except_21 (by rw [show F_except μ (nI i) d = (-2, μ) by first | (simp [F_except, hU, hci, c_16]; done) | simp +contextual [F_except, hU, hci, c_16]]; exact ⟨rfl, rfl⟩)
set_option maxHeartbeats 4000000 in
set_option maxRecDepth 100000 in
theorem c_C_day (K : KTy) (nr : Nat) (u on : Int32) (μ : Mu) (hN : 272 ≤ KN K) (hI : CI μ nr) (hKN : KN K = 272 + 3 * nr) : CT K y_C_day (k_C_day :: GT) 4 [.ref 0, .int u, .int on] μ (fun v μ2 => v = some (.int (F_day μ u on)) ∧ μ2 = μ) := by
  refine CT.int (cc := b_C_day) (maxL := 4) (by decide) rfl rfl (Nat.le_of_ble_eq_true rfl) ?_
  intro G ad N hK X hret
  subst hK
  have hN : 272 ≤ N := hN
  have hKN : N = 272 + 3 * nr := hKN
  have hnr := hI.nr
  show AW G (rmD 4) 4 (0, 0, ad, N, fb) 0 [(0, .ref 0), (1, .int u), (2, .int on)] [] μ
  cases hU : okU u with
  | false =>
    refine AW.aload_n X (pc := 0) 0 rfl rfl d_C_day_0 ?_
    refine AW.iload_n X (pc := 1) 1 rfl rfl d_C_day_1 ?_
    refine AW.callV X (pc := 2) (b := 0) (ci := 4) (nA := 1) [.int u] [] (c_C_findUnit_no (kOf G ad N) u μ hN hU) (gv_V wm_C_93 wi_C_findUnit wl_C_findUnit wn_C kw_C_findUnit) rfl (by decide +kernel) rfl (by omega) rfl rfl ⟨Nat.le_of_ble_eq_true rfl, Nat.le_of_ble_eq_true rfl⟩ ⟨Nat.zero_le _, Nat.zero_le _⟩ (Nat.le_of_ble_eq_true rfl) d_C_day_2 rfl (fun v μ2 hq => ?_)
    obtain ⟨rfl, hm⟩ := hq
    rw [hm]
    clear hm
    show AW G (rmD 4) 4 (0, 0, ad, N, fb) 5 [(0, .ref 0), (1, .int u), (2, .int on)] [.null] μ
    refine AW.astore_nN X (pc := 5) (lv2 := [(3, .null), (0, .ref 0), (1, .int u), (2, .int on)]) rfl d_C_day_5 (by decide) rfl ?_
    refine AW.aload_nN X (pc := 6) 0 rfl rfl d_C_day_6 ?_
    refine AW.ifnullN X (pc := 7) 17 d_C_day_7 (by decide) ?_
    refine AW.bipush X (pc := 17) (v := -2) (by decide) d_C_day_17 ?_
    exact hret 19 _ _ _ d_C_day_19 ⟨by rw [show F_day μ u on = -2 by simp [F_day, hU]], rfl⟩
  | true =>
    obtain ⟨i, hi, rfl⟩ := okU_of hU
    have hci : (nI i).toNatClampNeg = i := nI_clamp (by omega)
    show AW G (rmD 4) 4 (0, 0, ad, N, fb) 0 [(0, .ref 0), (1, .int (nI i)), (2, .int on)] [] μ
    refine AW.aload_n X (pc := 0) 0 rfl rfl d_C_day_0 ?_
    refine AW.iload_n X (pc := 1) 1 rfl rfl d_C_day_1 ?_
    refine AW.callV X (pc := 2) (b := 0) (ci := 4) (nA := 1) [.int (nI i)] [] (c_C_findUnit (kOf G ad N) i nr μ hN hi hI hKN) (gv_V wm_C_93 wi_C_findUnit wl_C_findUnit wn_C kw_C_findUnit) rfl (by decide +kernel) rfl (by omega) rfl rfl ⟨Nat.le_of_ble_eq_true rfl, Nat.le_of_ble_eq_true rfl⟩ ⟨Nat.zero_le _, Nat.zero_le _⟩ (Nat.le_of_ble_eq_true rfl) d_C_day_2 rfl (fun v μ2 hq => ?_)
    obtain ⟨rfl, hm⟩ := hq
    rw [hm]
    clear hm
    show AW G (rmD 4) 4 (0, 0, ad, N, fb) 5 [(0, .ref 0), (1, .int (nI i)), (2, .int on)] [.ref (5 + 4 * i)] μ
    refine AW.astore_n X (pc := 5) (lv2 := [(3, .ref (5 + 4 * i)), (0, .ref 0), (1, .int (nI i)), (2, .int on)]) rfl d_C_day_5 (by decide) rfl ?_
    refine AW.aload_n X (pc := 6) 0 rfl rfl d_C_day_6 ?_
    refine AW.ifnull X (pc := 7) d_C_day_7 ?_
    refine AW.iload_n X (pc := 10) 3 rfl rfl d_C_day_10 ?_
    refine AW.callS X (pc := 11) (nA := 1) [.int on] [] (c_C_isDay (kOf G ad N) on μ hN) (gv_S wm_C_75 ws_C_isDay wn_C kw_C_isDay) rfl (by decide +kernel) rfl ⟨Nat.le_of_ble_eq_true rfl, Nat.le_of_ble_eq_true rfl⟩ ⟨Nat.zero_le _, Nat.zero_le _⟩ (Nat.le_of_ble_eq_true rfl) d_C_day_11 rfl (fun v μ2 hq => ?_)
    obtain ⟨rfl, hm⟩ := hq
    rw [hm]
    clear hm
    show AW G (rmD 4) 4 (0, 0, ad, N, fb) 14 [(3, .ref (5 + 4 * i)), (0, .ref 0), (1, .int (nI i)), (2, .int on)] [.int (bi (okD on))] μ
    refine AW.if_ne X (pc := 14) 20 d_C_day_14 (by decide) (fun c_14 => ?_) (fun c_14 => ?_)
    · have c_14 := bi_ne.mp c_14
      refine AW.aload_n X (pc := 20) 0 rfl rfl d_C_day_20 ?_
      refine AW.callV X (pc := 21) (b := 5 + 4 * i) (ci := 3) (nA := 0) [] [] (c_U_hasBrokenRule (kOf G ad N) i nr μ hN hi hI hKN) (gv_V wm_C_119 wi_U_hasBrokenRule wl_U_hasBrokenRule wn_U kw_U_hasBrokenRule) rfl (by decide +kernel) rfl (by omega) (sh_u hi) rfl ⟨Nat.le_of_ble_eq_true rfl, Nat.le_of_ble_eq_true rfl⟩ ⟨Nat.zero_le _, Nat.zero_le _⟩ (Nat.le_of_ble_eq_true rfl) d_C_day_21 rfl (fun v μ2 hq => ?_)
      obtain ⟨rfl, hm⟩ := hq
      rw [hm]
      clear hm
      show AW G (rmD 4) 4 (0, 0, ad, N, fb) 24 [(3, .ref (5 + 4 * i)), (0, .ref 0), (1, .int (nI i)), (2, .int on)] [.int (bi (f_fails μ i))] μ
      refine AW.if_eq X (pc := 24) 32 d_C_day_24 (by decide) (fun c_24 => ?_) (fun c_24 => ?_)
      · have c_24 := bi_eq.mp c_24
        refine AW.aload_n X (pc := 32) 0 rfl rfl d_C_day_32 ?_
        refine AW.iload_n X (pc := 33) 3 rfl rfl d_C_day_33 ?_
        refine AW.callV X (pc := 34) (b := 5 + 4 * i) (ci := 3) (nA := 1) [.int on] [] (c_U_dueDay (kOf G ad N) i nr on μ hN hi hI hKN) (gv_V wm_C_122 wi_U_dueDay wl_U_dueDay wn_U kw_U_dueDay) rfl (by decide +kernel) rfl (by omega) (sh_u hi) rfl ⟨Nat.le_of_ble_eq_true rfl, Nat.le_of_ble_eq_true rfl⟩ ⟨Nat.zero_le _, Nat.zero_le _⟩ (Nat.le_of_ble_eq_true rfl) d_C_day_34 rfl (fun v μ2 hq => ?_)
        obtain ⟨rfl, hm⟩ := hq
        rw [hm]
        clear hm
        show AW G (rmD 4) 4 (0, 0, ad, N, fb) 37 [(3, .ref (5 + 4 * i)), (0, .ref 0), (1, .int (nI i)), (2, .int on)] [.int (f_dueDay μ i on)] μ
        exact hret 37 _ _ _ d_C_day_37 ⟨by rw [show F_day μ (nI i) on = f_dueDay μ i on by simp [F_day, hU, hci, c_14, c_24]], rfl⟩
      · have c_24 := bi_ne.mp c_24
        refine AW.bipush X (pc := 27) (v := -3) (by decide) d_C_day_27 ?_
        refine AW.goto X (pc := 29) 37 d_C_day_29 (by decide) ?_
        exact hret 37 _ _ _ d_C_day_37 ⟨by rw [show F_day μ (nI i) on = -3 by simp [F_day, hU, hci, c_14, c_24]], rfl⟩
    · have c_14 := bi_eq.mp c_14
      refine AW.bipush X (pc := 17) (v := -2) (by decide) d_C_day_17 ?_
      exact hret 19 _ _ _ d_C_day_19 ⟨by rw [show F_day μ (nI i) on = -2 by simp [F_day, hU, hci, c_14]], rfl⟩
set_option maxHeartbeats 4000000 in
set_option maxRecDepth 100000 in
theorem c_C_approve (K : KTy) (nr : Nat) (u p : Int32) (μ : Mu) (hN : 272 ≤ KN K) (hI : CI μ nr) (hKN : KN K = 272 + 3 * nr) : CT K y_C_approve (k_C_approve :: GT) 1 [.ref 0, .int u, .int p] μ (fun v μ2 => v = some (.int (F_approve μ u p).1) ∧ μ2 = (F_approve μ u p).2) := by
  refine CT.int (cc := b_C_approve) (maxL := 4) (by decide) rfl rfl (Nat.le_of_ble_eq_true rfl) ?_
  intro G ad N hK X hret
  subst hK
  have hN : 272 ≤ N := hN
  have hKN : N = 272 + 3 * nr := hKN
  have hnr := hI.nr
  show AW G (rmD 1) 4 (0, 0, ad, N, fb) 0 [(0, .ref 0), (1, .int u), (2, .int p)] [] μ
  cases hU : okU u with
  | false =>
    refine AW.aload_n X (pc := 0) 0 rfl rfl d_C_approve_0 ?_
    refine AW.iload_n X (pc := 1) 1 rfl rfl d_C_approve_1 ?_
    refine AW.callV X (pc := 2) (b := 0) (ci := 4) (nA := 1) [.int u] [] (c_C_findUnit_no (kOf G ad N) u μ hN hU) (gv_V wm_C_93 wi_C_findUnit wl_C_findUnit wn_C kw_C_findUnit) rfl (by decide +kernel) rfl (by omega) rfl rfl ⟨Nat.le_of_ble_eq_true rfl, Nat.le_of_ble_eq_true rfl⟩ ⟨Nat.zero_le _, Nat.zero_le _⟩ (Nat.le_of_ble_eq_true rfl) d_C_approve_2 rfl (fun v μ2 hq => ?_)
    obtain ⟨rfl, hm⟩ := hq
    rw [hm]
    clear hm
    show AW G (rmD 1) 4 (0, 0, ad, N, fb) 5 [(0, .ref 0), (1, .int u), (2, .int p)] [.null] μ
    refine AW.astore_nN X (pc := 5) (lv2 := [(3, .null), (0, .ref 0), (1, .int u), (2, .int p)]) rfl d_C_approve_5 (by decide) rfl ?_
    refine AW.aload_nN X (pc := 6) 0 rfl rfl d_C_approve_6 ?_
    refine AW.ifnonnullN X (pc := 7) d_C_approve_7 ?_
    refine AW.iconst X (pc := 10) (v := -1) (by decide) d_C_approve_10 ?_
    exact hret 11 _ _ _ d_C_approve_11 (by rw [show F_approve μ u p = (-1, μ) by first | (simp [F_approve, hU]; done) | simp +contextual [F_approve, hU]]; exact ⟨rfl, rfl⟩)
  | true =>
    obtain ⟨i, hi, rfl⟩ := okU_of hU
    have hci : (nI i).toNatClampNeg = i := nI_clamp (by omega)
    show AW G (rmD 1) 4 (0, 0, ad, N, fb) 0 [(0, .ref 0), (1, .int (nI i)), (2, .int p)] [] μ
    refine AW.aload_n X (pc := 0) 0 rfl rfl d_C_approve_0 ?_
    refine AW.iload_n X (pc := 1) 1 rfl rfl d_C_approve_1 ?_
    refine AW.callV X (pc := 2) (b := 0) (ci := 4) (nA := 1) [.int (nI i)] [] (c_C_findUnit (kOf G ad N) i nr μ hN hi hI hKN) (gv_V wm_C_93 wi_C_findUnit wl_C_findUnit wn_C kw_C_findUnit) rfl (by decide +kernel) rfl (by omega) rfl rfl ⟨Nat.le_of_ble_eq_true rfl, Nat.le_of_ble_eq_true rfl⟩ ⟨Nat.zero_le _, Nat.zero_le _⟩ (Nat.le_of_ble_eq_true rfl) d_C_approve_2 rfl (fun v μ2 hq => ?_)
    obtain ⟨rfl, hm⟩ := hq
    rw [hm]
    clear hm
    show AW G (rmD 1) 4 (0, 0, ad, N, fb) 5 [(0, .ref 0), (1, .int (nI i)), (2, .int p)] [.ref (5 + 4 * i)] μ
    refine AW.astore_n X (pc := 5) (lv2 := [(3, .ref (5 + 4 * i)), (0, .ref 0), (1, .int (nI i)), (2, .int p)]) rfl d_C_approve_5 (by decide) rfl ?_
    refine AW.aload_n X (pc := 6) 0 rfl rfl d_C_approve_6 ?_
    refine AW.ifnonnull X (pc := 7) 12 d_C_approve_7 (by decide) ?_
    refine AW.iload_n X (pc := 12) 3 rfl rfl d_C_approve_12 ?_
    refine AW.if_lt X (pc := 13) 22 d_C_approve_13 (by decide) (fun c_13 => ?_) (fun c_13 => ?_)
    · refine AW.bipush X (pc := 22) (v := -2) (by decide) d_C_approve_22 ?_
      exact hret 24 _ _ _ d_C_approve_24 (by rw [show F_approve μ (nI i) p = (-2, μ) by first | (simp [F_approve, hU, hci, c_13]; done) | simp +contextual [F_approve, hU, hci, c_13]]; exact ⟨rfl, rfl⟩)
    · refine AW.iload_n X (pc := 16) 3 rfl rfl d_C_approve_16 ?_
      refine AW.bipush X (pc := 17) (v := 100) (by decide) d_C_approve_17 ?_
      refine AW.icmp_lt X (pc := 19) 25 d_C_approve_19 (by decide) (fun c_19 => ?_) (fun c_19 => ?_)
      · refine AW.aload_n X (pc := 25) 0 rfl rfl d_C_approve_25 ?_
        refine AW.callV X (pc := 26) (b := 5 + 4 * i) (ci := 3) (nA := 0) [] [] (c_U_isDisposed (kOf G ad N) i μ hN hi) (gv_V wm_C_97 wi_U_isDisposed wl_U_isDisposed wn_U kw_U_isDisposed) rfl (by decide +kernel) rfl (by omega) (sh_u hi) rfl ⟨Nat.le_of_ble_eq_true rfl, Nat.le_of_ble_eq_true rfl⟩ ⟨Nat.zero_le _, Nat.zero_le _⟩ (Nat.le_of_ble_eq_true rfl) d_C_approve_26 rfl (fun v μ2 hq => ?_)
        obtain ⟨rfl, hm⟩ := hq
        rw [hm]
        clear hm
        show AW G (rmD 1) 4 (0, 0, ad, N, fb) 29 [(3, .ref (5 + 4 * i)), (0, .ref 0), (1, .int (nI i)), (2, .int p)] [.int (bi (decide (¬ μ (5 + 4 * i) 7 = -1)))] μ
        refine AW.if_ne X (pc := 29) 47 d_C_approve_29 (by decide) (fun c_29 => ?_) (fun c_29 => ?_)
        · have c_29 := of_decide_eq_true (bi_ne.mp c_29)
          refine AW.bipush X (pc := 47) (v := -3) (by decide) d_C_approve_47 ?_
          exact hret 49 _ _ _ d_C_approve_49 (by rw [show F_approve μ (nI i) p = (-3, μ) by first | (simp [F_approve, hU, hci, c_13, c_19, c_29]; done) | simp +contextual [F_approve, hU, hci, c_13, c_19, c_29]]; exact ⟨rfl, rfl⟩)
        · have c_29 := Decidable.not_not.mp (of_decide_eq_false (bi_eq.mp c_29))
          refine AW.aload_n X (pc := 32) 0 rfl rfl d_C_approve_32 ?_
          refine AW.callV X (pc := 33) (b := 5 + 4 * i) (ci := 3) (nA := 0) [] [] (c_U_isApproved (kOf G ad N) i μ hN hi) (gv_V wm_C_153 wi_U_isApproved wl_U_isApproved wn_U kw_U_isApproved) rfl (by decide +kernel) rfl (by omega) (sh_u hi) rfl ⟨Nat.le_of_ble_eq_true rfl, Nat.le_of_ble_eq_true rfl⟩ ⟨Nat.zero_le _, Nat.zero_le _⟩ (Nat.le_of_ble_eq_true rfl) d_C_approve_33 rfl (fun v μ2 hq => ?_)
          obtain ⟨rfl, hm⟩ := hq
          rw [hm]
          clear hm
          show AW G (rmD 1) 4 (0, 0, ad, N, fb) 36 [(3, .ref (5 + 4 * i)), (0, .ref 0), (1, .int (nI i)), (2, .int p)] [.int (bi (decide (2 ≤ μ (5 + 4 * i) 5)))] μ
          refine AW.if_ne X (pc := 36) 47 d_C_approve_36 (by decide) (fun c_36 => ?_) (fun c_36 => ?_)
          · have c_36 := of_decide_eq_true (bi_ne.mp c_36)
            refine AW.bipush X (pc := 47) (v := -3) (by decide) d_C_approve_47 ?_
            exact hret 49 _ _ _ d_C_approve_49 (by rw [show F_approve μ (nI i) p = (-3, μ) by first | (simp [F_approve, hU, hci, c_13, c_19, c_29, c_36]; done) | simp +contextual [F_approve, hU, hci, c_13, c_19, c_29, c_36]]; exact ⟨rfl, rfl⟩)
          · have c_36 := of_decide_eq_false (bi_eq.mp c_36)
            refine AW.aload_n X (pc := 39) 0 rfl rfl d_C_approve_39 ?_
            refine AW.iload_n X (pc := 40) 3 rfl rfl d_C_approve_40 ?_
            refine AW.callV X (pc := 41) (b := 5 + 4 * i) (ci := 3) (nA := 1) [.int p] [] (c_U_isApprovedBy (kOf G ad N) i p μ hN hi) (gv_V wm_C_156 wi_U_isApprovedBy wl_U_isApprovedBy wn_U kw_U_isApprovedBy) rfl (by decide +kernel) rfl (by omega) (sh_u hi) rfl ⟨Nat.le_of_ble_eq_true rfl, Nat.le_of_ble_eq_true rfl⟩ ⟨Nat.zero_le _, Nat.zero_le _⟩ (Nat.le_of_ble_eq_true rfl) d_C_approve_41 rfl (fun v μ2 hq => ?_)
            obtain ⟨rfl, hm⟩ := hq
            rw [hm]
            clear hm
            show AW G (rmD 1) 4 (0, 0, ad, N, fb) 44 [(3, .ref (5 + 4 * i)), (0, .ref 0), (1, .int (nI i)), (2, .int p)] [.int (bi (decide (¬ μ (5 + 4 * i) 5 ≤ 0 ∧ μ (5 + 4 * i) 6 = p)))] μ
            refine AW.if_eq X (pc := 44) 50 d_C_approve_44 (by decide) (fun c_44 => ?_) (fun c_44 => ?_)
            · have c_44 := of_decide_eq_false (bi_eq.mp c_44)
              simp at c_44
              refine AW.aload_n X (pc := 50) 0 rfl rfl d_C_approve_50 ?_
              refine AW.iload_n X (pc := 51) 3 rfl rfl d_C_approve_51 ?_
              refine AW.callV X (pc := 52) (b := 5 + 4 * i) (ci := 3) (nA := 1) [.int p] [] (c_U_addApproval (kOf G ad N) i p μ hN hi) (gv_V wm_C_159 wi_U_addApproval wl_U_addApproval wn_U kw_U_addApproval) rfl (by decide +kernel) rfl (by omega) (sh_u hi) rfl ⟨Nat.le_of_ble_eq_true rfl, Nat.le_of_ble_eq_true rfl⟩ ⟨Nat.zero_le _, Nat.zero_le _⟩ (Nat.le_of_ble_eq_true rfl) d_C_approve_52 rfl (fun v μ2 hq => ?_)
              obtain ⟨rfl, hm⟩ := hq
              rw [hm]
              clear hm
              show AW G (rmD 1) 4 (0, 0, ad, N, fb) 55 [(3, .ref (5 + 4 * i)), (0, .ref 0), (1, .int (nI i)), (2, .int p)] [] (addAp μ i p)
              refine AW.aload_n X (pc := 55) 0 rfl rfl d_C_approve_55 ?_
              refine AW.callV X (pc := 56) (b := 5 + 4 * i) (ci := 3) (nA := 0) [] [] (c_U_approvalCount (kOf G ad N) i (addAp μ i p) hN hi) (gv_V wm_C_162 wi_U_approvalCount wl_U_approvalCount wn_U kw_U_approvalCount) rfl (by decide +kernel) rfl (by omega) (sh_u hi) rfl ⟨Nat.le_of_ble_eq_true rfl, Nat.le_of_ble_eq_true rfl⟩ ⟨Nat.zero_le _, Nat.zero_le _⟩ (Nat.le_of_ble_eq_true rfl) d_C_approve_56 rfl (fun v μ2 hq => ?_)
              obtain ⟨rfl, hm⟩ := hq
              rw [hm]
              clear hm
              show AW G (rmD 1) 4 (0, 0, ad, N, fb) 59 [(3, .ref (5 + 4 * i)), (0, .ref 0), (1, .int (nI i)), (2, .int p)] [.int ((addAp μ i p) (5 + 4 * i) 5)] (addAp μ i p)
              exact hret 59 _ _ _ d_C_approve_59 (by rw [show F_approve μ (nI i) p = ((addAp μ i p) (5 + 4 * i) 5, (addAp μ i p)) by first | (simp [F_approve, hU, hci, c_13, c_19, c_29, c_36, c_44]; done) | simp +contextual [F_approve, hU, hci, c_13, c_19, c_29, c_36, c_44]]; exact ⟨rfl, rfl⟩)
            · have c_44 := of_decide_eq_true (bi_ne.mp c_44)
              refine AW.bipush X (pc := 47) (v := -3) (by decide) d_C_approve_47 ?_
              exact hret 49 _ _ _ d_C_approve_49 (by rw [show F_approve μ (nI i) p = (-3, μ) by first | (simp [F_approve, hU, hci, c_13, c_19, c_29, c_36, c_44]; done) | simp +contextual [F_approve, hU, hci, c_13, c_19, c_29, c_36, c_44]]; exact ⟨rfl, rfl⟩)
      · refine AW.bipush X (pc := 22) (v := -2) (by decide) d_C_approve_22 ?_
        exact hret 24 _ _ _ d_C_approve_24 (by rw [show F_approve μ (nI i) p = (-2, μ) by first | (simp [F_approve, hU, hci, c_13, c_19]; done) | simp +contextual [F_approve, hU, hci, c_13, c_19]]; exact ⟨rfl, rfl⟩)
set_option maxHeartbeats 4000000 in
set_option maxRecDepth 100000 in
theorem c_C_certificate (K : KTy) (nr : Nat) (u n : Int32) (μ : Mu) (hN : 272 ≤ KN K) (hI : CI μ nr) (hKN : KN K = 272 + 3 * nr) : CT K y_C_certificate (k_C_certificate :: GT) 1 [.ref 0, .int u, .int n] μ (fun v μ2 => v = some (.int (F_certificate μ u n).1) ∧ μ2 = (F_certificate μ u n).2) := by
  refine CT.int (cc := b_C_certificate) (maxL := 4) (by decide) rfl rfl (Nat.le_of_ble_eq_true rfl) ?_
  intro G ad N hK X hret
  subst hK
  have hN : 272 ≤ N := hN
  have hKN : N = 272 + 3 * nr := hKN
  have hnr := hI.nr
  show AW G (rmD 1) 4 (0, 0, ad, N, fb) 0 [(0, .ref 0), (1, .int u), (2, .int n)] [] μ
  cases hU : okU u with
  | false =>
    refine AW.aload_n X (pc := 0) 0 rfl rfl d_C_certificate_0 ?_
    refine AW.iload_n X (pc := 1) 1 rfl rfl d_C_certificate_1 ?_
    refine AW.callV X (pc := 2) (b := 0) (ci := 4) (nA := 1) [.int u] [] (c_C_findUnit_no (kOf G ad N) u μ hN hU) (gv_V wm_C_93 wi_C_findUnit wl_C_findUnit wn_C kw_C_findUnit) rfl (by decide +kernel) rfl (by omega) rfl rfl ⟨Nat.le_of_ble_eq_true rfl, Nat.le_of_ble_eq_true rfl⟩ ⟨Nat.zero_le _, Nat.zero_le _⟩ (Nat.le_of_ble_eq_true rfl) d_C_certificate_2 rfl (fun v μ2 hq => ?_)
    obtain ⟨rfl, hm⟩ := hq
    rw [hm]
    clear hm
    show AW G (rmD 1) 4 (0, 0, ad, N, fb) 5 [(0, .ref 0), (1, .int u), (2, .int n)] [.null] μ
    refine AW.astore_nN X (pc := 5) (lv2 := [(3, .null), (0, .ref 0), (1, .int u), (2, .int n)]) rfl d_C_certificate_5 (by decide) rfl ?_
    refine AW.aload_nN X (pc := 6) 0 rfl rfl d_C_certificate_6 ?_
    refine AW.ifnonnullN X (pc := 7) d_C_certificate_7 ?_
    refine AW.iconst X (pc := 10) (v := -1) (by decide) d_C_certificate_10 ?_
    exact hret 11 _ _ _ d_C_certificate_11 (by rw [show F_certificate μ u n = (-1, μ) by first | (simp [F_certificate, hU]; done) | simp +contextual [F_certificate, hU]]; exact ⟨rfl, rfl⟩)
  | true =>
    obtain ⟨i, hi, rfl⟩ := okU_of hU
    have hci : (nI i).toNatClampNeg = i := nI_clamp (by omega)
    show AW G (rmD 1) 4 (0, 0, ad, N, fb) 0 [(0, .ref 0), (1, .int (nI i)), (2, .int n)] [] μ
    refine AW.aload_n X (pc := 0) 0 rfl rfl d_C_certificate_0 ?_
    refine AW.iload_n X (pc := 1) 1 rfl rfl d_C_certificate_1 ?_
    refine AW.callV X (pc := 2) (b := 0) (ci := 4) (nA := 1) [.int (nI i)] [] (c_C_findUnit (kOf G ad N) i nr μ hN hi hI hKN) (gv_V wm_C_93 wi_C_findUnit wl_C_findUnit wn_C kw_C_findUnit) rfl (by decide +kernel) rfl (by omega) rfl rfl ⟨Nat.le_of_ble_eq_true rfl, Nat.le_of_ble_eq_true rfl⟩ ⟨Nat.zero_le _, Nat.zero_le _⟩ (Nat.le_of_ble_eq_true rfl) d_C_certificate_2 rfl (fun v μ2 hq => ?_)
    obtain ⟨rfl, hm⟩ := hq
    rw [hm]
    clear hm
    show AW G (rmD 1) 4 (0, 0, ad, N, fb) 5 [(0, .ref 0), (1, .int (nI i)), (2, .int n)] [.ref (5 + 4 * i)] μ
    refine AW.astore_n X (pc := 5) (lv2 := [(3, .ref (5 + 4 * i)), (0, .ref 0), (1, .int (nI i)), (2, .int n)]) rfl d_C_certificate_5 (by decide) rfl ?_
    refine AW.aload_n X (pc := 6) 0 rfl rfl d_C_certificate_6 ?_
    refine AW.ifnonnull X (pc := 7) 12 d_C_certificate_7 (by decide) ?_
    refine AW.iload_n X (pc := 12) 3 rfl rfl d_C_certificate_12 ?_
    refine AW.iconst X (pc := 13) (v := 1) (by decide) d_C_certificate_13 ?_
    refine AW.icmp_lt X (pc := 14) 23 d_C_certificate_14 (by decide) (fun c_14 => ?_) (fun c_14 => ?_)
    · refine AW.bipush X (pc := 23) (v := -2) (by decide) d_C_certificate_23 ?_
      exact hret 25 _ _ _ d_C_certificate_25 (by rw [show F_certificate μ (nI i) n = (-2, μ) by first | (simp [F_certificate, hU, hci, c_14]; done) | simp +contextual [F_certificate, hU, hci, c_14]]; exact ⟨rfl, rfl⟩)
    · refine AW.iload_n X (pc := 17) 3 rfl rfl d_C_certificate_17 ?_
      refine AW.ldc X (pc := 18) (v := 1000000) (by decide +kernel) d_C_certificate_18 ?_
      refine AW.icmp_le X (pc := 20) 26 d_C_certificate_20 (by decide) (fun c_20 => ?_) (fun c_20 => ?_)
      · refine AW.aload_n X (pc := 26) 0 rfl rfl d_C_certificate_26 ?_
        refine AW.callV X (pc := 27) (b := 5 + 4 * i) (ci := 3) (nA := 0) [] [] (c_U_isDisposed (kOf G ad N) i μ hN hi) (gv_V wm_C_97 wi_U_isDisposed wl_U_isDisposed wn_U kw_U_isDisposed) rfl (by decide +kernel) rfl (by omega) (sh_u hi) rfl ⟨Nat.le_of_ble_eq_true rfl, Nat.le_of_ble_eq_true rfl⟩ ⟨Nat.zero_le _, Nat.zero_le _⟩ (Nat.le_of_ble_eq_true rfl) d_C_certificate_27 rfl (fun v μ2 hq => ?_)
        obtain ⟨rfl, hm⟩ := hq
        rw [hm]
        clear hm
        show AW G (rmD 1) 4 (0, 0, ad, N, fb) 30 [(3, .ref (5 + 4 * i)), (0, .ref 0), (1, .int (nI i)), (2, .int n)] [.int (bi (decide (¬ μ (5 + 4 * i) 7 = -1)))] μ
        refine AW.if_eq X (pc := 30) 40 d_C_certificate_30 (by decide) (fun c_30 => ?_) (fun c_30 => ?_)
        · have c_30 := Decidable.not_not.mp (of_decide_eq_false (bi_eq.mp c_30))
          refine AW.bipush X (pc := 40) (v := -3) (by decide) d_C_certificate_40 ?_
          exact hret 42 _ _ _ d_C_certificate_42 (by rw [show F_certificate μ (nI i) n = (-3, μ) by first | (simp [F_certificate, hU, hci, c_14, c_20, c_30]; done) | simp +contextual [F_certificate, hU, hci, c_14, c_20, c_30]]; exact ⟨rfl, rfl⟩)
        · have c_30 := of_decide_eq_true (bi_ne.mp c_30)
          refine AW.aload_n X (pc := 33) 0 rfl rfl d_C_certificate_33 ?_
          refine AW.callV X (pc := 34) (b := 5 + 4 * i) (ci := 3) (nA := 0) [] [] (c_U_hasCertificate (kOf G ad N) i μ hN hi) (gv_V wm_C_176 wi_U_hasCertificate wl_U_hasCertificate wn_U kw_U_hasCertificate) rfl (by decide +kernel) rfl (by omega) (sh_u hi) rfl ⟨Nat.le_of_ble_eq_true rfl, Nat.le_of_ble_eq_true rfl⟩ ⟨Nat.zero_le _, Nat.zero_le _⟩ (Nat.le_of_ble_eq_true rfl) d_C_certificate_34 rfl (fun v μ2 hq => ?_)
          obtain ⟨rfl, hm⟩ := hq
          rw [hm]
          clear hm
          show AW G (rmD 1) 4 (0, 0, ad, N, fb) 37 [(3, .ref (5 + 4 * i)), (0, .ref 0), (1, .int (nI i)), (2, .int n)] [.int (bi (decide (¬ μ (5 + 4 * i) 8 = -1)))] μ
          refine AW.if_eq X (pc := 37) 43 d_C_certificate_37 (by decide) (fun c_37 => ?_) (fun c_37 => ?_)
          · have c_37 := Decidable.not_not.mp (of_decide_eq_false (bi_eq.mp c_37))
            refine AW.aload_n X (pc := 43) 0 rfl rfl d_C_certificate_43 ?_
            refine AW.iload_n X (pc := 44) 3 rfl rfl d_C_certificate_44 ?_
            refine AW.callV X (pc := 45) (b := 5 + 4 * i) (ci := 3) (nA := 1) [.int n] [] (c_U_setCertificate (kOf G ad N) i n μ hN hi) (gv_V wm_C_179 wi_U_setCertificate wl_U_setCertificate wn_U kw_U_setCertificate) rfl (by decide +kernel) rfl (by omega) (sh_u hi) rfl ⟨Nat.le_of_ble_eq_true rfl, Nat.le_of_ble_eq_true rfl⟩ ⟨Nat.zero_le _, Nat.zero_le _⟩ (Nat.le_of_ble_eq_true rfl) d_C_certificate_45 rfl (fun v μ2 hq => ?_)
            obtain ⟨rfl, hm⟩ := hq
            rw [hm]
            clear hm
            show AW G (rmD 1) 4 (0, 0, ad, N, fb) 48 [(3, .ref (5 + 4 * i)), (0, .ref 0), (1, .int (nI i)), (2, .int n)] [] (m_up μ (5 + 4 * i) 8 n)
            refine AW.iconst X (pc := 48) (v := 1) (by decide) d_C_certificate_48 ?_
            exact hret 49 _ _ _ d_C_certificate_49 (by rw [show F_certificate μ (nI i) n = (1, (m_up μ (5 + 4 * i) 8 n)) by first | (simp [F_certificate, hU, hci, c_14, c_20, c_30, c_37]; done) | simp +contextual [F_certificate, hU, hci, c_14, c_20, c_30, c_37]]; exact ⟨rfl, rfl⟩)
          · have c_37 := of_decide_eq_true (bi_ne.mp c_37)
            refine AW.bipush X (pc := 40) (v := -3) (by decide) d_C_certificate_40 ?_
            exact hret 42 _ _ _ d_C_certificate_42 (by rw [show F_certificate μ (nI i) n = (-3, μ) by first | (simp [F_certificate, hU, hci, c_14, c_20, c_30, c_37]; done) | simp +contextual [F_certificate, hU, hci, c_14, c_20, c_30, c_37]]; exact ⟨rfl, rfl⟩)
      · refine AW.bipush X (pc := 23) (v := -2) (by decide) d_C_certificate_23 ?_
        exact hret 25 _ _ _ d_C_certificate_25 (by rw [show F_certificate μ (nI i) n = (-2, μ) by first | (simp [F_certificate, hU, hci, c_14, c_20]; done) | simp +contextual [F_certificate, hU, hci, c_14, c_20]]; exact ⟨rfl, rfl⟩)
set_option maxHeartbeats 4000000 in
set_option maxRecDepth 100000 in
theorem c_C_about (K : KTy) (nr : Nat) (u w : Int32) (μ : Mu) (hN : 272 ≤ KN K) (hI : CI μ nr) (hKN : KN K = 272 + 3 * nr) : CT K y_C_about (k_C_about :: GT) 1 [.ref 0, .int u, .int w] μ (fun v μ2 => v = some (.int (F_about μ u w)) ∧ μ2 = μ) := by
  refine CT.int (cc := b_C_about) (maxL := 4) (by decide) rfl rfl (Nat.le_of_ble_eq_true rfl) ?_
  intro G ad N hK X hret
  subst hK
  have hN : 272 ≤ N := hN
  have hKN : N = 272 + 3 * nr := hKN
  have hnr := hI.nr
  show AW G (rmD 1) 4 (0, 0, ad, N, fb) 0 [(0, .ref 0), (1, .int u), (2, .int w)] [] μ
  cases hU : okU u with
  | false =>
    refine AW.aload_n X (pc := 0) 0 rfl rfl d_C_about_0 ?_
    refine AW.iload_n X (pc := 1) 1 rfl rfl d_C_about_1 ?_
    refine AW.callV X (pc := 2) (b := 0) (ci := 4) (nA := 1) [.int u] [] (c_C_findUnit_no (kOf G ad N) u μ hN hU) (gv_V wm_C_93 wi_C_findUnit wl_C_findUnit wn_C kw_C_findUnit) rfl (by decide +kernel) rfl (by omega) rfl rfl ⟨Nat.le_of_ble_eq_true rfl, Nat.le_of_ble_eq_true rfl⟩ ⟨Nat.zero_le _, Nat.zero_le _⟩ (Nat.le_of_ble_eq_true rfl) d_C_about_2 rfl (fun v μ2 hq => ?_)
    obtain ⟨rfl, hm⟩ := hq
    rw [hm]
    clear hm
    show AW G (rmD 1) 4 (0, 0, ad, N, fb) 5 [(0, .ref 0), (1, .int u), (2, .int w)] [.null] μ
    refine AW.astore_nN X (pc := 5) (lv2 := [(3, .null), (0, .ref 0), (1, .int u), (2, .int w)]) rfl d_C_about_5 (by decide) rfl ?_
    refine AW.aload_nN X (pc := 6) 0 rfl rfl d_C_about_6 ?_
    refine AW.ifnonnullN X (pc := 7) d_C_about_7 ?_
    refine AW.iconst X (pc := 10) (v := -1) (by decide) d_C_about_10 ?_
    exact hret 11 _ _ _ d_C_about_11 ⟨by rw [show F_about μ u w = -1 by simp [F_about, hU]], rfl⟩
  | true =>
    obtain ⟨i, hi, rfl⟩ := okU_of hU
    have hci : (nI i).toNatClampNeg = i := nI_clamp (by omega)
    show AW G (rmD 1) 4 (0, 0, ad, N, fb) 0 [(0, .ref 0), (1, .int (nI i)), (2, .int w)] [] μ
    by_cases n4 : w = 4
    · subst n4
      show AW G (rmD 1) 4 (0, 0, ad, N, fb) 0 [(0, .ref 0), (1, .int (nI i)), (2, .int 4)] [] μ
      refine AW.aload_n X (pc := 0) 0 rfl rfl d_C_about_0 ?_
      refine AW.iload_n X (pc := 1) 1 rfl rfl d_C_about_1 ?_
      refine AW.callV X (pc := 2) (b := 0) (ci := 4) (nA := 1) [.int (nI i)] [] (c_C_findUnit (kOf G ad N) i nr μ hN hi hI hKN) (gv_V wm_C_93 wi_C_findUnit wl_C_findUnit wn_C kw_C_findUnit) rfl (by decide +kernel) rfl (by omega) rfl rfl ⟨Nat.le_of_ble_eq_true rfl, Nat.le_of_ble_eq_true rfl⟩ ⟨Nat.zero_le _, Nat.zero_le _⟩ (Nat.le_of_ble_eq_true rfl) d_C_about_2 rfl (fun v μ2 hq => ?_)
      obtain ⟨rfl, hm⟩ := hq
      rw [hm]
      clear hm
      show AW G (rmD 1) 4 (0, 0, ad, N, fb) 5 [(0, .ref 0), (1, .int (nI i)), (2, .int 4)] [.ref (5 + 4 * i)] μ
      refine AW.astore_n X (pc := 5) (lv2 := [(3, .ref (5 + 4 * i)), (0, .ref 0), (1, .int (nI i)), (2, .int 4)]) rfl d_C_about_5 (by decide) rfl ?_
      refine AW.aload_n X (pc := 6) 0 rfl rfl d_C_about_6 ?_
      refine AW.ifnonnull X (pc := 7) 12 d_C_about_7 (by decide) ?_
      refine AW.iload_n X (pc := 12) 3 rfl rfl d_C_about_12 ?_
      refine AW.tableIn X (pc := 13) 48 d_C_about_13 (by decide) (by decide) (show _ = some 35 by decide) (by decide) ?_
      refine AW.aload_n X (pc := 48) 0 rfl rfl d_C_about_48 ?_
      refine AW.callV X (pc := 49) (b := 5 + 4 * i) (ci := 3) (nA := 0) [] [] (c_U_ruleCount (kOf G ad N) i μ hN hi) (gv_V wm_C_111 wi_U_ruleCount wl_U_ruleCount wn_U kw_U_ruleCount) rfl (by decide +kernel) rfl (by omega) (sh_u hi) rfl ⟨Nat.le_of_ble_eq_true rfl, Nat.le_of_ble_eq_true rfl⟩ ⟨Nat.zero_le _, Nat.zero_le _⟩ (Nat.le_of_ble_eq_true rfl) d_C_about_49 rfl (fun v μ2 hq => ?_)
      obtain ⟨rfl, hm⟩ := hq
      rw [hm]
      clear hm
      show AW G (rmD 1) 4 (0, 0, ad, N, fb) 52 [(3, .ref (5 + 4 * i)), (0, .ref 0), (1, .int (nI i)), (2, .int 4)] [.int (μ (5 + 4 * i) 2)] μ
      exact hret 52 _ _ _ d_C_about_52 ⟨by rw [show F_about μ (nI i) 4 = μ (5 + 4 * i) 2 by simp [F_about, hU, hci]], rfl⟩
    by_cases n5 : w = 5
    · subst n5
      show AW G (rmD 1) 4 (0, 0, ad, N, fb) 0 [(0, .ref 0), (1, .int (nI i)), (2, .int 5)] [] μ
      refine AW.aload_n X (pc := 0) 0 rfl rfl d_C_about_0 ?_
      refine AW.iload_n X (pc := 1) 1 rfl rfl d_C_about_1 ?_
      refine AW.callV X (pc := 2) (b := 0) (ci := 4) (nA := 1) [.int (nI i)] [] (c_C_findUnit (kOf G ad N) i nr μ hN hi hI hKN) (gv_V wm_C_93 wi_C_findUnit wl_C_findUnit wn_C kw_C_findUnit) rfl (by decide +kernel) rfl (by omega) rfl rfl ⟨Nat.le_of_ble_eq_true rfl, Nat.le_of_ble_eq_true rfl⟩ ⟨Nat.zero_le _, Nat.zero_le _⟩ (Nat.le_of_ble_eq_true rfl) d_C_about_2 rfl (fun v μ2 hq => ?_)
      obtain ⟨rfl, hm⟩ := hq
      rw [hm]
      clear hm
      show AW G (rmD 1) 4 (0, 0, ad, N, fb) 5 [(0, .ref 0), (1, .int (nI i)), (2, .int 5)] [.ref (5 + 4 * i)] μ
      refine AW.astore_n X (pc := 5) (lv2 := [(3, .ref (5 + 4 * i)), (0, .ref 0), (1, .int (nI i)), (2, .int 5)]) rfl d_C_about_5 (by decide) rfl ?_
      refine AW.aload_n X (pc := 6) 0 rfl rfl d_C_about_6 ?_
      refine AW.ifnonnull X (pc := 7) 12 d_C_about_7 (by decide) ?_
      refine AW.iload_n X (pc := 12) 3 rfl rfl d_C_about_12 ?_
      refine AW.tableIn X (pc := 13) 53 d_C_about_13 (by decide) (by decide) (show _ = some 40 by decide) (by decide) ?_
      refine AW.aload_n X (pc := 53) 0 rfl rfl d_C_about_53 ?_
      refine AW.callV X (pc := 54) (b := 5 + 4 * i) (ci := 3) (nA := 0) [] [] (c_U_approvalCount (kOf G ad N) i μ hN hi) (gv_V wm_C_162 wi_U_approvalCount wl_U_approvalCount wn_U kw_U_approvalCount) rfl (by decide +kernel) rfl (by omega) (sh_u hi) rfl ⟨Nat.le_of_ble_eq_true rfl, Nat.le_of_ble_eq_true rfl⟩ ⟨Nat.zero_le _, Nat.zero_le _⟩ (Nat.le_of_ble_eq_true rfl) d_C_about_54 rfl (fun v μ2 hq => ?_)
      obtain ⟨rfl, hm⟩ := hq
      rw [hm]
      clear hm
      show AW G (rmD 1) 4 (0, 0, ad, N, fb) 57 [(3, .ref (5 + 4 * i)), (0, .ref 0), (1, .int (nI i)), (2, .int 5)] [.int (μ (5 + 4 * i) 5)] μ
      exact hret 57 _ _ _ d_C_about_57 ⟨by rw [show F_about μ (nI i) 5 = μ (5 + 4 * i) 5 by simp [F_about, hU, hci]], rfl⟩
    by_cases n6 : w = 6
    · subst n6
      show AW G (rmD 1) 4 (0, 0, ad, N, fb) 0 [(0, .ref 0), (1, .int (nI i)), (2, .int 6)] [] μ
      refine AW.aload_n X (pc := 0) 0 rfl rfl d_C_about_0 ?_
      refine AW.iload_n X (pc := 1) 1 rfl rfl d_C_about_1 ?_
      refine AW.callV X (pc := 2) (b := 0) (ci := 4) (nA := 1) [.int (nI i)] [] (c_C_findUnit (kOf G ad N) i nr μ hN hi hI hKN) (gv_V wm_C_93 wi_C_findUnit wl_C_findUnit wn_C kw_C_findUnit) rfl (by decide +kernel) rfl (by omega) rfl rfl ⟨Nat.le_of_ble_eq_true rfl, Nat.le_of_ble_eq_true rfl⟩ ⟨Nat.zero_le _, Nat.zero_le _⟩ (Nat.le_of_ble_eq_true rfl) d_C_about_2 rfl (fun v μ2 hq => ?_)
      obtain ⟨rfl, hm⟩ := hq
      rw [hm]
      clear hm
      show AW G (rmD 1) 4 (0, 0, ad, N, fb) 5 [(0, .ref 0), (1, .int (nI i)), (2, .int 6)] [.ref (5 + 4 * i)] μ
      refine AW.astore_n X (pc := 5) (lv2 := [(3, .ref (5 + 4 * i)), (0, .ref 0), (1, .int (nI i)), (2, .int 6)]) rfl d_C_about_5 (by decide) rfl ?_
      refine AW.aload_n X (pc := 6) 0 rfl rfl d_C_about_6 ?_
      refine AW.ifnonnull X (pc := 7) 12 d_C_about_7 (by decide) ?_
      refine AW.iload_n X (pc := 12) 3 rfl rfl d_C_about_12 ?_
      refine AW.tableIn X (pc := 13) 58 d_C_about_13 (by decide) (by decide) (show _ = some 45 by decide) (by decide) ?_
      refine AW.aload_n X (pc := 58) 0 rfl rfl d_C_about_58 ?_
      refine AW.callV X (pc := 59) (b := 5 + 4 * i) (ci := 3) (nA := 0) [] [] (c_U_isDisposed (kOf G ad N) i μ hN hi) (gv_V wm_C_97 wi_U_isDisposed wl_U_isDisposed wn_U kw_U_isDisposed) rfl (by decide +kernel) rfl (by omega) (sh_u hi) rfl ⟨Nat.le_of_ble_eq_true rfl, Nat.le_of_ble_eq_true rfl⟩ ⟨Nat.zero_le _, Nat.zero_le _⟩ (Nat.le_of_ble_eq_true rfl) d_C_about_59 rfl (fun v μ2 hq => ?_)
      obtain ⟨rfl, hm⟩ := hq
      rw [hm]
      clear hm
      show AW G (rmD 1) 4 (0, 0, ad, N, fb) 62 [(3, .ref (5 + 4 * i)), (0, .ref 0), (1, .int (nI i)), (2, .int 6)] [.int (bi (decide (¬ μ (5 + 4 * i) 7 = -1)))] μ
      refine AW.if_eq X (pc := 62) 69 d_C_about_62 (by decide) (fun c_62 => ?_) (fun c_62 => ?_)
      · have c_62 := Decidable.not_not.mp (of_decide_eq_false (bi_eq.mp c_62))
        refine AW.iconst X (pc := 69) (v := 0) (by decide) d_C_about_69 ?_
        exact hret 70 _ _ _ d_C_about_70 ⟨by rw [show F_about μ (nI i) 6 = 0 by simp [F_about, hU, hci, c_62]], rfl⟩
      · have c_62 := of_decide_eq_true (bi_ne.mp c_62)
        refine AW.iconst X (pc := 65) (v := 1) (by decide) d_C_about_65 ?_
        refine AW.goto X (pc := 66) 70 d_C_about_66 (by decide) ?_
        exact hret 70 _ _ _ d_C_about_70 ⟨by rw [show F_about μ (nI i) 6 = 1 by simp [F_about, hU, hci, c_62]], rfl⟩
    by_cases n7 : w = 7
    · subst n7
      show AW G (rmD 1) 4 (0, 0, ad, N, fb) 0 [(0, .ref 0), (1, .int (nI i)), (2, .int 7)] [] μ
      refine AW.aload_n X (pc := 0) 0 rfl rfl d_C_about_0 ?_
      refine AW.iload_n X (pc := 1) 1 rfl rfl d_C_about_1 ?_
      refine AW.callV X (pc := 2) (b := 0) (ci := 4) (nA := 1) [.int (nI i)] [] (c_C_findUnit (kOf G ad N) i nr μ hN hi hI hKN) (gv_V wm_C_93 wi_C_findUnit wl_C_findUnit wn_C kw_C_findUnit) rfl (by decide +kernel) rfl (by omega) rfl rfl ⟨Nat.le_of_ble_eq_true rfl, Nat.le_of_ble_eq_true rfl⟩ ⟨Nat.zero_le _, Nat.zero_le _⟩ (Nat.le_of_ble_eq_true rfl) d_C_about_2 rfl (fun v μ2 hq => ?_)
      obtain ⟨rfl, hm⟩ := hq
      rw [hm]
      clear hm
      show AW G (rmD 1) 4 (0, 0, ad, N, fb) 5 [(0, .ref 0), (1, .int (nI i)), (2, .int 7)] [.ref (5 + 4 * i)] μ
      refine AW.astore_n X (pc := 5) (lv2 := [(3, .ref (5 + 4 * i)), (0, .ref 0), (1, .int (nI i)), (2, .int 7)]) rfl d_C_about_5 (by decide) rfl ?_
      refine AW.aload_n X (pc := 6) 0 rfl rfl d_C_about_6 ?_
      refine AW.ifnonnull X (pc := 7) 12 d_C_about_7 (by decide) ?_
      refine AW.iload_n X (pc := 12) 3 rfl rfl d_C_about_12 ?_
      refine AW.tableIn X (pc := 13) 71 d_C_about_13 (by decide) (by decide) (show _ = some 58 by decide) (by decide) ?_
      refine AW.aload_n X (pc := 71) 0 rfl rfl d_C_about_71 ?_
      refine AW.callV X (pc := 72) (b := 5 + 4 * i) (ci := 3) (nA := 0) [] [] (c_U_disposalDay (kOf G ad N) i μ hN hi) (gv_V wm_C_182 wi_U_disposalDay wl_U_disposalDay wn_U kw_U_disposalDay) rfl (by decide +kernel) rfl (by omega) (sh_u hi) rfl ⟨Nat.le_of_ble_eq_true rfl, Nat.le_of_ble_eq_true rfl⟩ ⟨Nat.zero_le _, Nat.zero_le _⟩ (Nat.le_of_ble_eq_true rfl) d_C_about_72 rfl (fun v μ2 hq => ?_)
      obtain ⟨rfl, hm⟩ := hq
      rw [hm]
      clear hm
      show AW G (rmD 1) 4 (0, 0, ad, N, fb) 75 [(3, .ref (5 + 4 * i)), (0, .ref 0), (1, .int (nI i)), (2, .int 7)] [.int (μ (5 + 4 * i) 7)] μ
      exact hret 75 _ _ _ d_C_about_75 ⟨by rw [show F_about μ (nI i) 7 = μ (5 + 4 * i) 7 by simp [F_about, hU, hci]], rfl⟩
    by_cases n8 : w = 8
    · subst n8
      show AW G (rmD 1) 4 (0, 0, ad, N, fb) 0 [(0, .ref 0), (1, .int (nI i)), (2, .int 8)] [] μ
      refine AW.aload_n X (pc := 0) 0 rfl rfl d_C_about_0 ?_
      refine AW.iload_n X (pc := 1) 1 rfl rfl d_C_about_1 ?_
      refine AW.callV X (pc := 2) (b := 0) (ci := 4) (nA := 1) [.int (nI i)] [] (c_C_findUnit (kOf G ad N) i nr μ hN hi hI hKN) (gv_V wm_C_93 wi_C_findUnit wl_C_findUnit wn_C kw_C_findUnit) rfl (by decide +kernel) rfl (by omega) rfl rfl ⟨Nat.le_of_ble_eq_true rfl, Nat.le_of_ble_eq_true rfl⟩ ⟨Nat.zero_le _, Nat.zero_le _⟩ (Nat.le_of_ble_eq_true rfl) d_C_about_2 rfl (fun v μ2 hq => ?_)
      obtain ⟨rfl, hm⟩ := hq
      rw [hm]
      clear hm
      show AW G (rmD 1) 4 (0, 0, ad, N, fb) 5 [(0, .ref 0), (1, .int (nI i)), (2, .int 8)] [.ref (5 + 4 * i)] μ
      refine AW.astore_n X (pc := 5) (lv2 := [(3, .ref (5 + 4 * i)), (0, .ref 0), (1, .int (nI i)), (2, .int 8)]) rfl d_C_about_5 (by decide) rfl ?_
      refine AW.aload_n X (pc := 6) 0 rfl rfl d_C_about_6 ?_
      refine AW.ifnonnull X (pc := 7) 12 d_C_about_7 (by decide) ?_
      refine AW.iload_n X (pc := 12) 3 rfl rfl d_C_about_12 ?_
      refine AW.tableIn X (pc := 13) 76 d_C_about_13 (by decide) (by decide) (show _ = some 63 by decide) (by decide) ?_
      refine AW.aload_n X (pc := 76) 0 rfl rfl d_C_about_76 ?_
      refine AW.callV X (pc := 77) (b := 5 + 4 * i) (ci := 3) (nA := 0) [] [] (c_U_certificateNumber (kOf G ad N) i μ hN hi) (gv_V wm_C_185 wi_U_certificateNumber wl_U_certificateNumber wn_U kw_U_certificateNumber) rfl (by decide +kernel) rfl (by omega) (sh_u hi) rfl ⟨Nat.le_of_ble_eq_true rfl, Nat.le_of_ble_eq_true rfl⟩ ⟨Nat.zero_le _, Nat.zero_le _⟩ (Nat.le_of_ble_eq_true rfl) d_C_about_77 rfl (fun v μ2 hq => ?_)
      obtain ⟨rfl, hm⟩ := hq
      rw [hm]
      clear hm
      show AW G (rmD 1) 4 (0, 0, ad, N, fb) 80 [(3, .ref (5 + 4 * i)), (0, .ref 0), (1, .int (nI i)), (2, .int 8)] [.int (μ (5 + 4 * i) 8)] μ
      exact hret 80 _ _ _ d_C_about_80 ⟨by rw [show F_about μ (nI i) 8 = μ (5 + 4 * i) 8 by simp [F_about, hU, hci]], rfl⟩
    refine AW.aload_n X (pc := 0) 0 rfl rfl d_C_about_0 ?_
    refine AW.iload_n X (pc := 1) 1 rfl rfl d_C_about_1 ?_
    refine AW.callV X (pc := 2) (b := 0) (ci := 4) (nA := 1) [.int (nI i)] [] (c_C_findUnit (kOf G ad N) i nr μ hN hi hI hKN) (gv_V wm_C_93 wi_C_findUnit wl_C_findUnit wn_C kw_C_findUnit) rfl (by decide +kernel) rfl (by omega) rfl rfl ⟨Nat.le_of_ble_eq_true rfl, Nat.le_of_ble_eq_true rfl⟩ ⟨Nat.zero_le _, Nat.zero_le _⟩ (Nat.le_of_ble_eq_true rfl) d_C_about_2 rfl (fun v μ2 hq => ?_)
    obtain ⟨rfl, hm⟩ := hq
    rw [hm]
    clear hm
    show AW G (rmD 1) 4 (0, 0, ad, N, fb) 5 [(0, .ref 0), (1, .int (nI i)), (2, .int w)] [.ref (5 + 4 * i)] μ
    refine AW.astore_n X (pc := 5) (lv2 := [(3, .ref (5 + 4 * i)), (0, .ref 0), (1, .int (nI i)), (2, .int w)]) rfl d_C_about_5 (by decide) rfl ?_
    refine AW.aload_n X (pc := 6) 0 rfl rfl d_C_about_6 ?_
    refine AW.ifnonnull X (pc := 7) 12 d_C_about_7 (by decide) ?_
    refine AW.iload_n X (pc := 12) 3 rfl rfl d_C_about_12 ?_
    refine AW.tableOut X (pc := 13) 81 d_C_about_13 (by have h4 := lv_neT n4 (a := 4) (by decide); have h5 := lv_neT n5 (a := 5) (by decide); have h6 := lv_neT n6 (a := 6) (by decide); have h7 := lv_neT n7 (a := 7) (by decide); have h8 := lv_neT n8 (a := 8) (by decide); omega) (by decide) ?_
    refine AW.iload_n X (pc := 81) 3 rfl rfl d_C_about_81 ?_
    refine AW.if_lt X (pc := 82) 98 d_C_about_82 (by decide) (fun c_82 => ?_) (fun c_82 => ?_)
    · refine AW.iconst X (pc := 98) (v := -1) (by decide) d_C_about_98 ?_
      exact hret 99 _ _ _ d_C_about_99 ⟨by rw [show F_about μ (nI i) w = -1 by simp [F_about, hU, hci, n4, n5, n6, n7, n8, c_82]], rfl⟩
    · refine AW.iload_n X (pc := 85) 3 rfl rfl d_C_about_85 ?_
      refine AW.iconst X (pc := 86) (v := 4) (by decide) d_C_about_86 ?_
      refine AW.icmp_ge X (pc := 87) 98 d_C_about_87 (by decide) (fun c_87 => ?_) (fun c_87 => ?_)
      · refine AW.iconst X (pc := 98) (v := -1) (by decide) d_C_about_98 ?_
        exact hret 99 _ _ _ d_C_about_99 ⟨by rw [show F_about μ (nI i) w = -1 by simp [F_about, hU, hci, n4, n5, n6, n7, n8, c_82, c_87]], rfl⟩
      · obtain ⟨q, hq, rfl⟩ := ofIx (n := 4) (M := 4) (by decide) (by decide) c_82 c_87
        have hcq : (nI q).toNatClampNeg = q := nI_clamp (by omega)
        refine AW.aload_n X (pc := 90) 0 rfl rfl d_C_about_90 ?_
        refine AW.iload_n X (pc := 91) 3 rfl rfl d_C_about_91 ?_
        refine AW.callV X (pc := 92) (b := 5 + 4 * i) (ci := 3) (nA := 1) [.int (nI q)] [] (c_U_eventDay (kOf G ad N) i q μ hN hi hq) (gv_V wm_C_188 wi_U_eventDay wl_U_eventDay wn_U kw_U_eventDay) rfl (by decide +kernel) rfl (by omega) (sh_u hi) rfl ⟨Nat.le_of_ble_eq_true rfl, Nat.le_of_ble_eq_true rfl⟩ ⟨Nat.zero_le _, Nat.zero_le _⟩ (Nat.le_of_ble_eq_true rfl) d_C_about_92 rfl (fun v μ2 hq => ?_)
        obtain ⟨rfl, hm⟩ := hq
        rw [hm]
        clear hm
        show AW G (rmD 1) 4 (0, 0, ad, N, fb) 95 [(3, .ref (5 + 4 * i)), (0, .ref 0), (1, .int (nI i)), (2, .int (nI q))] [.int (μ (5 + 4 * i + 1) q)] μ
        refine AW.goto X (pc := 95) 99 d_C_about_95 (by decide) ?_
        exact hret 99 _ _ _ d_C_about_99 ⟨by rw [show F_about μ (nI i) (nI q) = μ (5 + 4 * i + 1) q by simp [F_about, hU, hci, n4, n5, n6, n7, n8, c_82, c_87, hcq]], rfl⟩
set_option maxHeartbeats 4000000 in
set_option maxRecDepth 100000 in
theorem c_C_change (K : KTy) (nr : Nat) (x y d : Int32) (μ : Mu) (hN : 272 ≤ KN K) (hI : CI μ nr) (hKN : KN K = 272 + 3 * nr) : CT K y_C_change (k_C_change :: GT) 1 [.ref 0, .int x, .int y, .int d] μ (fun v μ2 => v = some (.int (F_change μ nr x y d).1) ∧ μ2 = (F_change μ nr x y d).2) := by
  refine CT.int (cc := b_C_change) (maxL := 5) (by decide) rfl rfl (Nat.le_of_ble_eq_true rfl) ?_
  intro G ad N hK X hret
  subst hK
  have hN : 272 ≤ N := hN
  have hKN : N = 272 + 3 * nr := hKN
  have hnr := hI.nr
  show AW G (rmD 1) 5 (0, 0, ad, N, fb) 0 [(0, .ref 0), (1, .int x), (2, .int y), (3, .int d)] [] μ
  cases hR : okR nr x with
  | false =>
    refine AW.aload_n X (pc := 0) 0 rfl rfl d_C_change_0 ?_
    refine AW.iload_n X (pc := 1) 1 rfl rfl d_C_change_1 ?_
    refine AW.callV X (pc := 2) (b := 0) (ci := 4) (nA := 1) [.int x] [] (c_C_findRule_no (kOf G ad N) nr x μ hN hR hI hKN) (gv_V wm_C_71 wi_C_findRule wl_C_findRule wn_C kw_C_findRule) rfl (by decide +kernel) rfl (by omega) rfl rfl ⟨Nat.le_of_ble_eq_true rfl, Nat.le_of_ble_eq_true rfl⟩ ⟨Nat.zero_le _, Nat.zero_le _⟩ (Nat.le_of_ble_eq_true rfl) d_C_change_2 rfl (fun v μ2 hq => ?_)
    obtain ⟨rfl, hm⟩ := hq
    rw [hm]
    clear hm
    show AW G (rmD 1) 5 (0, 0, ad, N, fb) 5 [(0, .ref 0), (1, .int x), (2, .int y), (3, .int d)] [.null] μ
    refine AW.astoreN X (pc := 5) (lv2 := [(4, .null), (0, .ref 0), (1, .int x), (2, .int y), (3, .int d)]) d_C_change_5 (by decide) rfl ?_
    refine AW.aloadN X (pc := 7) 0 rfl d_C_change_7 ?_
    refine AW.ifnonnullN X (pc := 9) d_C_change_9 ?_
    refine AW.iconst X (pc := 12) (v := -1) (by decide) d_C_change_12 ?_
    exact hret 13 _ _ _ d_C_change_13 (by rw [show F_change μ nr x y d = (-1, μ) by first | (simp [F_change, hR]; done) | simp +contextual [F_change, hR]]; exact ⟨rfl, rfl⟩)
  | true =>
    obtain ⟨r, hr, rfl⟩ := okR_of hnr hR
    have hcr : (nI r).toNatClampNeg = r := nI_clamp (by omega)
    have hw := hr
    show AW G (rmD 1) 5 (0, 0, ad, N, fb) 0 [(0, .ref 0), (1, .int (nI r)), (2, .int y), (3, .int d)] [] μ
    by_cases h5 : ccN μ r < 5
    · refine AW.aload_n X (pc := 0) 0 rfl rfl d_C_change_0 ?_
      refine AW.iload_n X (pc := 1) 1 rfl rfl d_C_change_1 ?_
      refine AW.callV X (pc := 2) (b := 0) (ci := 4) (nA := 1) [.int (nI r)] [] (c_C_findRule (kOf G ad N) r nr μ hN hr hI hKN) (gv_V wm_C_71 wi_C_findRule wl_C_findRule wn_C kw_C_findRule) rfl (by decide +kernel) rfl (by omega) rfl rfl ⟨Nat.le_of_ble_eq_true rfl, Nat.le_of_ble_eq_true rfl⟩ ⟨Nat.zero_le _, Nat.zero_le _⟩ (Nat.le_of_ble_eq_true rfl) d_C_change_2 rfl (fun v μ2 hq => ?_)
      obtain ⟨rfl, hm⟩ := hq
      rw [hm]
      clear hm
      show AW G (rmD 1) 5 (0, 0, ad, N, fb) 5 [(0, .ref 0), (1, .int (nI r)), (2, .int y), (3, .int d)] [.ref (272 + 3 * r)] μ
      refine AW.astore X (pc := 5) (lv2 := [(4, .ref (272 + 3 * r)), (0, .ref 0), (1, .int (nI r)), (2, .int y), (3, .int d)]) d_C_change_5 (by decide) rfl ?_
      refine AW.aload X (pc := 7) 0 rfl d_C_change_7 ?_
      refine AW.ifnonnull X (pc := 9) 14 d_C_change_9 (by decide) ?_
      refine AW.iload_n X (pc := 14) 3 rfl rfl d_C_change_14 ?_
      refine AW.if_lt X (pc := 15) 32 d_C_change_15 (by decide) (fun c_15 => ?_) (fun c_15 => ?_)
      · refine AW.bipush X (pc := 32) (v := -2) (by decide) d_C_change_32 ?_
        exact hret 34 _ _ _ d_C_change_34 (by rw [show F_change μ nr (nI r) y d = (-2, μ) by first | (simp [F_change, hR, hcr, h5, c_15]; done) | simp +contextual [F_change, hR, hcr, h5, c_15]]; exact ⟨rfl, rfl⟩)
      · refine AW.iload_n X (pc := 18) 3 rfl rfl d_C_change_18 ?_
        refine AW.sipush X (pc := 19) (v := 999) (by decide) d_C_change_19 ?_
        refine AW.icmp_gt X (pc := 22) 32 d_C_change_22 (by decide) (fun c_22 => ?_) (fun c_22 => ?_)
        · refine AW.bipush X (pc := 32) (v := -2) (by decide) d_C_change_32 ?_
          exact hret 34 _ _ _ d_C_change_34 (by rw [show F_change μ nr (nI r) y d = (-2, μ) by first | (simp [F_change, hR, hcr, h5, c_15, c_22]; done) | simp +contextual [F_change, hR, hcr, h5, c_15, c_22]]; exact ⟨rfl, rfl⟩)
        · refine AW.iload_n X (pc := 25) 4 rfl rfl d_C_change_25 ?_
          refine AW.callS X (pc := 26) (nA := 1) [.int d] [] (c_C_isDay (kOf G ad N) d μ hN) (gv_S wm_C_75 ws_C_isDay wn_C kw_C_isDay) rfl (by decide +kernel) rfl ⟨Nat.le_of_ble_eq_true rfl, Nat.le_of_ble_eq_true rfl⟩ ⟨Nat.zero_le _, Nat.zero_le _⟩ (Nat.le_of_ble_eq_true rfl) d_C_change_26 rfl (fun v μ2 hq => ?_)
          obtain ⟨rfl, hm⟩ := hq
          rw [hm]
          clear hm
          show AW G (rmD 1) 5 (0, 0, ad, N, fb) 29 [(4, .ref (272 + 3 * r)), (0, .ref 0), (1, .int (nI r)), (2, .int y), (3, .int d)] [.int (bi (okD d))] μ
          refine AW.if_ne X (pc := 29) 35 d_C_change_29 (by decide) (fun c_29 => ?_) (fun c_29 => ?_)
          · have c_29 := bi_ne.mp c_29
            refine AW.aload X (pc := 35) 0 rfl d_C_change_35 ?_
            refine AW.iload_n X (pc := 37) 4 rfl rfl d_C_change_37 ?_
            refine AW.callV X (pc := 38) (b := 272 + 3 * r) (ci := 1) (nA := 1) [.int d] [] (c_R_isChangedFrom (kOf G ad N) r nr d μ hN hr hI hKN) (gv_V wm_C_79 wi_R_isChangedFrom wl_R_isChangedFrom wn_R kw_R_isChangedFrom) rfl (by decide +kernel) rfl (by omega) (sh_r _) rfl ⟨Nat.le_of_ble_eq_true rfl, Nat.le_of_ble_eq_true rfl⟩ ⟨Nat.zero_le _, Nat.zero_le _⟩ (Nat.le_of_ble_eq_true rfl) d_C_change_38 rfl (fun v μ2 hq => ?_)
            obtain ⟨rfl, hm⟩ := hq
            rw [hm]
            clear hm
            show AW G (rmD 1) 5 (0, 0, ad, N, fb) 41 [(4, .ref (272 + 3 * r)), (0, .ref 0), (1, .int (nI r)), (2, .int y), (3, .int d)] [.int (bi (decide (0 < ccN μ r ∧ ¬ μ (272 + 3 * r + 1) (ccN μ r - 1) < d)))] μ
            refine AW.if_eq X (pc := 41) 47 d_C_change_41 (by decide) (fun c_41 => ?_) (fun c_41 => ?_)
            · have c_41 := of_decide_eq_false (bi_eq.mp c_41)
              simp at c_41
              refine AW.aload X (pc := 47) 0 rfl d_C_change_47 ?_
              refine AW.iload_n X (pc := 49) 3 rfl rfl d_C_change_49 ?_
              refine AW.iload_n X (pc := 50) 4 rfl rfl d_C_change_50 ?_
              refine AW.callV X (pc := 51) (b := 272 + 3 * r) (ci := 1) (nA := 2) [.int y, .int d] [] (c_R_addChange (kOf G ad N) r nr y d μ hN hr hI hKN) (gv_V wm_C_82 wi_R_addChange wl_R_addChange wn_R kw_R_addChange) rfl (by decide +kernel) rfl (by omega) (sh_r _) rfl ⟨Nat.le_of_ble_eq_true rfl, Nat.le_of_ble_eq_true rfl⟩ ⟨Nat.zero_le _, Nat.zero_le _⟩ (Nat.le_of_ble_eq_true rfl) d_C_change_51 rfl (fun v μ2 hq => ?_)
              rw [if_pos h5] at hq
              obtain ⟨rfl, hm⟩ := hq
              rw [hm]
              clear hm
              show AW G (rmD 1) 5 (0, 0, ad, N, fb) 54 [(4, .ref (272 + 3 * r)), (0, .ref 0), (1, .int (nI r)), (2, .int y), (3, .int d)] [.int 1] (m_up (m_up (m_up μ (272 + 3 * r + 1) (ccN μ r) d) (272 + 3 * r + 2) (ccN μ r) y) (272 + 3 * r) 5 (nI (ccN μ r) + 1))
              refine AW.if_eq X (pc := 54) 61 d_C_change_54 (by decide) (fun c_54 => absurd c_54 (by decide)) (fun c_54 => ?_)
              refine AW.iconst X (pc := 57) (v := 1) (by decide) d_C_change_57 ?_
              refine AW.goto X (pc := 58) 63 d_C_change_58 (by decide) ?_
              exact hret 63 _ _ _ d_C_change_63 (by rw [show F_change μ nr (nI r) y d = (1, (m_up (m_up (m_up μ (272 + 3 * r + 1) (ccN μ r) d) (272 + 3 * r + 2) (ccN μ r) y) (272 + 3 * r) 5 (nI (ccN μ r) + 1))) by first | (simp [F_change, hR, hcr, h5, c_15, c_22, c_29, c_41, c_54]; done) | simp +contextual [F_change, hR, hcr, h5, c_15, c_22, c_29, c_41, c_54]]; exact ⟨rfl, rfl⟩)
            · have c_41 := of_decide_eq_true (bi_ne.mp c_41)
              refine AW.bipush X (pc := 44) (v := -3) (by decide) d_C_change_44 ?_
              exact hret 46 _ _ _ d_C_change_46 (by rw [show F_change μ nr (nI r) y d = (-3, μ) by first | (simp [F_change, hR, hcr, h5, c_15, c_22, c_29, c_41]; done) | simp +contextual [F_change, hR, hcr, h5, c_15, c_22, c_29, c_41]]; exact ⟨rfl, rfl⟩)
          · have c_29 := bi_eq.mp c_29
            refine AW.bipush X (pc := 32) (v := -2) (by decide) d_C_change_32 ?_
            exact hret 34 _ _ _ d_C_change_34 (by rw [show F_change μ nr (nI r) y d = (-2, μ) by first | (simp [F_change, hR, hcr, h5, c_15, c_22, c_29]; done) | simp +contextual [F_change, hR, hcr, h5, c_15, c_22, c_29]]; exact ⟨rfl, rfl⟩)
    · refine AW.aload_n X (pc := 0) 0 rfl rfl d_C_change_0 ?_
      refine AW.iload_n X (pc := 1) 1 rfl rfl d_C_change_1 ?_
      refine AW.callV X (pc := 2) (b := 0) (ci := 4) (nA := 1) [.int (nI r)] [] (c_C_findRule (kOf G ad N) r nr μ hN hr hI hKN) (gv_V wm_C_71 wi_C_findRule wl_C_findRule wn_C kw_C_findRule) rfl (by decide +kernel) rfl (by omega) rfl rfl ⟨Nat.le_of_ble_eq_true rfl, Nat.le_of_ble_eq_true rfl⟩ ⟨Nat.zero_le _, Nat.zero_le _⟩ (Nat.le_of_ble_eq_true rfl) d_C_change_2 rfl (fun v μ2 hq => ?_)
      obtain ⟨rfl, hm⟩ := hq
      rw [hm]
      clear hm
      show AW G (rmD 1) 5 (0, 0, ad, N, fb) 5 [(0, .ref 0), (1, .int (nI r)), (2, .int y), (3, .int d)] [.ref (272 + 3 * r)] μ
      refine AW.astore X (pc := 5) (lv2 := [(4, .ref (272 + 3 * r)), (0, .ref 0), (1, .int (nI r)), (2, .int y), (3, .int d)]) d_C_change_5 (by decide) rfl ?_
      refine AW.aload X (pc := 7) 0 rfl d_C_change_7 ?_
      refine AW.ifnonnull X (pc := 9) 14 d_C_change_9 (by decide) ?_
      refine AW.iload_n X (pc := 14) 3 rfl rfl d_C_change_14 ?_
      refine AW.if_lt X (pc := 15) 32 d_C_change_15 (by decide) (fun c_15 => ?_) (fun c_15 => ?_)
      · refine AW.bipush X (pc := 32) (v := -2) (by decide) d_C_change_32 ?_
        exact hret 34 _ _ _ d_C_change_34 (by rw [show F_change μ nr (nI r) y d = (-2, μ) by first | (simp [F_change, hR, hcr, h5, c_15]; done) | simp +contextual [F_change, hR, hcr, h5, c_15]]; exact ⟨rfl, rfl⟩)
      · refine AW.iload_n X (pc := 18) 3 rfl rfl d_C_change_18 ?_
        refine AW.sipush X (pc := 19) (v := 999) (by decide) d_C_change_19 ?_
        refine AW.icmp_gt X (pc := 22) 32 d_C_change_22 (by decide) (fun c_22 => ?_) (fun c_22 => ?_)
        · refine AW.bipush X (pc := 32) (v := -2) (by decide) d_C_change_32 ?_
          exact hret 34 _ _ _ d_C_change_34 (by rw [show F_change μ nr (nI r) y d = (-2, μ) by first | (simp [F_change, hR, hcr, h5, c_15, c_22]; done) | simp +contextual [F_change, hR, hcr, h5, c_15, c_22]]; exact ⟨rfl, rfl⟩)
        · refine AW.iload_n X (pc := 25) 4 rfl rfl d_C_change_25 ?_
          refine AW.callS X (pc := 26) (nA := 1) [.int d] [] (c_C_isDay (kOf G ad N) d μ hN) (gv_S wm_C_75 ws_C_isDay wn_C kw_C_isDay) rfl (by decide +kernel) rfl ⟨Nat.le_of_ble_eq_true rfl, Nat.le_of_ble_eq_true rfl⟩ ⟨Nat.zero_le _, Nat.zero_le _⟩ (Nat.le_of_ble_eq_true rfl) d_C_change_26 rfl (fun v μ2 hq => ?_)
          obtain ⟨rfl, hm⟩ := hq
          rw [hm]
          clear hm
          show AW G (rmD 1) 5 (0, 0, ad, N, fb) 29 [(4, .ref (272 + 3 * r)), (0, .ref 0), (1, .int (nI r)), (2, .int y), (3, .int d)] [.int (bi (okD d))] μ
          refine AW.if_ne X (pc := 29) 35 d_C_change_29 (by decide) (fun c_29 => ?_) (fun c_29 => ?_)
          · have c_29 := bi_ne.mp c_29
            refine AW.aload X (pc := 35) 0 rfl d_C_change_35 ?_
            refine AW.iload_n X (pc := 37) 4 rfl rfl d_C_change_37 ?_
            refine AW.callV X (pc := 38) (b := 272 + 3 * r) (ci := 1) (nA := 1) [.int d] [] (c_R_isChangedFrom (kOf G ad N) r nr d μ hN hr hI hKN) (gv_V wm_C_79 wi_R_isChangedFrom wl_R_isChangedFrom wn_R kw_R_isChangedFrom) rfl (by decide +kernel) rfl (by omega) (sh_r _) rfl ⟨Nat.le_of_ble_eq_true rfl, Nat.le_of_ble_eq_true rfl⟩ ⟨Nat.zero_le _, Nat.zero_le _⟩ (Nat.le_of_ble_eq_true rfl) d_C_change_38 rfl (fun v μ2 hq => ?_)
            obtain ⟨rfl, hm⟩ := hq
            rw [hm]
            clear hm
            show AW G (rmD 1) 5 (0, 0, ad, N, fb) 41 [(4, .ref (272 + 3 * r)), (0, .ref 0), (1, .int (nI r)), (2, .int y), (3, .int d)] [.int (bi (decide (0 < ccN μ r ∧ ¬ μ (272 + 3 * r + 1) (ccN μ r - 1) < d)))] μ
            refine AW.if_eq X (pc := 41) 47 d_C_change_41 (by decide) (fun c_41 => ?_) (fun c_41 => ?_)
            · have c_41 := of_decide_eq_false (bi_eq.mp c_41)
              simp at c_41
              refine AW.aload X (pc := 47) 0 rfl d_C_change_47 ?_
              refine AW.iload_n X (pc := 49) 3 rfl rfl d_C_change_49 ?_
              refine AW.iload_n X (pc := 50) 4 rfl rfl d_C_change_50 ?_
              refine AW.callV X (pc := 51) (b := 272 + 3 * r) (ci := 1) (nA := 2) [.int y, .int d] [] (c_R_addChange (kOf G ad N) r nr y d μ hN hr hI hKN) (gv_V wm_C_82 wi_R_addChange wl_R_addChange wn_R kw_R_addChange) rfl (by decide +kernel) rfl (by omega) (sh_r _) rfl ⟨Nat.le_of_ble_eq_true rfl, Nat.le_of_ble_eq_true rfl⟩ ⟨Nat.zero_le _, Nat.zero_le _⟩ (Nat.le_of_ble_eq_true rfl) d_C_change_51 rfl (fun v μ2 hq => ?_)
              rw [if_neg h5] at hq
              obtain ⟨rfl, hm⟩ := hq
              rw [hm]
              clear hm
              show AW G (rmD 1) 5 (0, 0, ad, N, fb) 54 [(4, .ref (272 + 3 * r)), (0, .ref 0), (1, .int (nI r)), (2, .int y), (3, .int d)] [.int 0] μ
              refine AW.if_eq X (pc := 54) 61 d_C_change_54 (by decide) (fun c_54 => ?_) (fun c_54 => absurd c_54 (by decide))
              refine AW.bipush X (pc := 61) (v := -4) (by decide) d_C_change_61 ?_
              exact hret 63 _ _ _ d_C_change_63 (by rw [show F_change μ nr (nI r) y d = (-4, μ) by first | (simp [F_change, hR, hcr, h5, c_15, c_22, c_29, c_41, c_54]; done) | simp +contextual [F_change, hR, hcr, h5, c_15, c_22, c_29, c_41, c_54]]; exact ⟨rfl, rfl⟩)
            · have c_41 := of_decide_eq_true (bi_ne.mp c_41)
              refine AW.bipush X (pc := 44) (v := -3) (by decide) d_C_change_44 ?_
              exact hret 46 _ _ _ d_C_change_46 (by rw [show F_change μ nr (nI r) y d = (-3, μ) by first | (simp [F_change, hR, hcr, h5, c_15, c_22, c_29, c_41]; done) | simp +contextual [F_change, hR, hcr, h5, c_15, c_22, c_29, c_41]]; exact ⟨rfl, rfl⟩)
          · have c_29 := bi_eq.mp c_29
            refine AW.bipush X (pc := 32) (v := -2) (by decide) d_C_change_32 ?_
            exact hret 34 _ _ _ d_C_change_34 (by rw [show F_change μ nr (nI r) y d = (-2, μ) by first | (simp [F_change, hR, hcr, h5, c_15, c_22, c_29]; done) | simp +contextual [F_change, hR, hcr, h5, c_15, c_22, c_29]]; exact ⟨rfl, rfl⟩)
set_option maxHeartbeats 4000000 in
set_option maxRecDepth 100000 in
theorem c_C_breaks (K : KTy) (nr : Nat) (x : Int32) (b : Bool) (μ : Mu) (hN : 272 ≤ KN K) (hI : CI μ nr) (hKN : KN K = 272 + 3 * nr) : CT K y_C_breaks (k_C_breaks :: GT) 1 [.ref 0, .int x, .int (bi b)] μ (fun v μ2 => v = some (.int (bi (F_breaks μ nr x b).1)) ∧ μ2 = (F_breaks μ nr x b).2) := by
  refine CT.bool (cc := b_C_breaks) (maxL := 5) (by decide) rfl rfl (Nat.le_of_ble_eq_true rfl) ?_
  intro G ad N hK X hret
  subst hK
  have hN : 272 ≤ N := hN
  have hKN : N = 272 + 3 * nr := hKN
  have hnr := hI.nr
  show AW G (rmD 1) 5 (0, 0, ad, N, fb) 0 [(0, .ref 0), (1, .int x), (2, .int (bi b))] [] μ
  cases hR : okR nr x with
  | false =>
    refine AW.aload_n X (pc := 0) 0 rfl rfl d_C_breaks_0 ?_
    refine AW.iload_n X (pc := 1) 1 rfl rfl d_C_breaks_1 ?_
    refine AW.callV X (pc := 2) (b := 0) (ci := 4) (nA := 1) [.int x] [] (c_C_findRule_no (kOf G ad N) nr x μ hN hR hI hKN) (gv_V wm_C_71 wi_C_findRule wl_C_findRule wn_C kw_C_findRule) rfl (by decide +kernel) rfl (by omega) rfl rfl ⟨Nat.le_of_ble_eq_true rfl, Nat.le_of_ble_eq_true rfl⟩ ⟨Nat.zero_le _, Nat.zero_le _⟩ (Nat.le_of_ble_eq_true rfl) d_C_breaks_2 rfl (fun v μ2 hq => ?_)
    obtain ⟨rfl, hm⟩ := hq
    rw [hm]
    clear hm
    show AW G (rmD 1) 5 (0, 0, ad, N, fb) 5 [(0, .ref 0), (1, .int x), (2, .int (bi b))] [.null] μ
    refine AW.astore_nN X (pc := 5) (lv2 := [(3, .null), (0, .ref 0), (1, .int x), (2, .int (bi b))]) rfl d_C_breaks_5 (by decide) rfl ?_
    refine AW.aload_nN X (pc := 6) 0 rfl rfl d_C_breaks_6 ?_
    refine AW.ifnonnullN X (pc := 7) d_C_breaks_7 ?_
    refine AW.iconst X (pc := 10) (v := 0) (by decide) d_C_breaks_10 ?_
    exact hret 11 _ _ _ d_C_breaks_11 rfl (by rw [show F_breaks μ nr x b = (false, μ) by simp [F_breaks, hR]]; exact ⟨rfl, rfl⟩)
  | true =>
    obtain ⟨r, hr, rfl⟩ := okR_of hnr hR
    have hcr : (nI r).toNatClampNeg = r := nI_clamp (by omega)
    have hw := hr
    show AW G (rmD 1) 5 (0, 0, ad, N, fb) 0 [(0, .ref 0), (1, .int (nI r)), (2, .int (bi b))] [] μ
    refine AW.aload_n X (pc := 0) 0 rfl rfl d_C_breaks_0 ?_
    refine AW.iload_n X (pc := 1) 1 rfl rfl d_C_breaks_1 ?_
    refine AW.callV X (pc := 2) (b := 0) (ci := 4) (nA := 1) [.int (nI r)] [] (c_C_findRule (kOf G ad N) r nr μ hN hr hI hKN) (gv_V wm_C_71 wi_C_findRule wl_C_findRule wn_C kw_C_findRule) rfl (by decide +kernel) rfl (by omega) rfl rfl ⟨Nat.le_of_ble_eq_true rfl, Nat.le_of_ble_eq_true rfl⟩ ⟨Nat.zero_le _, Nat.zero_le _⟩ (Nat.le_of_ble_eq_true rfl) d_C_breaks_2 rfl (fun v μ2 hq => ?_)
    obtain ⟨rfl, hm⟩ := hq
    rw [hm]
    clear hm
    show AW G (rmD 1) 5 (0, 0, ad, N, fb) 5 [(0, .ref 0), (1, .int (nI r)), (2, .int (bi b))] [.ref (272 + 3 * r)] μ
    refine AW.astore_n X (pc := 5) (lv2 := [(3, .ref (272 + 3 * r)), (0, .ref 0), (1, .int (nI r)), (2, .int (bi b))]) rfl d_C_breaks_5 (by decide) rfl ?_
    refine AW.aload_n X (pc := 6) 0 rfl rfl d_C_breaks_6 ?_
    refine AW.ifnonnull X (pc := 7) 12 d_C_breaks_7 (by decide) ?_
    refine AW.aload_n X (pc := 12) 0 rfl rfl d_C_breaks_12 ?_
    refine AW.callV X (pc := 13) (b := 272 + 3 * r) (ci := 1) (nA := 0) [] [] (c_R_isBroken (kOf G ad N) r (brB μ r) μ hN (show 272 + 3 * r + 2 < N by omega) (hI.br hw)) (gv_V wm_C_86 wi_R_isBroken wl_R_isBroken wn_R kw_R_isBroken) rfl (by decide +kernel) rfl (by omega) (sh_r _) rfl ⟨Nat.le_of_ble_eq_true rfl, Nat.le_of_ble_eq_true rfl⟩ ⟨Nat.zero_le _, Nat.zero_le _⟩ (Nat.le_of_ble_eq_true rfl) d_C_breaks_13 rfl (fun v μ2 hq => ?_)
    obtain ⟨rfl, hm⟩ := hq
    rw [hm]
    clear hm
    show AW G (rmD 1) 5 (0, 0, ad, N, fb) 16 [(3, .ref (272 + 3 * r)), (0, .ref 0), (1, .int (nI r)), (2, .int (bi b))] [.int (bi (brB μ r))] μ
    refine AW.istore X (pc := 16) (lv2 := [(4, .int (bi (brB μ r))), (3, .ref (272 + 3 * r)), (0, .ref 0), (1, .int (nI r)), (2, .int (bi b))]) d_C_breaks_16 (by decide) rfl ?_
    refine AW.aload_n X (pc := 18) 1 rfl rfl d_C_breaks_18 ?_
    refine AW.iload_n X (pc := 19) 4 rfl rfl d_C_breaks_19 ?_
    refine AW.callV X (pc := 20) (b := 272 + 3 * r) (ci := 1) (nA := 1) [.int (bi b)] [] (c_R_setBroken (kOf G ad N) r b μ hN (show 272 + 3 * r + 2 < N by omega)) (gv_V wm_C_89 wi_R_setBroken wl_R_setBroken wn_R kw_R_setBroken) rfl (by decide +kernel) rfl (by omega) (sh_r _) rfl ⟨Nat.le_of_ble_eq_true rfl, Nat.le_of_ble_eq_true rfl⟩ ⟨Nat.zero_le _, Nat.zero_le _⟩ (Nat.le_of_ble_eq_true rfl) d_C_breaks_20 rfl (fun v μ2 hq => ?_)
    obtain ⟨rfl, hm⟩ := hq
    rw [hm]
    clear hm
    show AW G (rmD 1) 5 (0, 0, ad, N, fb) 23 [(4, .int (bi (brB μ r))), (3, .ref (272 + 3 * r)), (0, .ref 0), (1, .int (nI r)), (2, .int (bi b))] [] (m_up μ (272 + 3 * r) 6 (bi b))
    refine AW.iload X (pc := 23) 0 rfl d_C_breaks_23 ?_
    exact hret 25 _ _ _ d_C_breaks_25 (bi_nar _) (by rw [show F_breaks μ nr (nI r) b = (brB μ r, (m_up μ (272 + 3 * r) 6 (bi b))) by simp [F_breaks, hR, hcr]]; exact ⟨rfl, rfl⟩)
set_option maxHeartbeats 4000000 in
set_option maxRecDepth 100000 in
theorem c_C_schedule (K : KTy) (nr : Nat) (u x : Int32) (μ : Mu) (hN : 272 ≤ KN K) (hI : CI μ nr) (hKN : KN K = 272 + 3 * nr) : CT K y_C_schedule (k_C_schedule :: GT) 2 [.ref 0, .int u, .int x] μ (fun v μ2 => v = some (.int (F_schedule μ nr u x).1) ∧ μ2 = (F_schedule μ nr u x).2) := by
  refine CT.int (cc := b_C_schedule) (maxL := 5) (by decide) rfl rfl (Nat.le_of_ble_eq_true rfl) ?_
  intro G ad N hK X hret
  subst hK
  have hN : 272 ≤ N := hN
  have hKN : N = 272 + 3 * nr := hKN
  have hnr := hI.nr
  show AW G (rmD 2) 5 (0, 0, ad, N, fb) 0 [(0, .ref 0), (1, .int u), (2, .int x)] [] μ
  cases hU : okU u with
  | false =>
    cases hR : okR nr x with
    | false =>
      show AW G (rmD 2) 5 (0, 0, ad, N, fb) 0 [(0, .ref 0), (1, .int u), (2, .int x)] [] μ
      refine AW.aload_n X (pc := 0) 0 rfl rfl d_C_schedule_0 ?_
      refine AW.iload_n X (pc := 1) 1 rfl rfl d_C_schedule_1 ?_
      refine AW.callV X (pc := 2) (b := 0) (ci := 4) (nA := 1) [.int u] [] (c_C_findUnit_no (kOf G ad N) u μ hN hU) (gv_V wm_C_93 wi_C_findUnit wl_C_findUnit wn_C kw_C_findUnit) rfl (by decide +kernel) rfl (by omega) rfl rfl ⟨Nat.le_of_ble_eq_true rfl, Nat.le_of_ble_eq_true rfl⟩ ⟨Nat.zero_le _, Nat.zero_le _⟩ (Nat.le_of_ble_eq_true rfl) d_C_schedule_2 rfl (fun v μ2 hq => ?_)
      obtain ⟨rfl, hm⟩ := hq
      rw [hm]
      clear hm
      show AW G (rmD 2) 5 (0, 0, ad, N, fb) 5 [(0, .ref 0), (1, .int u), (2, .int x)] [.null] μ
      refine AW.astore_nN X (pc := 5) (lv2 := [(3, .null), (0, .ref 0), (1, .int u), (2, .int x)]) rfl d_C_schedule_5 (by decide) rfl ?_
      refine AW.aload_n X (pc := 6) 1 rfl rfl d_C_schedule_6 ?_
      refine AW.iload_n X (pc := 7) 3 rfl rfl d_C_schedule_7 ?_
      refine AW.callV X (pc := 8) (b := 0) (ci := 4) (nA := 1) [.int x] [] (c_C_findRule_no (kOf G ad N) nr x μ hN hR hI hKN) (gv_V wm_C_71 wi_C_findRule wl_C_findRule wn_C kw_C_findRule) rfl (by decide +kernel) rfl (by omega) rfl rfl ⟨Nat.le_of_ble_eq_true rfl, Nat.le_of_ble_eq_true rfl⟩ ⟨Nat.zero_le _, Nat.zero_le _⟩ (Nat.le_of_ble_eq_true rfl) d_C_schedule_8 rfl (fun v μ2 hq => ?_)
      obtain ⟨rfl, hm⟩ := hq
      rw [hm]
      clear hm
      show AW G (rmD 2) 5 (0, 0, ad, N, fb) 11 [(3, .null), (0, .ref 0), (1, .int u), (2, .int x)] [.null] μ
      refine AW.astoreN X (pc := 11) (lv2 := [(4, .null), (3, .null), (0, .ref 0), (1, .int u), (2, .int x)]) d_C_schedule_11 (by decide) rfl ?_
      refine AW.aload_nN X (pc := 13) 1 rfl rfl d_C_schedule_13 ?_
      refine AW.ifnullN X (pc := 14) 22 d_C_schedule_14 (by decide) ?_
      refine AW.iconst X (pc := 22) (v := -1) (by decide) d_C_schedule_22 ?_
      exact hret 23 _ _ _ d_C_schedule_23 (by rw [show F_schedule μ nr u x = (-1, μ) by simp [F_schedule, hU, hR]]; exact ⟨rfl, rfl⟩)
    | true =>
      obtain ⟨r, hr, rfl⟩ := okR_of hnr hR
      have hcr : (nI r).toNatClampNeg = r := nI_clamp (by omega)
      show AW G (rmD 2) 5 (0, 0, ad, N, fb) 0 [(0, .ref 0), (1, .int u), (2, .int (nI r))] [] μ
      refine AW.aload_n X (pc := 0) 0 rfl rfl d_C_schedule_0 ?_
      refine AW.iload_n X (pc := 1) 1 rfl rfl d_C_schedule_1 ?_
      refine AW.callV X (pc := 2) (b := 0) (ci := 4) (nA := 1) [.int u] [] (c_C_findUnit_no (kOf G ad N) u μ hN hU) (gv_V wm_C_93 wi_C_findUnit wl_C_findUnit wn_C kw_C_findUnit) rfl (by decide +kernel) rfl (by omega) rfl rfl ⟨Nat.le_of_ble_eq_true rfl, Nat.le_of_ble_eq_true rfl⟩ ⟨Nat.zero_le _, Nat.zero_le _⟩ (Nat.le_of_ble_eq_true rfl) d_C_schedule_2 rfl (fun v μ2 hq => ?_)
      obtain ⟨rfl, hm⟩ := hq
      rw [hm]
      clear hm
      show AW G (rmD 2) 5 (0, 0, ad, N, fb) 5 [(0, .ref 0), (1, .int u), (2, .int (nI r))] [.null] μ
      refine AW.astore_nN X (pc := 5) (lv2 := [(3, .null), (0, .ref 0), (1, .int u), (2, .int (nI r))]) rfl d_C_schedule_5 (by decide) rfl ?_
      refine AW.aload_n X (pc := 6) 1 rfl rfl d_C_schedule_6 ?_
      refine AW.iload_n X (pc := 7) 3 rfl rfl d_C_schedule_7 ?_
      refine AW.callV X (pc := 8) (b := 0) (ci := 4) (nA := 1) [.int (nI r)] [] (c_C_findRule (kOf G ad N) r nr μ hN hr hI hKN) (gv_V wm_C_71 wi_C_findRule wl_C_findRule wn_C kw_C_findRule) rfl (by decide +kernel) rfl (by omega) rfl rfl ⟨Nat.le_of_ble_eq_true rfl, Nat.le_of_ble_eq_true rfl⟩ ⟨Nat.zero_le _, Nat.zero_le _⟩ (Nat.le_of_ble_eq_true rfl) d_C_schedule_8 rfl (fun v μ2 hq => ?_)
      obtain ⟨rfl, hm⟩ := hq
      rw [hm]
      clear hm
      show AW G (rmD 2) 5 (0, 0, ad, N, fb) 11 [(3, .null), (0, .ref 0), (1, .int u), (2, .int (nI r))] [.ref (272 + 3 * r)] μ
      refine AW.astore X (pc := 11) (lv2 := [(4, .ref (272 + 3 * r)), (3, .null), (0, .ref 0), (1, .int u), (2, .int (nI r))]) d_C_schedule_11 (by decide) rfl ?_
      refine AW.aload_nN X (pc := 13) 1 rfl rfl d_C_schedule_13 ?_
      refine AW.ifnullN X (pc := 14) 22 d_C_schedule_14 (by decide) ?_
      refine AW.iconst X (pc := 22) (v := -1) (by decide) d_C_schedule_22 ?_
      exact hret 23 _ _ _ d_C_schedule_23 (by rw [show F_schedule μ nr u (nI r) = (-1, μ) by simp [F_schedule, hU, hR, hcr]]; exact ⟨rfl, rfl⟩)
  | true =>
    obtain ⟨i, hi, rfl⟩ := okU_of hU
    have hci : (nI i).toNatClampNeg = i := nI_clamp (by omega)
    have hrn := (hI.rn hi).2
    cases hR : okR nr x with
    | false =>
      show AW G (rmD 2) 5 (0, 0, ad, N, fb) 0 [(0, .ref 0), (1, .int (nI i)), (2, .int x)] [] μ
      refine AW.aload_n X (pc := 0) 0 rfl rfl d_C_schedule_0 ?_
      refine AW.iload_n X (pc := 1) 1 rfl rfl d_C_schedule_1 ?_
      refine AW.callV X (pc := 2) (b := 0) (ci := 4) (nA := 1) [.int (nI i)] [] (c_C_findUnit (kOf G ad N) i nr μ hN hi hI hKN) (gv_V wm_C_93 wi_C_findUnit wl_C_findUnit wn_C kw_C_findUnit) rfl (by decide +kernel) rfl (by omega) rfl rfl ⟨Nat.le_of_ble_eq_true rfl, Nat.le_of_ble_eq_true rfl⟩ ⟨Nat.zero_le _, Nat.zero_le _⟩ (Nat.le_of_ble_eq_true rfl) d_C_schedule_2 rfl (fun v μ2 hq => ?_)
      obtain ⟨rfl, hm⟩ := hq
      rw [hm]
      clear hm
      show AW G (rmD 2) 5 (0, 0, ad, N, fb) 5 [(0, .ref 0), (1, .int (nI i)), (2, .int x)] [.ref (5 + 4 * i)] μ
      refine AW.astore_n X (pc := 5) (lv2 := [(3, .ref (5 + 4 * i)), (0, .ref 0), (1, .int (nI i)), (2, .int x)]) rfl d_C_schedule_5 (by decide) rfl ?_
      refine AW.aload_n X (pc := 6) 1 rfl rfl d_C_schedule_6 ?_
      refine AW.iload_n X (pc := 7) 3 rfl rfl d_C_schedule_7 ?_
      refine AW.callV X (pc := 8) (b := 0) (ci := 4) (nA := 1) [.int x] [] (c_C_findRule_no (kOf G ad N) nr x μ hN hR hI hKN) (gv_V wm_C_71 wi_C_findRule wl_C_findRule wn_C kw_C_findRule) rfl (by decide +kernel) rfl (by omega) rfl rfl ⟨Nat.le_of_ble_eq_true rfl, Nat.le_of_ble_eq_true rfl⟩ ⟨Nat.zero_le _, Nat.zero_le _⟩ (Nat.le_of_ble_eq_true rfl) d_C_schedule_8 rfl (fun v μ2 hq => ?_)
      obtain ⟨rfl, hm⟩ := hq
      rw [hm]
      clear hm
      show AW G (rmD 2) 5 (0, 0, ad, N, fb) 11 [(3, .ref (5 + 4 * i)), (0, .ref 0), (1, .int (nI i)), (2, .int x)] [.null] μ
      refine AW.astoreN X (pc := 11) (lv2 := [(4, .null), (3, .ref (5 + 4 * i)), (0, .ref 0), (1, .int (nI i)), (2, .int x)]) d_C_schedule_11 (by decide) rfl ?_
      refine AW.aload_n X (pc := 13) 1 rfl rfl d_C_schedule_13 ?_
      refine AW.ifnull X (pc := 14) d_C_schedule_14 ?_
      refine AW.aloadN X (pc := 17) 0 rfl d_C_schedule_17 ?_
      refine AW.ifnonnullN X (pc := 19) d_C_schedule_19 ?_
      refine AW.iconst X (pc := 22) (v := -1) (by decide) d_C_schedule_22 ?_
      exact hret 23 _ _ _ d_C_schedule_23 (by rw [show F_schedule μ nr (nI i) x = (-1, μ) by simp [F_schedule, hU, hR, hci]]; exact ⟨rfl, rfl⟩)
    | true =>
      obtain ⟨r, hr, rfl⟩ := okR_of hnr hR
      have hcr : (nI r).toNatClampNeg = r := nI_clamp (by omega)
      show AW G (rmD 2) 5 (0, 0, ad, N, fb) 0 [(0, .ref 0), (1, .int (nI i)), (2, .int (nI r))] [] μ
      by_cases h4 : rnN μ i < 4
      · refine AW.aload_n X (pc := 0) 0 rfl rfl d_C_schedule_0 ?_
        refine AW.iload_n X (pc := 1) 1 rfl rfl d_C_schedule_1 ?_
        refine AW.callV X (pc := 2) (b := 0) (ci := 4) (nA := 1) [.int (nI i)] [] (c_C_findUnit (kOf G ad N) i nr μ hN hi hI hKN) (gv_V wm_C_93 wi_C_findUnit wl_C_findUnit wn_C kw_C_findUnit) rfl (by decide +kernel) rfl (by omega) rfl rfl ⟨Nat.le_of_ble_eq_true rfl, Nat.le_of_ble_eq_true rfl⟩ ⟨Nat.zero_le _, Nat.zero_le _⟩ (Nat.le_of_ble_eq_true rfl) d_C_schedule_2 rfl (fun v μ2 hq => ?_)
        obtain ⟨rfl, hm⟩ := hq
        rw [hm]
        clear hm
        show AW G (rmD 2) 5 (0, 0, ad, N, fb) 5 [(0, .ref 0), (1, .int (nI i)), (2, .int (nI r))] [.ref (5 + 4 * i)] μ
        refine AW.astore_n X (pc := 5) (lv2 := [(3, .ref (5 + 4 * i)), (0, .ref 0), (1, .int (nI i)), (2, .int (nI r))]) rfl d_C_schedule_5 (by decide) rfl ?_
        refine AW.aload_n X (pc := 6) 1 rfl rfl d_C_schedule_6 ?_
        refine AW.iload_n X (pc := 7) 3 rfl rfl d_C_schedule_7 ?_
        refine AW.callV X (pc := 8) (b := 0) (ci := 4) (nA := 1) [.int (nI r)] [] (c_C_findRule (kOf G ad N) r nr μ hN hr hI hKN) (gv_V wm_C_71 wi_C_findRule wl_C_findRule wn_C kw_C_findRule) rfl (by decide +kernel) rfl (by omega) rfl rfl ⟨Nat.le_of_ble_eq_true rfl, Nat.le_of_ble_eq_true rfl⟩ ⟨Nat.zero_le _, Nat.zero_le _⟩ (Nat.le_of_ble_eq_true rfl) d_C_schedule_8 rfl (fun v μ2 hq => ?_)
        obtain ⟨rfl, hm⟩ := hq
        rw [hm]
        clear hm
        show AW G (rmD 2) 5 (0, 0, ad, N, fb) 11 [(3, .ref (5 + 4 * i)), (0, .ref 0), (1, .int (nI i)), (2, .int (nI r))] [.ref (272 + 3 * r)] μ
        refine AW.astore X (pc := 11) (lv2 := [(4, .ref (272 + 3 * r)), (3, .ref (5 + 4 * i)), (0, .ref 0), (1, .int (nI i)), (2, .int (nI r))]) d_C_schedule_11 (by decide) rfl ?_
        refine AW.aload_n X (pc := 13) 1 rfl rfl d_C_schedule_13 ?_
        refine AW.ifnull X (pc := 14) d_C_schedule_14 ?_
        refine AW.aload X (pc := 17) 0 rfl d_C_schedule_17 ?_
        refine AW.ifnonnull X (pc := 19) 24 d_C_schedule_19 (by decide) ?_
        refine AW.aload_n X (pc := 24) 1 rfl rfl d_C_schedule_24 ?_
        refine AW.callV X (pc := 25) (b := 5 + 4 * i) (ci := 3) (nA := 0) [] [] (c_U_isDisposed (kOf G ad N) i μ hN hi) (gv_V wm_C_97 wi_U_isDisposed wl_U_isDisposed wn_U kw_U_isDisposed) rfl (by decide +kernel) rfl (by omega) (sh_u hi) rfl ⟨Nat.le_of_ble_eq_true rfl, Nat.le_of_ble_eq_true rfl⟩ ⟨Nat.zero_le _, Nat.zero_le _⟩ (Nat.le_of_ble_eq_true rfl) d_C_schedule_25 rfl (fun v μ2 hq => ?_)
        obtain ⟨rfl, hm⟩ := hq
        rw [hm]
        clear hm
        show AW G (rmD 2) 5 (0, 0, ad, N, fb) 28 [(4, .ref (272 + 3 * r)), (3, .ref (5 + 4 * i)), (0, .ref 0), (1, .int (nI i)), (2, .int (nI r))] [.int (bi (decide (¬ μ (5 + 4 * i) 7 = -1)))] μ
        refine AW.if_ne X (pc := 28) 40 d_C_schedule_28 (by decide) (fun c_28 => ?_) (fun c_28 => ?_)
        · have c_28 := of_decide_eq_true (bi_ne.mp c_28)
          refine AW.bipush X (pc := 40) (v := -3) (by decide) d_C_schedule_40 ?_
          exact hret 42 _ _ _ d_C_schedule_42 (by rw [show F_schedule μ nr (nI i) (nI r) = (-3, μ) by simp [F_schedule, hU, hR, hci, hcr, h4, c_28]]; exact ⟨rfl, rfl⟩)
        · have c_28 := Decidable.not_not.mp (of_decide_eq_false (bi_eq.mp c_28))
          refine AW.aload_n X (pc := 31) 1 rfl rfl d_C_schedule_31 ?_
          refine AW.aload X (pc := 32) 0 rfl d_C_schedule_32 ?_
          refine AW.callV X (pc := 34) (b := 5 + 4 * i) (ci := 3) (nA := 1) [.ref (272 + 3 * r)] [] (c_U_hasRule (kOf G ad N) i r nr μ hN hi hr hI hKN) (gv_V wm_C_104 wi_U_hasRule wl_U_hasRule wn_U kw_U_hasRule) rfl (by decide +kernel) rfl (by omega) (sh_u hi) rfl ⟨Nat.le_of_ble_eq_true rfl, Nat.le_of_ble_eq_true rfl⟩ ⟨Nat.zero_le _, Nat.zero_le _⟩ (Nat.le_of_ble_eq_true rfl) d_C_schedule_34 rfl (fun v μ2 hq => ?_)
          obtain ⟨rfl, hm⟩ := hq
          rw [hm]
          clear hm
          show AW G (rmD 2) 5 (0, 0, ad, N, fb) 37 [(4, .ref (272 + 3 * r)), (3, .ref (5 + 4 * i)), (0, .ref 0), (1, .int (nI i)), (2, .int (nI r))] [.int (bi (anyB (fun j => decide (rwN μ i j = r)) (rnN μ i)))] μ
          refine AW.if_eq X (pc := 37) 43 d_C_schedule_37 (by decide) (fun c_37 => ?_) (fun c_37 => ?_)
          · have c_37 := bi_eq.mp c_37
            refine AW.aload_n X (pc := 43) 1 rfl rfl d_C_schedule_43 ?_
            refine AW.aload X (pc := 44) 0 rfl d_C_schedule_44 ?_
            refine AW.callV X (pc := 46) (b := 5 + 4 * i) (ci := 3) (nA := 1) [.ref (272 + 3 * r)] [] (c_U_addRule (kOf G ad N) i r nr μ hN hi hr hI hKN) (gv_V wm_C_108 wi_U_addRule wl_U_addRule wn_U kw_U_addRule) rfl (by decide +kernel) rfl (by omega) (sh_u hi) rfl ⟨Nat.le_of_ble_eq_true rfl, Nat.le_of_ble_eq_true rfl⟩ ⟨Nat.zero_le _, Nat.zero_le _⟩ (Nat.le_of_ble_eq_true rfl) d_C_schedule_46 rfl (fun v μ2 hq => ?_)
            rw [if_pos h4] at hq
            obtain ⟨rfl, hm⟩ := hq
            rw [hm]
            clear hm
            show AW G (rmD 2) 5 (0, 0, ad, N, fb) 49 [(4, .ref (272 + 3 * r)), (3, .ref (5 + 4 * i)), (0, .ref 0), (1, .int (nI i)), (2, .int (nI r))] [.int 1] (m_up (m_up (m_up μ (5 + 4 * i + 2) (rnN μ i) (nI (272 + 3 * r + 1))) (5 + 4 * i) 2 (nI (rnN μ i) + 1)) (5 + 4 * i) 5 0)
            refine AW.if_eq X (pc := 49) 59 d_C_schedule_49 (by decide) (fun c_49 => absurd c_49 (by decide)) (fun c_49 => ?_)
            refine AW.aload_n X (pc := 52) 1 rfl rfl d_C_schedule_52 ?_
            refine AW.callV X (pc := 53) (b := 5 + 4 * i) (ci := 3) (nA := 0) [] [] (c_U_ruleCount (kOf G ad N) i (m_up (m_up (m_up μ (5 + 4 * i + 2) (rnN μ i) (nI (272 + 3 * r + 1))) (5 + 4 * i) 2 (nI (rnN μ i) + 1)) (5 + 4 * i) 5 0) hN hi) (gv_V wm_C_111 wi_U_ruleCount wl_U_ruleCount wn_U kw_U_ruleCount) rfl (by decide +kernel) rfl (by omega) (sh_u hi) rfl ⟨Nat.le_of_ble_eq_true rfl, Nat.le_of_ble_eq_true rfl⟩ ⟨Nat.zero_le _, Nat.zero_le _⟩ (Nat.le_of_ble_eq_true rfl) d_C_schedule_53 rfl (fun v μ2 hq => ?_)
            obtain ⟨rfl, hm⟩ := hq
            rw [hm]
            clear hm
            show AW G (rmD 2) 5 (0, 0, ad, N, fb) 56 [(4, .ref (272 + 3 * r)), (3, .ref (5 + 4 * i)), (0, .ref 0), (1, .int (nI i)), (2, .int (nI r))] [.int ((m_up (m_up (m_up μ (5 + 4 * i + 2) (rnN μ i) (nI (272 + 3 * r + 1))) (5 + 4 * i) 2 (nI (rnN μ i) + 1)) (5 + 4 * i) 5 0) (5 + 4 * i) 2)] (m_up (m_up (m_up μ (5 + 4 * i + 2) (rnN μ i) (nI (272 + 3 * r + 1))) (5 + 4 * i) 2 (nI (rnN μ i) + 1)) (5 + 4 * i) 5 0)
            refine AW.goto X (pc := 56) 61 d_C_schedule_56 (by decide) ?_
            rw [show (m_up (m_up (m_up μ (5 + 4 * i + 2) (rnN μ i) (nI (272 + 3 * r + 1))) (5 + 4 * i) 2 (nI (rnN μ i) + 1)) (5 + 4 * i) 5 0) (5 + 4 * i) 2 = nI (rnN μ i) + 1 by rw [m_up_ne (by omega), m_up_self]]
            exact hret 61 _ _ _ d_C_schedule_61 (by rw [show F_schedule μ nr (nI i) (nI r) = (nI (rnN μ i) + 1, (m_up (m_up (m_up μ (5 + 4 * i + 2) (rnN μ i) (nI (272 + 3 * r + 1))) (5 + 4 * i) 2 (nI (rnN μ i) + 1)) (5 + 4 * i) 5 0)) by simp [F_schedule, hU, hR, hci, hcr, h4, c_28, c_37, c_49]]; exact ⟨rfl, rfl⟩)
          · have c_37 := bi_ne.mp c_37
            refine AW.bipush X (pc := 40) (v := -3) (by decide) d_C_schedule_40 ?_
            exact hret 42 _ _ _ d_C_schedule_42 (by rw [show F_schedule μ nr (nI i) (nI r) = (-3, μ) by simp [F_schedule, hU, hR, hci, hcr, h4, c_28, c_37]]; exact ⟨rfl, rfl⟩)
      · refine AW.aload_n X (pc := 0) 0 rfl rfl d_C_schedule_0 ?_
        refine AW.iload_n X (pc := 1) 1 rfl rfl d_C_schedule_1 ?_
        refine AW.callV X (pc := 2) (b := 0) (ci := 4) (nA := 1) [.int (nI i)] [] (c_C_findUnit (kOf G ad N) i nr μ hN hi hI hKN) (gv_V wm_C_93 wi_C_findUnit wl_C_findUnit wn_C kw_C_findUnit) rfl (by decide +kernel) rfl (by omega) rfl rfl ⟨Nat.le_of_ble_eq_true rfl, Nat.le_of_ble_eq_true rfl⟩ ⟨Nat.zero_le _, Nat.zero_le _⟩ (Nat.le_of_ble_eq_true rfl) d_C_schedule_2 rfl (fun v μ2 hq => ?_)
        obtain ⟨rfl, hm⟩ := hq
        rw [hm]
        clear hm
        show AW G (rmD 2) 5 (0, 0, ad, N, fb) 5 [(0, .ref 0), (1, .int (nI i)), (2, .int (nI r))] [.ref (5 + 4 * i)] μ
        refine AW.astore_n X (pc := 5) (lv2 := [(3, .ref (5 + 4 * i)), (0, .ref 0), (1, .int (nI i)), (2, .int (nI r))]) rfl d_C_schedule_5 (by decide) rfl ?_
        refine AW.aload_n X (pc := 6) 1 rfl rfl d_C_schedule_6 ?_
        refine AW.iload_n X (pc := 7) 3 rfl rfl d_C_schedule_7 ?_
        refine AW.callV X (pc := 8) (b := 0) (ci := 4) (nA := 1) [.int (nI r)] [] (c_C_findRule (kOf G ad N) r nr μ hN hr hI hKN) (gv_V wm_C_71 wi_C_findRule wl_C_findRule wn_C kw_C_findRule) rfl (by decide +kernel) rfl (by omega) rfl rfl ⟨Nat.le_of_ble_eq_true rfl, Nat.le_of_ble_eq_true rfl⟩ ⟨Nat.zero_le _, Nat.zero_le _⟩ (Nat.le_of_ble_eq_true rfl) d_C_schedule_8 rfl (fun v μ2 hq => ?_)
        obtain ⟨rfl, hm⟩ := hq
        rw [hm]
        clear hm
        show AW G (rmD 2) 5 (0, 0, ad, N, fb) 11 [(3, .ref (5 + 4 * i)), (0, .ref 0), (1, .int (nI i)), (2, .int (nI r))] [.ref (272 + 3 * r)] μ
        refine AW.astore X (pc := 11) (lv2 := [(4, .ref (272 + 3 * r)), (3, .ref (5 + 4 * i)), (0, .ref 0), (1, .int (nI i)), (2, .int (nI r))]) d_C_schedule_11 (by decide) rfl ?_
        refine AW.aload_n X (pc := 13) 1 rfl rfl d_C_schedule_13 ?_
        refine AW.ifnull X (pc := 14) d_C_schedule_14 ?_
        refine AW.aload X (pc := 17) 0 rfl d_C_schedule_17 ?_
        refine AW.ifnonnull X (pc := 19) 24 d_C_schedule_19 (by decide) ?_
        refine AW.aload_n X (pc := 24) 1 rfl rfl d_C_schedule_24 ?_
        refine AW.callV X (pc := 25) (b := 5 + 4 * i) (ci := 3) (nA := 0) [] [] (c_U_isDisposed (kOf G ad N) i μ hN hi) (gv_V wm_C_97 wi_U_isDisposed wl_U_isDisposed wn_U kw_U_isDisposed) rfl (by decide +kernel) rfl (by omega) (sh_u hi) rfl ⟨Nat.le_of_ble_eq_true rfl, Nat.le_of_ble_eq_true rfl⟩ ⟨Nat.zero_le _, Nat.zero_le _⟩ (Nat.le_of_ble_eq_true rfl) d_C_schedule_25 rfl (fun v μ2 hq => ?_)
        obtain ⟨rfl, hm⟩ := hq
        rw [hm]
        clear hm
        show AW G (rmD 2) 5 (0, 0, ad, N, fb) 28 [(4, .ref (272 + 3 * r)), (3, .ref (5 + 4 * i)), (0, .ref 0), (1, .int (nI i)), (2, .int (nI r))] [.int (bi (decide (¬ μ (5 + 4 * i) 7 = -1)))] μ
        refine AW.if_ne X (pc := 28) 40 d_C_schedule_28 (by decide) (fun c_28 => ?_) (fun c_28 => ?_)
        · have c_28 := of_decide_eq_true (bi_ne.mp c_28)
          refine AW.bipush X (pc := 40) (v := -3) (by decide) d_C_schedule_40 ?_
          exact hret 42 _ _ _ d_C_schedule_42 (by rw [show F_schedule μ nr (nI i) (nI r) = (-3, μ) by simp [F_schedule, hU, hR, hci, hcr, h4, c_28]]; exact ⟨rfl, rfl⟩)
        · have c_28 := Decidable.not_not.mp (of_decide_eq_false (bi_eq.mp c_28))
          refine AW.aload_n X (pc := 31) 1 rfl rfl d_C_schedule_31 ?_
          refine AW.aload X (pc := 32) 0 rfl d_C_schedule_32 ?_
          refine AW.callV X (pc := 34) (b := 5 + 4 * i) (ci := 3) (nA := 1) [.ref (272 + 3 * r)] [] (c_U_hasRule (kOf G ad N) i r nr μ hN hi hr hI hKN) (gv_V wm_C_104 wi_U_hasRule wl_U_hasRule wn_U kw_U_hasRule) rfl (by decide +kernel) rfl (by omega) (sh_u hi) rfl ⟨Nat.le_of_ble_eq_true rfl, Nat.le_of_ble_eq_true rfl⟩ ⟨Nat.zero_le _, Nat.zero_le _⟩ (Nat.le_of_ble_eq_true rfl) d_C_schedule_34 rfl (fun v μ2 hq => ?_)
          obtain ⟨rfl, hm⟩ := hq
          rw [hm]
          clear hm
          show AW G (rmD 2) 5 (0, 0, ad, N, fb) 37 [(4, .ref (272 + 3 * r)), (3, .ref (5 + 4 * i)), (0, .ref 0), (1, .int (nI i)), (2, .int (nI r))] [.int (bi (anyB (fun j => decide (rwN μ i j = r)) (rnN μ i)))] μ
          refine AW.if_eq X (pc := 37) 43 d_C_schedule_37 (by decide) (fun c_37 => ?_) (fun c_37 => ?_)
          · have c_37 := bi_eq.mp c_37
            refine AW.aload_n X (pc := 43) 1 rfl rfl d_C_schedule_43 ?_
            refine AW.aload X (pc := 44) 0 rfl d_C_schedule_44 ?_
            refine AW.callV X (pc := 46) (b := 5 + 4 * i) (ci := 3) (nA := 1) [.ref (272 + 3 * r)] [] (c_U_addRule (kOf G ad N) i r nr μ hN hi hr hI hKN) (gv_V wm_C_108 wi_U_addRule wl_U_addRule wn_U kw_U_addRule) rfl (by decide +kernel) rfl (by omega) (sh_u hi) rfl ⟨Nat.le_of_ble_eq_true rfl, Nat.le_of_ble_eq_true rfl⟩ ⟨Nat.zero_le _, Nat.zero_le _⟩ (Nat.le_of_ble_eq_true rfl) d_C_schedule_46 rfl (fun v μ2 hq => ?_)
            rw [if_neg h4] at hq
            obtain ⟨rfl, hm⟩ := hq
            rw [hm]
            clear hm
            show AW G (rmD 2) 5 (0, 0, ad, N, fb) 49 [(4, .ref (272 + 3 * r)), (3, .ref (5 + 4 * i)), (0, .ref 0), (1, .int (nI i)), (2, .int (nI r))] [.int 0] μ
            refine AW.if_eq X (pc := 49) 59 d_C_schedule_49 (by decide) (fun c_49 => ?_) (fun c_49 => absurd c_49 (by decide))
            refine AW.bipush X (pc := 59) (v := -4) (by decide) d_C_schedule_59 ?_
            exact hret 61 _ _ _ d_C_schedule_61 (by rw [show F_schedule μ nr (nI i) (nI r) = (-4, μ) by simp [F_schedule, hU, hR, hci, hcr, h4, c_28, c_37, c_49]]; exact ⟨rfl, rfl⟩)
          · have c_37 := bi_ne.mp c_37
            refine AW.bipush X (pc := 40) (v := -3) (by decide) d_C_schedule_40 ?_
            exact hret 42 _ _ _ d_C_schedule_42 (by rw [show F_schedule μ nr (nI i) (nI r) = (-3, μ) by simp [F_schedule, hU, hR, hci, hcr, h4, c_28, c_37]]; exact ⟨rfl, rfl⟩)
end
section
def collectM (μ : Mu) (c : Int32) : Mu := if tlN μ < 40 then m_up (m_up μ 2 (tlN μ) (c &&& 255)) 1 1 (nI (tlN μ) + 1) else μ
def f_told (μ : Mu) (j : Nat) (w : Int32) : Int32 := if w = 0 then μ 246 j else if w = 1 then μ 247 j else μ 248 j
theorem i_dec (n : Nat) : nI (n + 1) + Int32.ofInt (-1) = nI n := by
  rw [show Int32.ofInt (-1) = (-1 : Int32) by decide]
  exact pk_m1 n
end
section
set_option maxHeartbeats 4000000 in
set_option maxRecDepth 100000 in
theorem c_C_isCertificateMissing (K : KTy) (nr : Nat) (μ : Mu) (hN : 272 ≤ KN K) (hI : CI μ nr) (hKN : KN K = 272 + 3 * nr) : CT K y_C_isCertificateMissing (k_C_isCertificateMissing :: GT) 1 [.ref 0] μ (fun v μ2 => v = some (.int (bi (f_cm μ))) ∧ μ2 = μ) := by
  refine CT.bool (cc := b_C_isCertificateMissing) (maxL := 3) (by decide) rfl rfl (Nat.le_of_ble_eq_true rfl) ?_
  intro G ad N hK X hret
  subst hK
  have hN : 272 ≤ N := hN
  have hKN : N = 272 + 3 * nr := hKN
  have hnr := hI.nr
  show AW G (rmD 1) 3 (0, 0, ad, N, fb) 0 [(0, .ref 0)] [] μ
  have hdn := hI.dn.2
  rcases Nat.eq_zero_or_pos (dnN μ) with h0 | h0
  · refine AW.aload_n X (pc := 0) 0 rfl rfl d_C_isCertificateMissing_0 ?_
    refine AW.get X (pc := 1) (k := 0) (ci := 4) (j := 6) (v := .int (μ 0 6)) (by omega) rfl rfl in_C (by decide) wf_C_191 rfl rfl d_C_isCertificateMissing_1 ?_
    refine AW.val (w := .int 0) (congrArg Value.int (hI.dn.1.trans (by rw [h0] <;> exact nI_0))) ?_
    refine AW.iconst X (pc := 4) (v := 1) (by decide) d_C_isCertificateMissing_4 ?_
    refine AW.isub X (pc := 5) d_C_isCertificateMissing_5 ?_
    refine AW.istore_n X (pc := 6) (lv2 := [(1, .int (0 - 1)), (0, .ref 0)]) rfl d_C_isCertificateMissing_6 (by decide) rfl ?_
    refine AW.iload_n X (pc := 7) 0 rfl rfl d_C_isCertificateMissing_7 ?_
    refine AW.if_lt X (pc := 8) 20 d_C_isCertificateMissing_8 (by decide) (fun c_8 => ?_) (fun c_8 => absurd c_8 (by decide))
    refine AW.iconst X (pc := 20) (v := 0) (by decide) d_C_isCertificateMissing_20 ?_
    exact hret 21 _ _ _ d_C_isCertificateMissing_21 rfl ⟨by simp [bi, f_cm, h0], rfl⟩
  · have hi := (hI.di (show dnN μ - 1 < dnN μ by omega)).2
    refine AW.aload_n X (pc := 0) 0 rfl rfl d_C_isCertificateMissing_0 ?_
    refine AW.get X (pc := 1) (k := 0) (ci := 4) (j := 6) (v := .int (μ 0 6)) (by omega) rfl rfl in_C (by decide) wf_C_191 rfl rfl d_C_isCertificateMissing_1 ?_
    refine AW.val (w := .int (nI (dnN μ))) (congrArg Value.int (hI.dn.1)) ?_
    refine AW.iconst X (pc := 4) (v := 1) (by decide) d_C_isCertificateMissing_4 ?_
    refine AW.isub X (pc := 5) d_C_isCertificateMissing_5 ?_
    refine AW.val (congrArg Value.int (show nI (dnN μ) - 1 = nI (dnN μ - 1) from pk_sub (b := 1) h0)) ?_
    refine AW.istore_n X (pc := 6) (lv2 := [(1, .int (nI (dnN μ - 1))), (0, .ref 0)]) rfl d_C_isCertificateMissing_6 (by decide) rfl ?_
    refine AW.iload_n X (pc := 7) 0 rfl rfl d_C_isCertificateMissing_7 ?_
    refine AW.if_lt X (pc := 8) 20 d_C_isCertificateMissing_8 (by decide) (fun c_8 => absurd c_8 (by rw [i_lt (nI_toInt (show dnN μ - 1 < 2 ^ 31 by omega)) (show (0 : Int32).toInt = 0 by decide)]; omega)) (fun c_8 => ?_)
    refine AW.iload_n X (pc := 11) 0 rfl rfl d_C_isCertificateMissing_11 ?_
    refine AW.aload_n X (pc := 12) 1 rfl rfl d_C_isCertificateMissing_12 ?_
    refine AW.get X (pc := 13) (k := 0) (ci := 4) (j := 5) (v := .ref 249) (by omega) rfl rfl in_C (by decide) wf_C_36 rfl rfl d_C_isCertificateMissing_13 ?_
    refine AW.alen X (pc := 16) (k := 249) (t := 0) (n := 60) (kd := 0) (v := 60) (by omega) rfl rfl (by decide) d_C_isCertificateMissing_16 ?_
    refine AW.icmp_lt X (pc := 17) 22 d_C_isCertificateMissing_17 (by decide) (fun c_17 => ?_) (fun c_17 => absurd c_17 (by rw [i_lt (nI_toInt (show dnN μ - 1 < 2 ^ 31 by omega)) (show (60 : Int32).toInt = 60 by decide)]; omega))
    refine AW.aload_n X (pc := 22) 1 rfl rfl d_C_isCertificateMissing_22 ?_
    refine AW.aload_n X (pc := 23) 1 rfl rfl d_C_isCertificateMissing_23 ?_
    refine AW.get X (pc := 24) (k := 0) (ci := 4) (j := 5) (v := .ref 249) (by omega) rfl rfl in_C (by decide) wf_C_36 rfl rfl d_C_isCertificateMissing_24 ?_
    refine AW.iload_n X (pc := 27) 0 rfl rfl d_C_isCertificateMissing_27 ?_
    refine AW.ialdN X (pc := 28) (k := 249) (t := 0) (n := 60) (j := dnN μ - 1) (by omega) rfl rfl (by omega) (by decide) d_C_isCertificateMissing_28 ?_
    refine AW.val (congrArg Value.int (hI.di (show dnN μ - 1 < dnN μ by omega)).1) ?_
    refine AW.callV X (pc := 29) (b := 0) (ci := 4) (nA := 1) [.int (nI (diN μ (dnN μ - 1)))] [] (c_C_findUnit (kOf G ad N) (diN μ (dnN μ - 1)) nr μ hN hi hI hKN) (gv_V wm_C_93 wi_C_findUnit wl_C_findUnit wn_C kw_C_findUnit) rfl (by decide +kernel) rfl (by omega) rfl rfl ⟨Nat.le_of_ble_eq_true rfl, Nat.le_of_ble_eq_true rfl⟩ ⟨Nat.zero_le _, Nat.zero_le _⟩ (Nat.le_of_ble_eq_true rfl) d_C_isCertificateMissing_29 rfl (fun v μ2 hq => ?_)
    obtain ⟨rfl, hm⟩ := hq
    rw [hm]
    clear hm
    show AW G (rmD 1) 3 (0, 0, ad, N, fb) 32 [(1, .int (nI (dnN μ - 1))), (0, .ref 0)] [.ref (5 + 4 * (diN μ (dnN μ - 1)))] μ
    refine AW.astore_n X (pc := 32) (lv2 := [(2, .ref (5 + 4 * (diN μ (dnN μ - 1)))), (1, .int (nI (dnN μ - 1))), (0, .ref 0)]) rfl d_C_isCertificateMissing_32 (by decide) rfl ?_
    refine AW.aload_n X (pc := 33) 0 rfl rfl d_C_isCertificateMissing_33 ?_
    refine AW.ifnull X (pc := 34) d_C_isCertificateMissing_34 ?_
    refine AW.aload_n X (pc := 37) 0 rfl rfl d_C_isCertificateMissing_37 ?_
    refine AW.callV X (pc := 38) (b := 5 + 4 * (diN μ (dnN μ - 1))) (ci := 3) (nA := 0) [] [] (c_U_hasCertificate (kOf G ad N) (diN μ (dnN μ - 1)) μ hN hi) (gv_V wm_C_176 wi_U_hasCertificate wl_U_hasCertificate wn_U kw_U_hasCertificate) rfl (by decide +kernel) rfl (by omega) (sh_u hi) rfl ⟨Nat.le_of_ble_eq_true rfl, Nat.le_of_ble_eq_true rfl⟩ ⟨Nat.zero_le _, Nat.zero_le _⟩ (Nat.le_of_ble_eq_true rfl) d_C_isCertificateMissing_38 rfl (fun v μ2 hq => ?_)
    obtain ⟨rfl, hm⟩ := hq
    rw [hm]
    clear hm
    show AW G (rmD 1) 3 (0, 0, ad, N, fb) 41 [(2, .ref (5 + 4 * (diN μ (dnN μ - 1)))), (1, .int (nI (dnN μ - 1))), (0, .ref 0)] [.int (bi (decide (¬ μ (5 + 4 * (diN μ (dnN μ - 1))) 8 = -1)))] μ
    refine AW.if_ne X (pc := 41) 48 d_C_isCertificateMissing_41 (by decide) (fun c_41 => ?_) (fun c_41 => ?_)
    · have c_41 := of_decide_eq_true (bi_ne.mp c_41)
      refine AW.iconst X (pc := 48) (v := 0) (by decide) d_C_isCertificateMissing_48 ?_
      exact hret 49 _ _ _ d_C_isCertificateMissing_49 rfl ⟨by simp [bi, f_cm, h0, c_41], rfl⟩
    · have c_41 := Decidable.not_not.mp (of_decide_eq_false (bi_eq.mp c_41))
      refine AW.iconst X (pc := 44) (v := 1) (by decide) d_C_isCertificateMissing_44 ?_
      refine AW.goto X (pc := 45) 49 d_C_isCertificateMissing_45 (by decide) ?_
      exact hret 49 _ _ _ d_C_isCertificateMissing_49 rfl ⟨by simp [bi, f_cm, h0, c_41], rfl⟩
set_option maxHeartbeats 4000000 in
set_option maxRecDepth 100000 in
theorem c_C_obstacleTo (K : KTy) (i nr : Nat) (how dd : Int32) (μ : Mu) (hN : 272 ≤ KN K) (hi : i < 60) (hI : CI μ nr) (hKN : KN K = 272 + 3 * nr) : CT K y_C_obstacleTo (k_C_obstacleTo :: GT) 5 [.ref 0, .ref (5 + 4 * i), .int how, .int dd] μ (fun v μ2 => v = some (.int (f_obst μ i how dd)) ∧ μ2 = μ) := by
  refine CT.int (cc := b_C_obstacleTo) (maxL := 4) (by decide) rfl rfl (Nat.le_of_ble_eq_true rfl) ?_
  intro G ad N hK X hret
  subst hK
  have hN : 272 ≤ N := hN
  have hKN : N = 272 + 3 * nr := hKN
  have hnr := hI.nr
  show AW G (rmD 5) 4 (0, 0, ad, N, fb) 0 [(0, .ref 0), (1, .ref (5 + 4 * i)), (2, .int how), (3, .int dd)] [] μ
  refine AW.aload_n X (pc := 0) 1 rfl rfl d_C_obstacleTo_0 ?_
  refine AW.callV X (pc := 1) (b := 5 + 4 * i) (ci := 3) (nA := 0) [] [] (c_U_isDisposed (kOf G ad N) i μ hN hi) (gv_V wm_C_97 wi_U_isDisposed wl_U_isDisposed wn_U kw_U_isDisposed) rfl (by decide +kernel) rfl (by omega) (sh_u hi) rfl ⟨Nat.le_of_ble_eq_true rfl, Nat.le_of_ble_eq_true rfl⟩ ⟨Nat.zero_le _, Nat.zero_le _⟩ (Nat.le_of_ble_eq_true rfl) d_C_obstacleTo_1 rfl (fun v μ2 hq => ?_)
  obtain ⟨rfl, hm⟩ := hq
  rw [hm]
  clear hm
  show AW G (rmD 5) 4 (0, 0, ad, N, fb) 4 [(0, .ref 0), (1, .ref (5 + 4 * i)), (2, .int how), (3, .int dd)] [.int (bi (decide (¬ μ (5 + 4 * i) 7 = -1)))] μ
  refine AW.if_eq X (pc := 4) 9 d_C_obstacleTo_4 (by decide) (fun c_4 => ?_) (fun c_4 => ?_)
  · have c_4 := Decidable.not_not.mp (of_decide_eq_false (bi_eq.mp c_4))
    refine AW.aload_n X (pc := 9) 0 rfl rfl d_C_obstacleTo_9 ?_
    refine AW.callV X (pc := 10) (b := 0) (ci := 4) (nA := 0) [] [] (c_C_isCertificateMissing (kOf G ad N) nr μ hN hI hKN) (gv_V wm_C_196 wi_C_isCertificateMissing wl_C_isCertificateMissing wn_C kw_C_isCertificateMissing) rfl (by decide +kernel) rfl (by omega) rfl rfl ⟨Nat.le_of_ble_eq_true rfl, Nat.le_of_ble_eq_true rfl⟩ ⟨Nat.zero_le _, Nat.zero_le _⟩ (Nat.le_of_ble_eq_true rfl) d_C_obstacleTo_10 rfl (fun v μ2 hq => ?_)
    obtain ⟨rfl, hm⟩ := hq
    rw [hm]
    clear hm
    show AW G (rmD 5) 4 (0, 0, ad, N, fb) 13 [(0, .ref 0), (1, .ref (5 + 4 * i)), (2, .int how), (3, .int dd)] [.int (bi (f_cm μ))] μ
    refine AW.if_eq X (pc := 13) 18 d_C_obstacleTo_13 (by decide) (fun c_13 => ?_) (fun c_13 => ?_)
    · have c_13 := bi_eq.mp c_13
      refine AW.aload_n X (pc := 18) 1 rfl rfl d_C_obstacleTo_18 ?_
      refine AW.callV X (pc := 19) (b := 5 + 4 * i) (ci := 3) (nA := 0) [] [] (c_U_hasBrokenRule (kOf G ad N) i nr μ hN hi hI hKN) (gv_V wm_C_119 wi_U_hasBrokenRule wl_U_hasBrokenRule wn_U kw_U_hasBrokenRule) rfl (by decide +kernel) rfl (by omega) (sh_u hi) rfl ⟨Nat.le_of_ble_eq_true rfl, Nat.le_of_ble_eq_true rfl⟩ ⟨Nat.zero_le _, Nat.zero_le _⟩ (Nat.le_of_ble_eq_true rfl) d_C_obstacleTo_19 rfl (fun v μ2 hq => ?_)
      obtain ⟨rfl, hm⟩ := hq
      rw [hm]
      clear hm
      show AW G (rmD 5) 4 (0, 0, ad, N, fb) 22 [(0, .ref 0), (1, .ref (5 + 4 * i)), (2, .int how), (3, .int dd)] [.int (bi (f_fails μ i))] μ
      refine AW.if_eq X (pc := 22) 27 d_C_obstacleTo_22 (by decide) (fun c_22 => ?_) (fun c_22 => ?_)
      · have c_22 := bi_eq.mp c_22
        refine AW.aload_n X (pc := 27) 1 rfl rfl d_C_obstacleTo_27 ?_
        refine AW.iload_n X (pc := 28) 3 rfl rfl d_C_obstacleTo_28 ?_
        refine AW.callV X (pc := 29) (b := 5 + 4 * i) (ci := 3) (nA := 1) [.int dd] [] (c_U_isDue (kOf G ad N) i nr dd μ hN hi hI hKN) (gv_V wm_C_127 wi_U_isDue wl_U_isDue wn_U kw_U_isDue) rfl (by decide +kernel) rfl (by omega) (sh_u hi) rfl ⟨Nat.le_of_ble_eq_true rfl, Nat.le_of_ble_eq_true rfl⟩ ⟨Nat.zero_le _, Nat.zero_le _⟩ (Nat.le_of_ble_eq_true rfl) d_C_obstacleTo_29 rfl (fun v μ2 hq => ?_)
        obtain ⟨rfl, hm⟩ := hq
        rw [hm]
        clear hm
        show AW G (rmD 5) 4 (0, 0, ad, N, fb) 32 [(0, .ref 0), (1, .ref (5 + 4 * i)), (2, .int how), (3, .int dd)] [.int (bi (f_isDue μ i dd))] μ
        refine AW.if_ne X (pc := 32) 37 d_C_obstacleTo_32 (by decide) (fun c_32 => ?_) (fun c_32 => ?_)
        · have c_32 := bi_ne.mp c_32
          refine AW.aload_n X (pc := 37) 1 rfl rfl d_C_obstacleTo_37 ?_
          refine AW.iload_n X (pc := 38) 3 rfl rfl d_C_obstacleTo_38 ?_
          refine AW.callV X (pc := 39) (b := 5 + 4 * i) (ci := 3) (nA := 1) [.int dd] [] (c_U_isHeld (kOf G ad N) i dd μ hN hi) (gv_V wm_C_199 wi_U_isHeld wl_U_isHeld wn_U kw_U_isHeld) rfl (by decide +kernel) rfl (by omega) (sh_u hi) rfl ⟨Nat.le_of_ble_eq_true rfl, Nat.le_of_ble_eq_true rfl⟩ ⟨Nat.zero_le _, Nat.zero_le _⟩ (Nat.le_of_ble_eq_true rfl) d_C_obstacleTo_39 rfl (fun v μ2 hq => ?_)
          obtain ⟨rfl, hm⟩ := hq
          rw [hm]
          clear hm
          show AW G (rmD 5) 4 (0, 0, ad, N, fb) 42 [(0, .ref 0), (1, .ref (5 + 4 * i)), (2, .int how), (3, .int dd)] [.int (bi (f_held μ i dd))] μ
          refine AW.if_eq X (pc := 42) 47 d_C_obstacleTo_42 (by decide) (fun c_42 => ?_) (fun c_42 => ?_)
          · have c_42 := bi_eq.mp c_42
            refine AW.aload_n X (pc := 47) 1 rfl rfl d_C_obstacleTo_47 ?_
            refine AW.callV X (pc := 48) (b := 5 + 4 * i) (ci := 3) (nA := 0) [] [] (c_U_isApproved (kOf G ad N) i μ hN hi) (gv_V wm_C_153 wi_U_isApproved wl_U_isApproved wn_U kw_U_isApproved) rfl (by decide +kernel) rfl (by omega) (sh_u hi) rfl ⟨Nat.le_of_ble_eq_true rfl, Nat.le_of_ble_eq_true rfl⟩ ⟨Nat.zero_le _, Nat.zero_le _⟩ (Nat.le_of_ble_eq_true rfl) d_C_obstacleTo_48 rfl (fun v μ2 hq => ?_)
            obtain ⟨rfl, hm⟩ := hq
            rw [hm]
            clear hm
            show AW G (rmD 5) 4 (0, 0, ad, N, fb) 51 [(0, .ref 0), (1, .ref (5 + 4 * i)), (2, .int how), (3, .int dd)] [.int (bi (decide (2 ≤ μ (5 + 4 * i) 5)))] μ
            refine AW.if_ne X (pc := 51) 57 d_C_obstacleTo_51 (by decide) (fun c_51 => ?_) (fun c_51 => ?_)
            · have c_51 := of_decide_eq_true (bi_ne.mp c_51)
              refine AW.aload_n X (pc := 57) 1 rfl rfl d_C_obstacleTo_57 ?_
              refine AW.iload_n X (pc := 58) 3 rfl rfl d_C_obstacleTo_58 ?_
              refine AW.callV X (pc := 59) (b := 5 + 4 * i) (ci := 3) (nA := 1) [.int dd] [] (c_U_dueAction (kOf G ad N) i nr dd μ hN hi hI hKN) (gv_V wm_C_130 wi_U_dueAction wl_U_dueAction wn_U kw_U_dueAction) rfl (by decide +kernel) rfl (by omega) (sh_u hi) rfl ⟨Nat.le_of_ble_eq_true rfl, Nat.le_of_ble_eq_true rfl⟩ ⟨Nat.zero_le _, Nat.zero_le _⟩ (Nat.le_of_ble_eq_true rfl) d_C_obstacleTo_59 rfl (fun v μ2 hq => ?_)
              obtain ⟨rfl, hm⟩ := hq
              rw [hm]
              clear hm
              show AW G (rmD 5) 4 (0, 0, ad, N, fb) 62 [(0, .ref 0), (1, .ref (5 + 4 * i)), (2, .int how), (3, .int dd)] [.int (f_dueAction μ i dd)] μ
              refine AW.iload_n X (pc := 62) 2 rfl rfl d_C_obstacleTo_62 ?_
              refine AW.icmp_ne X (pc := 63) 70 d_C_obstacleTo_63 (by decide) (fun c_63 => ?_) (fun c_63 => ?_)
              · refine AW.bipush X (pc := 70) (v := 7) (by decide) d_C_obstacleTo_70 ?_
                exact hret 72 _ _ _ d_C_obstacleTo_72 ⟨by rw [show f_obst μ i how dd = 7 by simp [f_obst, c_4, c_13, c_22, c_32, c_42, c_51, c_63]], rfl⟩
              · refine AW.iconst X (pc := 66) (v := 0) (by decide) d_C_obstacleTo_66 ?_
                refine AW.goto X (pc := 67) 72 d_C_obstacleTo_67 (by decide) ?_
                exact hret 72 _ _ _ d_C_obstacleTo_72 ⟨by rw [show f_obst μ i how dd = 0 by simp [f_obst, c_4, c_13, c_22, c_32, c_42, c_51, c_63]], rfl⟩
            · have c_51 := of_decide_eq_false (bi_eq.mp c_51)
              refine AW.bipush X (pc := 54) (v := 6) (by decide) d_C_obstacleTo_54 ?_
              exact hret 56 _ _ _ d_C_obstacleTo_56 ⟨by rw [show f_obst μ i how dd = 6 by simp [f_obst, c_4, c_13, c_22, c_32, c_42, c_51]], rfl⟩
          · have c_42 := bi_ne.mp c_42
            refine AW.iconst X (pc := 45) (v := 5) (by decide) d_C_obstacleTo_45 ?_
            exact hret 46 _ _ _ d_C_obstacleTo_46 ⟨by rw [show f_obst μ i how dd = 5 by simp [f_obst, c_4, c_13, c_22, c_32, c_42]], rfl⟩
        · have c_32 := bi_eq.mp c_32
          refine AW.iconst X (pc := 35) (v := 4) (by decide) d_C_obstacleTo_35 ?_
          exact hret 36 _ _ _ d_C_obstacleTo_36 ⟨by rw [show f_obst μ i how dd = 4 by simp [f_obst, c_4, c_13, c_22, c_32]], rfl⟩
      · have c_22 := bi_ne.mp c_22
        refine AW.iconst X (pc := 25) (v := 3) (by decide) d_C_obstacleTo_25 ?_
        exact hret 26 _ _ _ d_C_obstacleTo_26 ⟨by rw [show f_obst μ i how dd = 3 by simp [f_obst, c_4, c_13, c_22]], rfl⟩
    · have c_13 := bi_ne.mp c_13
      refine AW.iconst X (pc := 16) (v := 2) (by decide) d_C_obstacleTo_16 ?_
      exact hret 17 _ _ _ d_C_obstacleTo_17 ⟨by rw [show f_obst μ i how dd = 2 by simp [f_obst, c_4, c_13]], rfl⟩
  · have c_4 := of_decide_eq_true (bi_ne.mp c_4)
    refine AW.iconst X (pc := 7) (v := 1) (by decide) d_C_obstacleTo_7 ?_
    exact hret 8 _ _ _ d_C_obstacleTo_8 ⟨by rw [show f_obst μ i how dd = 1 by simp [f_obst, c_4]], rfl⟩
set_option maxHeartbeats 4000000 in
set_option maxRecDepth 100000 in
theorem c_C_keepDisposed (K : KTy) (n : Nat) (u : Int32) (μ : Mu) (hN : 272 ≤ KN K) (hn : μ 0 6 = nI n) (hn6 : n ≤ 60) : CT K y_C_keepDisposed (k_C_keepDisposed :: GT) 0 [.ref 0, .int u] μ (fun v μ2 => v = none ∧ μ2 = keepD μ n u) := by
  refine CT.void (cc := b_C_keepDisposed) (maxL := 2) (by decide) rfl rfl (Nat.le_of_ble_eq_true rfl) ?_
  intro G ad N hK X hret
  subst hK
  have hN : 272 ≤ N := hN
  show AW G (rmD 0) 2 (0, 0, ad, N, fb) 0 [(0, .ref 0), (1, .int u)] [] μ
  refine AW.aload_n X (pc := 0) 0 rfl rfl d_C_keepDisposed_0 ?_
  refine AW.get X (pc := 1) (k := 0) (ci := 4) (j := 6) (v := .int (μ 0 6)) (by omega) rfl rfl in_C (by decide) wf_C_191 rfl rfl d_C_keepDisposed_1 ?_
  refine AW.val (w := .int (nI n)) (congrArg Value.int (hn)) ?_
  refine AW.if_lt X (pc := 4) 39 d_C_keepDisposed_4 (by decide) (fun c_4 => absurd c_4 (by rw [i_lt (nI_toInt (show n < 2 ^ 31 by omega)) (show (0 : Int32).toInt = 0 by decide)]; omega)) (fun c_4 => ?_)
  refine AW.aload_n X (pc := 7) 0 rfl rfl d_C_keepDisposed_7 ?_
  refine AW.get X (pc := 8) (k := 0) (ci := 4) (j := 6) (v := .int (μ 0 6)) (by omega) rfl rfl in_C (by decide) wf_C_191 rfl rfl d_C_keepDisposed_8 ?_
  refine AW.val (w := .int (nI n)) (congrArg Value.int (hn)) ?_
  refine AW.aload_n X (pc := 11) 0 rfl rfl d_C_keepDisposed_11 ?_
  refine AW.get X (pc := 12) (k := 0) (ci := 4) (j := 5) (v := .ref 249) (by omega) rfl rfl in_C (by decide) wf_C_36 rfl rfl d_C_keepDisposed_12 ?_
  refine AW.alen X (pc := 15) (k := 249) (t := 0) (n := 60) (kd := 0) (v := 60) (by omega) rfl rfl (by decide) d_C_keepDisposed_15 ?_
  refine AW.icmp_ge X (pc := 16) 39 d_C_keepDisposed_16 (by decide) (fun c_16 => ?_) (fun c_16 => ?_)
  · rw [i_le (show (60 : Int32).toInt = 60 by decide) (nI_toInt (show n < 2 ^ 31 by omega))] at c_16
    have c_16 : ¬ n < 60 := by omega
    exact hret 39 _ _ d_C_keepDisposed_39 ⟨rfl, by rw [keepD]; first | (rw [if_pos c_16]; done) | rw [if_neg c_16]⟩
  · rw [i_le (show (60 : Int32).toInt = 60 by decide) (nI_toInt (show n < 2 ^ 31 by omega))] at c_16
    have c_16 : n < 60 := by omega
    refine AW.aload_n X (pc := 19) 0 rfl rfl d_C_keepDisposed_19 ?_
    refine AW.get X (pc := 20) (k := 0) (ci := 4) (j := 5) (v := .ref 249) (by omega) rfl rfl in_C (by decide) wf_C_36 rfl rfl d_C_keepDisposed_20 ?_
    refine AW.aload_n X (pc := 23) 0 rfl rfl d_C_keepDisposed_23 ?_
    refine AW.get X (pc := 24) (k := 0) (ci := 4) (j := 6) (v := .int (μ 0 6)) (by omega) rfl rfl in_C (by decide) wf_C_191 rfl rfl d_C_keepDisposed_24 ?_
    refine AW.val (w := .int (nI n)) (congrArg Value.int (hn)) ?_
    refine AW.iload_n X (pc := 27) 1 rfl rfl d_C_keepDisposed_27 ?_
    refine AW.iastN X (pc := 28) (k := 249) (t := 0) (n := 60) (j := n) (x := u) (by omega) rfl rfl (by omega) (by decide) d_C_keepDisposed_28 ?_
    refine AW.aload_n X (pc := 29) 0 rfl rfl d_C_keepDisposed_29 ?_
    refine AW.dup X (pc := 30) rfl d_C_keepDisposed_30 ?_
    refine AW.get X (pc := 31) (k := 0) (ci := 4) (j := 6) (v := .int ((m_up μ 249 n u) 0 6)) (by omega) rfl rfl in_C (by decide) wf_C_191 rfl rfl d_C_keepDisposed_31 ?_
    refine AW.val (w := .int (nI n)) (congrArg Value.int ((m_up_ne (by omega)).trans hn)) ?_
    refine AW.iconst X (pc := 34) (v := 1) (by decide) d_C_keepDisposed_34 ?_
    refine AW.iadd X (pc := 35) d_C_keepDisposed_35 ?_
    refine AW.put X (pc := 36) (k := 0) (ci := 4) (j := 6) (x := (nI n) + 1) (ty := .int) ft_C (by omega) rfl rfl in_C ft_C_ok n_C (by decide) wf_C_191 rfl rfl rfl rfl rfl d_C_keepDisposed_36 ?_
    exact hret 39 _ _ d_C_keepDisposed_39 ⟨rfl, by rw [keepD]; first | (rw [if_pos c_16]; done) | rw [if_neg c_16]⟩
set_option maxHeartbeats 4000000 in
set_option maxRecDepth 100000 in
theorem c_C_dispose (K : KTy) (nr : Nat) (u how d : Int32) (μ : Mu) (hN : 272 ≤ KN K) (hI : CI μ nr) (hKN : KN K = 272 + 3 * nr) : CT K y_C_dispose (k_C_dispose :: GT) 6 [.ref 0, .int u, .int how, .int d] μ (fun v μ2 => v = some (.int (F_dispose μ u how d).1) ∧ μ2 = (F_dispose μ u how d).2) := by
  refine CT.int (cc := b_C_dispose) (maxL := 6) (by decide) rfl rfl (Nat.le_of_ble_eq_true rfl) ?_
  intro G ad N hK X hret
  subst hK
  have hN : 272 ≤ N := hN
  have hKN : N = 272 + 3 * nr := hKN
  have hnr := hI.nr
  show AW G (rmD 6) 6 (0, 0, ad, N, fb) 0 [(0, .ref 0), (1, .int u), (2, .int how), (3, .int d)] [] μ
  cases hU : okU u with
  | false =>
    refine AW.aload_n X (pc := 0) 0 rfl rfl d_C_dispose_0 ?_
    refine AW.iload_n X (pc := 1) 1 rfl rfl d_C_dispose_1 ?_
    refine AW.callV X (pc := 2) (b := 0) (ci := 4) (nA := 1) [.int u] [] (c_C_findUnit_no (kOf G ad N) u μ hN hU) (gv_V wm_C_93 wi_C_findUnit wl_C_findUnit wn_C kw_C_findUnit) rfl (by decide +kernel) rfl (by omega) rfl rfl ⟨Nat.le_of_ble_eq_true rfl, Nat.le_of_ble_eq_true rfl⟩ ⟨Nat.zero_le _, Nat.zero_le _⟩ (Nat.le_of_ble_eq_true rfl) d_C_dispose_2 rfl (fun v μ2 hq => ?_)
    obtain ⟨rfl, hm⟩ := hq
    rw [hm]
    clear hm
    show AW G (rmD 6) 6 (0, 0, ad, N, fb) 5 [(0, .ref 0), (1, .int u), (2, .int how), (3, .int d)] [.null] μ
    refine AW.astoreN X (pc := 5) (lv2 := [(4, .null), (0, .ref 0), (1, .int u), (2, .int how), (3, .int d)]) d_C_dispose_5 (by decide) rfl ?_
    refine AW.aloadN X (pc := 7) 0 rfl d_C_dispose_7 ?_
    refine AW.ifnonnullN X (pc := 9) d_C_dispose_9 ?_
    refine AW.iconst X (pc := 12) (v := -1) (by decide) d_C_dispose_12 ?_
    exact hret 13 _ _ _ d_C_dispose_13 (by rw [show F_dispose μ u how d = (-1, μ) by first | (simp [F_dispose, hU]; done) | simp +contextual [F_dispose, hU]]; exact ⟨rfl, rfl⟩)
  | true =>
    obtain ⟨i, hi, rfl⟩ := okU_of hU
    have hci : (nI i).toNatClampNeg = i := nI_clamp (by omega)
    show AW G (rmD 6) 6 (0, 0, ad, N, fb) 0 [(0, .ref 0), (1, .int (nI i)), (2, .int how), (3, .int d)] [] μ
    refine AW.aload_n X (pc := 0) 0 rfl rfl d_C_dispose_0 ?_
    refine AW.iload_n X (pc := 1) 1 rfl rfl d_C_dispose_1 ?_
    refine AW.callV X (pc := 2) (b := 0) (ci := 4) (nA := 1) [.int (nI i)] [] (c_C_findUnit (kOf G ad N) i nr μ hN hi hI hKN) (gv_V wm_C_93 wi_C_findUnit wl_C_findUnit wn_C kw_C_findUnit) rfl (by decide +kernel) rfl (by omega) rfl rfl ⟨Nat.le_of_ble_eq_true rfl, Nat.le_of_ble_eq_true rfl⟩ ⟨Nat.zero_le _, Nat.zero_le _⟩ (Nat.le_of_ble_eq_true rfl) d_C_dispose_2 rfl (fun v μ2 hq => ?_)
    obtain ⟨rfl, hm⟩ := hq
    rw [hm]
    clear hm
    show AW G (rmD 6) 6 (0, 0, ad, N, fb) 5 [(0, .ref 0), (1, .int (nI i)), (2, .int how), (3, .int d)] [.ref (5 + 4 * i)] μ
    refine AW.astore X (pc := 5) (lv2 := [(4, .ref (5 + 4 * i)), (0, .ref 0), (1, .int (nI i)), (2, .int how), (3, .int d)]) d_C_dispose_5 (by decide) rfl ?_
    refine AW.aload X (pc := 7) 0 rfl d_C_dispose_7 ?_
    refine AW.ifnonnull X (pc := 9) 14 d_C_dispose_9 (by decide) ?_
    refine AW.iload_n X (pc := 14) 3 rfl rfl d_C_dispose_14 ?_
    refine AW.if_eq X (pc := 15) 23 d_C_dispose_15 (by decide) (fun c_15 => ?_) (fun c_15 => ?_)
    · refine AW.iload_n X (pc := 23) 4 rfl rfl d_C_dispose_23 ?_
      refine AW.callS X (pc := 24) (nA := 1) [.int d] [] (c_C_isDay (kOf G ad N) d μ hN) (gv_S wm_C_75 ws_C_isDay wn_C kw_C_isDay) rfl (by decide +kernel) rfl ⟨Nat.le_of_ble_eq_true rfl, Nat.le_of_ble_eq_true rfl⟩ ⟨Nat.zero_le _, Nat.zero_le _⟩ (Nat.le_of_ble_eq_true rfl) d_C_dispose_24 rfl (fun v μ2 hq => ?_)
      obtain ⟨rfl, hm⟩ := hq
      rw [hm]
      clear hm
      show AW G (rmD 6) 6 (0, 0, ad, N, fb) 27 [(4, .ref (5 + 4 * i)), (0, .ref 0), (1, .int (nI i)), (2, .int how), (3, .int d)] [.int (bi (okD d))] μ
      refine AW.if_ne X (pc := 27) 33 d_C_dispose_27 (by decide) (fun c_27 => ?_) (fun c_27 => ?_)
      · have c_27 := bi_ne.mp c_27
        refine AW.aload_n X (pc := 33) 1 rfl rfl d_C_dispose_33 ?_
        refine AW.aload X (pc := 34) 0 rfl d_C_dispose_34 ?_
        refine AW.iload_n X (pc := 36) 3 rfl rfl d_C_dispose_36 ?_
        refine AW.iload_n X (pc := 37) 4 rfl rfl d_C_dispose_37 ?_
        refine AW.callV X (pc := 38) (b := 0) (ci := 4) (nA := 3) [.ref (5 + 4 * i), .int how, .int d] [] (c_C_obstacleTo (kOf G ad N) i nr how d μ hN hi hI hKN) (gv_V wm_C_165 wi_C_obstacleTo wl_C_obstacleTo wn_C kw_C_obstacleTo) rfl (by decide +kernel) rfl (by omega) rfl rfl ⟨Nat.le_of_ble_eq_true rfl, Nat.le_of_ble_eq_true rfl⟩ ⟨Nat.zero_le _, Nat.zero_le _⟩ (Nat.le_of_ble_eq_true rfl) d_C_dispose_38 rfl (fun v μ2 hq => ?_)
        obtain ⟨rfl, hm⟩ := hq
        rw [hm]
        clear hm
        show AW G (rmD 6) 6 (0, 0, ad, N, fb) 41 [(4, .ref (5 + 4 * i)), (0, .ref 0), (1, .int (nI i)), (2, .int how), (3, .int d)] [.int (f_obst μ i how d)] μ
        refine AW.istore X (pc := 41) (lv2 := [(5, .int (f_obst μ i how d)), (4, .ref (5 + 4 * i)), (0, .ref 0), (1, .int (nI i)), (2, .int how), (3, .int d)]) d_C_dispose_41 (by decide) rfl ?_
        refine AW.iload X (pc := 43) 0 rfl d_C_dispose_43 ?_
        refine AW.if_eq X (pc := 45) 54 d_C_dispose_45 (by decide) (fun c_45 => ?_) (fun c_45 => ?_)
        · refine AW.aload X (pc := 54) 1 rfl d_C_dispose_54 ?_
          refine AW.iload_n X (pc := 56) 5 rfl rfl d_C_dispose_56 ?_
          refine AW.callV X (pc := 57) (b := 5 + 4 * i) (ci := 3) (nA := 1) [.int d] [] (c_U_setDisposed (kOf G ad N) i d μ hN hi) (gv_V wm_C_169 wi_U_setDisposed wl_U_setDisposed wn_U kw_U_setDisposed) rfl (by decide +kernel) rfl (by omega) (sh_u hi) rfl ⟨Nat.le_of_ble_eq_true rfl, Nat.le_of_ble_eq_true rfl⟩ ⟨Nat.zero_le _, Nat.zero_le _⟩ (Nat.le_of_ble_eq_true rfl) d_C_dispose_57 rfl (fun v μ2 hq => ?_)
          obtain ⟨rfl, hm⟩ := hq
          rw [hm]
          clear hm
          show AW G (rmD 6) 6 (0, 0, ad, N, fb) 60 [(5, .int (f_obst μ i how d)), (4, .ref (5 + 4 * i)), (0, .ref 0), (1, .int (nI i)), (2, .int how), (3, .int d)] [] (m_up μ (5 + 4 * i) 7 d)
          refine AW.aload_n X (pc := 60) 2 rfl rfl d_C_dispose_60 ?_
          refine AW.iload_n X (pc := 61) 3 rfl rfl d_C_dispose_61 ?_
          refine AW.callV X (pc := 62) (b := 0) (ci := 4) (nA := 1) [.int (nI i)] [] (c_C_keepDisposed (kOf G ad N) (dnN μ) (nI i) (m_up μ (5 + 4 * i) 7 d) hN ((m_up_ne (by omega)).trans hI.dn.1) hI.dn.2) (gv_V wm_C_172 wi_C_keepDisposed wl_C_keepDisposed wn_C kw_C_keepDisposed) rfl (by decide +kernel) rfl (by omega) rfl rfl ⟨Nat.le_of_ble_eq_true rfl, Nat.le_of_ble_eq_true rfl⟩ ⟨Nat.zero_le _, Nat.zero_le _⟩ (Nat.le_of_ble_eq_true rfl) d_C_dispose_62 rfl (fun v μ2 hq => ?_)
          obtain ⟨rfl, hm⟩ := hq
          rw [hm]
          clear hm
          show AW G (rmD 6) 6 (0, 0, ad, N, fb) 65 [(5, .int (f_obst μ i how d)), (4, .ref (5 + 4 * i)), (0, .ref 0), (1, .int (nI i)), (2, .int how), (3, .int d)] [] (keepD (m_up μ (5 + 4 * i) 7 d) (dnN μ) (nI i))
          refine AW.iconst X (pc := 65) (v := 1) (by decide) d_C_dispose_65 ?_
          exact hret 66 _ _ _ d_C_dispose_66 (by rw [show F_dispose μ (nI i) how d = (1, (keepD (m_up μ (5 + 4 * i) 7 d) (dnN μ) (nI i))) by first | (simp [F_dispose, hU, hci, eq_true c_15, c_27, c_45]; done) | simp +contextual [F_dispose, hU, hci, eq_true c_15, c_27, c_45]]; exact ⟨rfl, rfl⟩)
        · refine AW.bipush X (pc := 48) (v := -10) (by decide) d_C_dispose_48 ?_
          refine AW.iload X (pc := 50) 0 rfl d_C_dispose_50 ?_
          refine AW.isub X (pc := 52) d_C_dispose_52 ?_
          exact hret 53 _ _ _ d_C_dispose_53 (by rw [show F_dispose μ (nI i) how d = ((-10) - (f_obst μ i how d), μ) by first | (simp [F_dispose, hU, hci, eq_true c_15, c_27, c_45]; done) | simp +contextual [F_dispose, hU, hci, eq_true c_15, c_27, c_45]]; exact ⟨rfl, rfl⟩)
      · have c_27 := bi_eq.mp c_27
        refine AW.bipush X (pc := 30) (v := -2) (by decide) d_C_dispose_30 ?_
        exact hret 32 _ _ _ d_C_dispose_32 (by rw [show F_dispose μ (nI i) how d = (-2, μ) by first | (simp [F_dispose, hU, hci, eq_true c_15, c_27]; done) | simp +contextual [F_dispose, hU, hci, eq_true c_15, c_27]]; exact ⟨rfl, rfl⟩)
    · refine AW.iload_n X (pc := 18) 3 rfl rfl d_C_dispose_18 ?_
      refine AW.iconst X (pc := 19) (v := 1) (by decide) d_C_dispose_19 ?_
      refine AW.icmp_ne X (pc := 20) 30 d_C_dispose_20 (by decide) (fun c_20 => ?_) (fun c_20 => ?_)
      · refine AW.bipush X (pc := 30) (v := -2) (by decide) d_C_dispose_30 ?_
        exact hret 32 _ _ _ d_C_dispose_32 (by rw [show F_dispose μ (nI i) how d = (-2, μ) by first | (simp [F_dispose, hU, hci, eq_true c_15, eq_true c_20]; done) | simp +contextual [F_dispose, hU, hci, eq_true c_15, eq_true c_20]]; exact ⟨rfl, rfl⟩)
      · refine AW.iload_n X (pc := 23) 4 rfl rfl d_C_dispose_23 ?_
        refine AW.callS X (pc := 24) (nA := 1) [.int d] [] (c_C_isDay (kOf G ad N) d μ hN) (gv_S wm_C_75 ws_C_isDay wn_C kw_C_isDay) rfl (by decide +kernel) rfl ⟨Nat.le_of_ble_eq_true rfl, Nat.le_of_ble_eq_true rfl⟩ ⟨Nat.zero_le _, Nat.zero_le _⟩ (Nat.le_of_ble_eq_true rfl) d_C_dispose_24 rfl (fun v μ2 hq => ?_)
        obtain ⟨rfl, hm⟩ := hq
        rw [hm]
        clear hm
        show AW G (rmD 6) 6 (0, 0, ad, N, fb) 27 [(4, .ref (5 + 4 * i)), (0, .ref 0), (1, .int (nI i)), (2, .int how), (3, .int d)] [.int (bi (okD d))] μ
        refine AW.if_ne X (pc := 27) 33 d_C_dispose_27 (by decide) (fun c_27 => ?_) (fun c_27 => ?_)
        · have c_27 := bi_ne.mp c_27
          refine AW.aload_n X (pc := 33) 1 rfl rfl d_C_dispose_33 ?_
          refine AW.aload X (pc := 34) 0 rfl d_C_dispose_34 ?_
          refine AW.iload_n X (pc := 36) 3 rfl rfl d_C_dispose_36 ?_
          refine AW.iload_n X (pc := 37) 4 rfl rfl d_C_dispose_37 ?_
          refine AW.callV X (pc := 38) (b := 0) (ci := 4) (nA := 3) [.ref (5 + 4 * i), .int how, .int d] [] (c_C_obstacleTo (kOf G ad N) i nr how d μ hN hi hI hKN) (gv_V wm_C_165 wi_C_obstacleTo wl_C_obstacleTo wn_C kw_C_obstacleTo) rfl (by decide +kernel) rfl (by omega) rfl rfl ⟨Nat.le_of_ble_eq_true rfl, Nat.le_of_ble_eq_true rfl⟩ ⟨Nat.zero_le _, Nat.zero_le _⟩ (Nat.le_of_ble_eq_true rfl) d_C_dispose_38 rfl (fun v μ2 hq => ?_)
          obtain ⟨rfl, hm⟩ := hq
          rw [hm]
          clear hm
          show AW G (rmD 6) 6 (0, 0, ad, N, fb) 41 [(4, .ref (5 + 4 * i)), (0, .ref 0), (1, .int (nI i)), (2, .int how), (3, .int d)] [.int (f_obst μ i how d)] μ
          refine AW.istore X (pc := 41) (lv2 := [(5, .int (f_obst μ i how d)), (4, .ref (5 + 4 * i)), (0, .ref 0), (1, .int (nI i)), (2, .int how), (3, .int d)]) d_C_dispose_41 (by decide) rfl ?_
          refine AW.iload X (pc := 43) 0 rfl d_C_dispose_43 ?_
          refine AW.if_eq X (pc := 45) 54 d_C_dispose_45 (by decide) (fun c_45 => ?_) (fun c_45 => ?_)
          · refine AW.aload X (pc := 54) 1 rfl d_C_dispose_54 ?_
            refine AW.iload_n X (pc := 56) 5 rfl rfl d_C_dispose_56 ?_
            refine AW.callV X (pc := 57) (b := 5 + 4 * i) (ci := 3) (nA := 1) [.int d] [] (c_U_setDisposed (kOf G ad N) i d μ hN hi) (gv_V wm_C_169 wi_U_setDisposed wl_U_setDisposed wn_U kw_U_setDisposed) rfl (by decide +kernel) rfl (by omega) (sh_u hi) rfl ⟨Nat.le_of_ble_eq_true rfl, Nat.le_of_ble_eq_true rfl⟩ ⟨Nat.zero_le _, Nat.zero_le _⟩ (Nat.le_of_ble_eq_true rfl) d_C_dispose_57 rfl (fun v μ2 hq => ?_)
            obtain ⟨rfl, hm⟩ := hq
            rw [hm]
            clear hm
            show AW G (rmD 6) 6 (0, 0, ad, N, fb) 60 [(5, .int (f_obst μ i how d)), (4, .ref (5 + 4 * i)), (0, .ref 0), (1, .int (nI i)), (2, .int how), (3, .int d)] [] (m_up μ (5 + 4 * i) 7 d)
            refine AW.aload_n X (pc := 60) 2 rfl rfl d_C_dispose_60 ?_
            refine AW.iload_n X (pc := 61) 3 rfl rfl d_C_dispose_61 ?_
            refine AW.callV X (pc := 62) (b := 0) (ci := 4) (nA := 1) [.int (nI i)] [] (c_C_keepDisposed (kOf G ad N) (dnN μ) (nI i) (m_up μ (5 + 4 * i) 7 d) hN ((m_up_ne (by omega)).trans hI.dn.1) hI.dn.2) (gv_V wm_C_172 wi_C_keepDisposed wl_C_keepDisposed wn_C kw_C_keepDisposed) rfl (by decide +kernel) rfl (by omega) rfl rfl ⟨Nat.le_of_ble_eq_true rfl, Nat.le_of_ble_eq_true rfl⟩ ⟨Nat.zero_le _, Nat.zero_le _⟩ (Nat.le_of_ble_eq_true rfl) d_C_dispose_62 rfl (fun v μ2 hq => ?_)
            obtain ⟨rfl, hm⟩ := hq
            rw [hm]
            clear hm
            show AW G (rmD 6) 6 (0, 0, ad, N, fb) 65 [(5, .int (f_obst μ i how d)), (4, .ref (5 + 4 * i)), (0, .ref 0), (1, .int (nI i)), (2, .int how), (3, .int d)] [] (keepD (m_up μ (5 + 4 * i) 7 d) (dnN μ) (nI i))
            refine AW.iconst X (pc := 65) (v := 1) (by decide) d_C_dispose_65 ?_
            exact hret 66 _ _ _ d_C_dispose_66 (by rw [show F_dispose μ (nI i) how d = (1, (keepD (m_up μ (5 + 4 * i) 7 d) (dnN μ) (nI i))) by first | (simp [F_dispose, hU, hci, eq_true c_15, eq_true c_20, c_27, c_45]; done) | simp +contextual [F_dispose, hU, hci, eq_true c_15, eq_true c_20, c_27, c_45]]; exact ⟨rfl, rfl⟩)
          · refine AW.bipush X (pc := 48) (v := -10) (by decide) d_C_dispose_48 ?_
            refine AW.iload X (pc := 50) 0 rfl d_C_dispose_50 ?_
            refine AW.isub X (pc := 52) d_C_dispose_52 ?_
            exact hret 53 _ _ _ d_C_dispose_53 (by rw [show F_dispose μ (nI i) how d = ((-10) - (f_obst μ i how d), μ) by first | (simp [F_dispose, hU, hci, eq_true c_15, eq_true c_20, c_27, c_45]; done) | simp +contextual [F_dispose, hU, hci, eq_true c_15, eq_true c_20, c_27, c_45]]; exact ⟨rfl, rfl⟩)
        · have c_27 := bi_eq.mp c_27
          refine AW.bipush X (pc := 30) (v := -2) (by decide) d_C_dispose_30 ?_
          exact hret 32 _ _ _ d_C_dispose_32 (by rw [show F_dispose μ (nI i) how d = (-2, μ) by first | (simp [F_dispose, hU, hci, eq_true c_15, eq_true c_20, c_27]; done) | simp +contextual [F_dispose, hU, hci, eq_true c_15, eq_true c_20, c_27]]; exact ⟨rfl, rfl⟩)
set_option maxHeartbeats 4000000 in
set_option maxRecDepth 100000 in
theorem c_L_insert (K : KTy) (u dd a : Int32) (μ : Mu) (hN : 272 ≤ KN K) (hl : μ 245 3 = nI (lnN μ)) (hl6 : lnN μ < 60) : CT K y_L_insert (k_L_insert :: GT) 1 [.ref 245, .int u, .int dd, .int a] μ (fun v μ2 => v = none ∧ μ2 = insM μ u dd a) := by
  refine CT.void (cc := b_L_insert) (maxL := 5) (by decide) rfl rfl (Nat.le_of_ble_eq_true rfl) ?_
  intro G ad N hK X hret
  subst hK
  have hN : 272 ≤ N := hN
  show AW G (rmD 1) 5 (0, 0, ad, N, fb) 0 [(0, .ref 245), (1, .int u), (2, .int dd), (3, .int a)] [] μ
  have key : ∀ (n f : Nat) (x : Int32) (μ1 : Mu), f < n → f ≤ lnN μ → x = nI f → μ1 245 3 = nI (lnN μ) → ins 246 247 248 dd f μ1 = ins 246 247 248 dd (lnN μ) μ → AW G (rmD 1) 5 (0, 0, ad, N, fb) 23 [(4, .int x), (0, .ref 245), (1, .int u), (2, .int dd), (3, .int a)] [] μ1 := by
    intro n
    induction n with
    | zero =>
      intro f x μ1 hlt
      exact absurd hlt (Nat.not_lt_zero _)
    | succ n ih =>
      intro f x μ1 hlt hf ex hz he
      subst ex
      cases f with
      | zero =>
        refine AW.iload X (pc := 23) 0 rfl d_L_insert_23 ?_
        refine AW.if_le X (pc := 25) 80 d_L_insert_25 (by decide) (fun c_25 => ?_) (fun c_25 => absurd c_25 (by decide))
        refine AW.aload_n X (pc := 80) 1 rfl rfl d_L_insert_80 ?_
        refine AW.iload X (pc := 81) 0 rfl d_L_insert_81 ?_
        refine AW.iload_n X (pc := 83) 2 rfl rfl d_L_insert_83 ?_
        refine AW.iload_n X (pc := 84) 3 rfl rfl d_L_insert_84 ?_
        refine AW.iload_n X (pc := 85) 4 rfl rfl d_L_insert_85 ?_
        refine AW.callV X (pc := 86) (b := 245) (ci := 0) (nA := 4) [.int (nI 0), .int u, .int dd, .int a] [] (c_L_put (kOf G ad N) 0 u dd a μ1 hN (by omega)) (gv_V wm_L_25 wi_L_put wl_L_put wn_L kw_L_put) rfl (by decide +kernel) rfl (by omega) rfl rfl ⟨Nat.le_of_ble_eq_true rfl, Nat.le_of_ble_eq_true rfl⟩ ⟨Nat.zero_le _, Nat.zero_le _⟩ (Nat.le_of_ble_eq_true rfl) d_L_insert_86 rfl (fun v μ2 hq => ?_)
        obtain ⟨rfl, hm⟩ := hq
        rw [hm]
        clear hm
        show AW G (rmD 1) 5 (0, 0, ad, N, fb) 89 [(4, .int (nI 0)), (0, .ref 245), (1, .int u), (2, .int dd), (3, .int a)] [] (put3 246 247 248 μ1 0 u dd a)
        refine AW.aload_n X (pc := 89) 1 rfl rfl d_L_insert_89 ?_
        refine AW.dup X (pc := 90) rfl d_L_insert_90 ?_
        refine AW.get X (pc := 91) (k := 245) (ci := 0) (j := 3) (v := .int ((put3 246 247 248 μ1 0 u dd a) 245 3)) (by omega) rfl rfl in_L (by decide) wf_L_21 rfl rfl d_L_insert_91 ?_
        refine AW.val (w := .int (nI (lnN μ))) (congrArg Value.int ((congrFun (put3_out (by decide) (by decide) (by decide)) 3).trans hz)) ?_
        refine AW.iconst X (pc := 94) (v := 1) (by decide) d_L_insert_94 ?_
        refine AW.iadd X (pc := 95) d_L_insert_95 ?_
        refine AW.put X (pc := 96) (k := 245) (ci := 0) (j := 3) (x := (nI (lnN μ)) + 1) (ty := .int) ft_L (by omega) rfl rfl in_L ft_L_ok n_L (by decide) wf_L_21 rfl rfl rfl rfl rfl d_L_insert_96 ?_
        have hT : ins 246 247 248 dd (lnN μ) μ = (μ1, 0) := he.symm
        exact hret 99 _ _ d_L_insert_99 ⟨rfl, by rw [insM, hT]⟩
      | succ g =>
        refine AW.iload X (pc := 23) 0 rfl d_L_insert_23 ?_
        refine AW.if_le X (pc := 25) 80 d_L_insert_25 (by decide) (fun c_25 => absurd c_25 (by rw [i_le (nI_toInt (show g + 1 < 2 ^ 31 by omega)) (show (0 : Int32).toInt = 0 by decide)]; omega)) (fun c_25 => ?_)
        refine AW.aload_n X (pc := 28) 1 rfl rfl d_L_insert_28 ?_
        refine AW.get X (pc := 29) (k := 245) (ci := 0) (j := 1) (v := .ref 247) (by omega) rfl rfl in_L (by decide) wf_L_15 rfl rfl d_L_insert_29 ?_
        refine AW.iload X (pc := 32) 0 rfl d_L_insert_32 ?_
        refine AW.iconst X (pc := 34) (v := 1) (by decide) d_L_insert_34 ?_
        refine AW.isub X (pc := 35) d_L_insert_35 ?_
        rw [show (nI (g + 1)) - 1 = nI g from nI_pred g]
        refine AW.ialdN X (pc := 36) (k := 247) (t := 0) (n := 60) (j := g) (by omega) rfl rfl (by omega) (by decide) d_L_insert_36 ?_
        refine AW.iload_n X (pc := 37) 3 rfl rfl d_L_insert_37 ?_
        refine AW.icmp_le X (pc := 38) 80 d_L_insert_38 (by decide) (fun c_38 => ?_) (fun c_38 => ?_)
        · refine AW.aload_n X (pc := 80) 1 rfl rfl d_L_insert_80 ?_
          refine AW.iload X (pc := 81) 0 rfl d_L_insert_81 ?_
          refine AW.iload_n X (pc := 83) 2 rfl rfl d_L_insert_83 ?_
          refine AW.iload_n X (pc := 84) 3 rfl rfl d_L_insert_84 ?_
          refine AW.iload_n X (pc := 85) 4 rfl rfl d_L_insert_85 ?_
          refine AW.callV X (pc := 86) (b := 245) (ci := 0) (nA := 4) [.int (nI (g + 1)), .int u, .int dd, .int a] [] (c_L_put (kOf G ad N) (g + 1) u dd a μ1 hN (by omega)) (gv_V wm_L_25 wi_L_put wl_L_put wn_L kw_L_put) rfl (by decide +kernel) rfl (by omega) rfl rfl ⟨Nat.le_of_ble_eq_true rfl, Nat.le_of_ble_eq_true rfl⟩ ⟨Nat.zero_le _, Nat.zero_le _⟩ (Nat.le_of_ble_eq_true rfl) d_L_insert_86 rfl (fun v μ2 hq => ?_)
          obtain ⟨rfl, hm⟩ := hq
          rw [hm]
          clear hm
          show AW G (rmD 1) 5 (0, 0, ad, N, fb) 89 [(4, .int (nI (g + 1))), (0, .ref 245), (1, .int u), (2, .int dd), (3, .int a)] [] (put3 246 247 248 μ1 (g + 1) u dd a)
          refine AW.aload_n X (pc := 89) 1 rfl rfl d_L_insert_89 ?_
          refine AW.dup X (pc := 90) rfl d_L_insert_90 ?_
          refine AW.get X (pc := 91) (k := 245) (ci := 0) (j := 3) (v := .int ((put3 246 247 248 μ1 (g + 1) u dd a) 245 3)) (by omega) rfl rfl in_L (by decide) wf_L_21 rfl rfl d_L_insert_91 ?_
          refine AW.val (w := .int (nI (lnN μ))) (congrArg Value.int ((congrFun (put3_out (by decide) (by decide) (by decide)) 3).trans hz)) ?_
          refine AW.iconst X (pc := 94) (v := 1) (by decide) d_L_insert_94 ?_
          refine AW.iadd X (pc := 95) d_L_insert_95 ?_
          refine AW.put X (pc := 96) (k := 245) (ci := 0) (j := 3) (x := (nI (lnN μ)) + 1) (ty := .int) ft_L (by omega) rfl rfl in_L ft_L_ok n_L (by decide) wf_L_21 rfl rfl rfl rfl rfl d_L_insert_96 ?_
          have hT : ins 246 247 248 dd (lnN μ) μ = (μ1, g + 1) := by rw [← he, ins, if_pos c_38]
          exact hret 99 _ _ d_L_insert_99 ⟨rfl, by rw [insM, hT]⟩
        · refine AW.aload_n X (pc := 41) 1 rfl rfl d_L_insert_41 ?_
          refine AW.iload X (pc := 42) 0 rfl d_L_insert_42 ?_
          refine AW.aload_n X (pc := 44) 1 rfl rfl d_L_insert_44 ?_
          refine AW.get X (pc := 45) (k := 245) (ci := 0) (j := 0) (v := .ref 246) (by omega) rfl rfl in_L (by decide) wf_L_9 rfl rfl d_L_insert_45 ?_
          refine AW.iload X (pc := 48) 0 rfl d_L_insert_48 ?_
          refine AW.iconst X (pc := 50) (v := 1) (by decide) d_L_insert_50 ?_
          refine AW.isub X (pc := 51) d_L_insert_51 ?_
          rw [show (nI (g + 1)) - 1 = nI g from nI_pred g]
          refine AW.ialdN X (pc := 52) (k := 246) (t := 0) (n := 60) (j := g) (by omega) rfl rfl (by omega) (by decide) d_L_insert_52 ?_
          refine AW.aload_n X (pc := 53) 1 rfl rfl d_L_insert_53 ?_
          refine AW.get X (pc := 54) (k := 245) (ci := 0) (j := 1) (v := .ref 247) (by omega) rfl rfl in_L (by decide) wf_L_15 rfl rfl d_L_insert_54 ?_
          refine AW.iload X (pc := 57) 0 rfl d_L_insert_57 ?_
          refine AW.iconst X (pc := 59) (v := 1) (by decide) d_L_insert_59 ?_
          refine AW.isub X (pc := 60) d_L_insert_60 ?_
          rw [show (nI (g + 1)) - 1 = nI g from nI_pred g]
          refine AW.ialdN X (pc := 61) (k := 247) (t := 0) (n := 60) (j := g) (by omega) rfl rfl (by omega) (by decide) d_L_insert_61 ?_
          refine AW.aload_n X (pc := 62) 1 rfl rfl d_L_insert_62 ?_
          refine AW.get X (pc := 63) (k := 245) (ci := 0) (j := 2) (v := .ref 248) (by omega) rfl rfl in_L (by decide) wf_L_18 rfl rfl d_L_insert_63 ?_
          refine AW.iload X (pc := 66) 0 rfl d_L_insert_66 ?_
          refine AW.iconst X (pc := 68) (v := 1) (by decide) d_L_insert_68 ?_
          refine AW.isub X (pc := 69) d_L_insert_69 ?_
          rw [show (nI (g + 1)) - 1 = nI g from nI_pred g]
          refine AW.ialdN X (pc := 70) (k := 248) (t := 0) (n := 60) (j := g) (by omega) rfl rfl (by omega) (by decide) d_L_insert_70 ?_
          refine AW.callV X (pc := 71) (b := 245) (ci := 0) (nA := 4) [.int (nI (g + 1)), .int (μ1 246 g), .int (μ1 247 g), .int (μ1 248 g)] [] (c_L_put (kOf G ad N) (g + 1) (μ1 246 g) (μ1 247 g) (μ1 248 g) μ1 hN (by omega)) (gv_V wm_L_25 wi_L_put wl_L_put wn_L kw_L_put) rfl (by decide +kernel) rfl (by omega) rfl rfl ⟨Nat.le_of_ble_eq_true rfl, Nat.le_of_ble_eq_true rfl⟩ ⟨Nat.zero_le _, Nat.zero_le _⟩ (Nat.le_of_ble_eq_true rfl) d_L_insert_71 rfl (fun v μ2 hq => ?_)
          obtain ⟨rfl, hm⟩ := hq
          rw [hm]
          clear hm
          show AW G (rmD 1) 5 (0, 0, ad, N, fb) 74 [(4, .int (nI (g + 1))), (0, .ref 245), (1, .int u), (2, .int dd), (3, .int a)] [] (put3 246 247 248 μ1 (g + 1) (μ1 246 g) (μ1 247 g) (μ1 248 g))
          refine AW.iinc X (pc := 74) (v := nI g) (lv2 := [(4, .int (nI g)), (0, .ref 245), (1, .int u), (2, .int dd), (3, .int a)]) 0 rfl (i_dec _) d_L_insert_74 (by decide) rfl ?_
          refine AW.goto X (pc := 77) 23 d_L_insert_77 (by decide) ?_
          exact ih g _ _ (by omega) (by omega) rfl (by rw [put3_out (by decide) (by decide) (by decide)]; exact hz) (by rw [← he, ins, if_neg c_38])
  refine AW.aload_n X (pc := 0) 0 rfl rfl d_L_insert_0 ?_
  refine AW.get X (pc := 1) (k := 245) (ci := 0) (j := 3) (v := .int (μ 245 3)) (by omega) rfl rfl in_L (by decide) wf_L_21 rfl rfl d_L_insert_1 ?_
  refine AW.val (w := .int (nI (lnN μ))) (congrArg Value.int (hl)) ?_
  refine AW.if_lt X (pc := 4) 16 d_L_insert_4 (by decide) (fun c_4 => absurd c_4 (by rw [i_lt (nI_toInt (show lnN μ < 2 ^ 31 by omega)) (show (0 : Int32).toInt = 0 by decide)]; omega)) (fun c_4 => ?_)
  refine AW.aload_n X (pc := 7) 0 rfl rfl d_L_insert_7 ?_
  refine AW.get X (pc := 8) (k := 245) (ci := 0) (j := 3) (v := .int (μ 245 3)) (by omega) rfl rfl in_L (by decide) wf_L_21 rfl rfl d_L_insert_8 ?_
  refine AW.val (w := .int (nI (lnN μ))) (congrArg Value.int (hl)) ?_
  refine AW.bipush X (pc := 11) (v := 60) (by decide) d_L_insert_11 ?_
  refine AW.icmp_lt X (pc := 13) 17 d_L_insert_13 (by decide) (fun c_13 => ?_) (fun c_13 => absurd c_13 (by rw [i_lt (nI_toInt (show lnN μ < 2 ^ 31 by omega)) (show (60 : Int32).toInt = 60 by decide)]; omega))
  refine AW.aload_n X (pc := 17) 0 rfl rfl d_L_insert_17 ?_
  refine AW.get X (pc := 18) (k := 245) (ci := 0) (j := 3) (v := .int (μ 245 3)) (by omega) rfl rfl in_L (by decide) wf_L_21 rfl rfl d_L_insert_18 ?_
  refine AW.val (w := .int (nI (lnN μ))) (congrArg Value.int (hl)) ?_
  refine AW.istore X (pc := 21) (lv2 := [(4, .int (nI (lnN μ))), (0, .ref 245), (1, .int u), (2, .int dd), (3, .int a)]) d_L_insert_21 (by decide) rfl ?_
  exact key (lnN μ + 1) (lnN μ) _ μ (by omega) (Nat.le_refl _) rfl hl rfl
set_option maxHeartbeats 4000000 in
set_option maxRecDepth 100000 in
theorem c_C_due (K : KTy) (nr n6 : Nat) (on : Int32) (μ : Mu) (hN : 272 ≤ KN K) (h6 : n6 = 60) (hI : CI μ nr) (hKN : KN K = 272 + 3 * nr) : CT K y_C_due (k_C_due :: GT) 5 [.ref 0, .int on] μ (fun v μ2 => if okD on = false then v = some (.int (-2)) ∧ μ2 = μ else v = some (.int (dueM μ on n6 245 3)) ∧ μ2 = dueM μ on n6) := by
  refine CT.int (cc := b_C_due) (maxL := 4) (by decide) rfl rfl (Nat.le_of_ble_eq_true rfl) ?_
  intro G ad N hK X hret
  subst hK
  have hN : 272 ≤ N := hN
  have hKN : N = 272 + 3 * nr := hKN
  have hnr := hI.nr
  show AW G (rmD 5) 4 (0, 0, ad, N, fb) 0 [(0, .ref 0), (1, .int on)] [] μ
  cases hD : okD on with
  | false =>
    refine AW.iload_n X (pc := 0) 1 rfl rfl d_C_due_0 ?_
    refine AW.callS X (pc := 1) (nA := 1) [.int on] [] (c_C_isDay (kOf G ad N) on μ hN) (gv_S wm_C_75 ws_C_isDay wn_C kw_C_isDay) rfl (by decide +kernel) rfl ⟨Nat.le_of_ble_eq_true rfl, Nat.le_of_ble_eq_true rfl⟩ ⟨Nat.zero_le _, Nat.zero_le _⟩ (Nat.le_of_ble_eq_true rfl) d_C_due_1 rfl (fun v μ2 hq => ?_)
    obtain ⟨rfl, hm⟩ := hq
    rw [hm]
    clear hm
    show AW G (rmD 5) 4 (0, 0, ad, N, fb) 4 [(0, .ref 0), (1, .int on)] [.int (bi (okD on))] μ
    refine AW.if_ne X (pc := 4) 10 d_C_due_4 (by decide) (fun c_4 => absurd c_4 (by rw [hD]; decide)) (fun c_4 => ?_)
    refine AW.bipush X (pc := 7) (v := -2) (by decide) d_C_due_7 ?_
    exact hret 9 _ _ _ d_C_due_9 (by rw [if_pos hD]; exact ⟨rfl, rfl⟩)
  | true =>
    have key : ∀ (n : Nat) (j : Nat) (x : Int32), 60 - j < n → (j ≤ 60) → (x = nI j) → AW G (rmD 5) 4 (0, 0, ad, N, fb) 19 [(2, .int x), (0, .ref 0), (1, .int on)] [] (dueM μ on j) := by
      intro n
      induction n with
      | zero =>
        intro j x hlt
        exact absurd hlt (Nat.not_lt_zero _)
      | succ n ih =>
        intro j x hlt hj ex
        subst ex
        have hIj := hI.due on hj
        have hl := dueM_ln μ on j hj
        refine AW.iload_n X (pc := 19) 0 rfl rfl d_C_due_19 ?_
        refine AW.aload_n X (pc := 20) 1 rfl rfl d_C_due_20 ?_
        refine AW.get X (pc := 21) (k := 0) (ci := 4) (j := 3) (v := .ref 4) (by omega) rfl rfl in_C (by decide) wf_C_24 rfl rfl d_C_due_21 ?_
        refine AW.alen X (pc := 24) (k := 4) (t := 3) (n := 60) (kd := 2) (v := 60) (by omega) rfl rfl (by decide) d_C_due_24 ?_
        refine AW.icmp_ge X (pc := 25) 71 d_C_due_25 (by decide) (fun c_25 => ?_) (fun c_25 => ?_)
        · rw [i_le (show (60 : Int32).toInt = 60 by decide) (nI_toInt (show j < 2 ^ 31 by omega))] at c_25
          have hj6 : j = n6 := by omega
          subst hj6
          refine AW.aload_n X (pc := 71) 1 rfl rfl d_C_due_71 ?_
          refine AW.get X (pc := 72) (k := 0) (ci := 4) (j := 4) (v := .ref 245) (by omega) rfl rfl in_C (by decide) wf_C_32 rfl rfl d_C_due_72 ?_
          refine AW.callV X (pc := 75) (b := 245) (ci := 0) (nA := 0) [] [] (c_L_size (kOf G ad N) (dueM μ on j) hN) (gv_V wm_C_136 wi_L_size wl_L_size wn_L kw_L_size) rfl (by decide +kernel) rfl (by omega) rfl rfl ⟨Nat.le_of_ble_eq_true rfl, Nat.le_of_ble_eq_true rfl⟩ ⟨Nat.zero_le _, Nat.zero_le _⟩ (Nat.le_of_ble_eq_true rfl) d_C_due_75 rfl (fun v μ2 hq => ?_)
          obtain ⟨rfl, hm⟩ := hq
          rw [hm]
          clear hm
          show AW G (rmD 5) 4 (0, 0, ad, N, fb) 78 [(2, .int (nI j)), (0, .ref 0), (1, .int on)] [.int ((dueM μ on j) 245 3)] (dueM μ on j)
          exact hret 78 _ _ _ d_C_due_78 (by rw [if_neg (by rw [hD]; decide)]; exact ⟨rfl, rfl⟩)
        · rw [i_le (show (60 : Int32).toInt = 60 by decide) (nI_toInt (show j < 2 ^ 31 by omega))] at c_25
          have hi : j < 60 := by omega
          refine AW.aload_n X (pc := 28) 1 rfl rfl d_C_due_28 ?_
          refine AW.get X (pc := 29) (k := 0) (ci := 4) (j := 3) (v := .ref 4) (by omega) rfl rfl in_C (by decide) wf_C_24 rfl rfl d_C_due_29 ?_
          refine AW.iload_n X (pc := 32) 0 rfl rfl d_C_due_32 ?_
          refine AW.aaldN X (pc := 33) (k := 4) (t := 3) (n := 60) (j := j) (v := .ref (5 + 4 * j)) (by omega) rfl rfl (by omega) (by decide) (by rw [hIj.un hi]; exact m_rv_nI (by omega)) d_C_due_33 ?_
          refine AW.astore_n X (pc := 34) (lv2 := [(3, .ref (5 + 4 * j)), (2, .int (nI j)), (0, .ref 0), (1, .int on)]) rfl d_C_due_34 (by decide) rfl ?_
          refine AW.aload_n X (pc := 35) 0 rfl rfl d_C_due_35 ?_
          refine AW.ifnull X (pc := 36) d_C_due_36 ?_
          refine AW.aload_n X (pc := 39) 0 rfl rfl d_C_due_39 ?_
          refine AW.iload_n X (pc := 40) 3 rfl rfl d_C_due_40 ?_
          refine AW.callV X (pc := 41) (b := 5 + 4 * j) (ci := 3) (nA := 1) [.int on] [] (c_U_isDue (kOf G ad N) j nr on (dueM μ on j) hN hi hIj hKN) (gv_V wm_C_127 wi_U_isDue wl_U_isDue wn_U kw_U_isDue) rfl (by decide +kernel) rfl (by omega) (sh_u hi) rfl ⟨Nat.le_of_ble_eq_true rfl, Nat.le_of_ble_eq_true rfl⟩ ⟨Nat.zero_le _, Nat.zero_le _⟩ (Nat.le_of_ble_eq_true rfl) d_C_due_41 rfl (fun v μ2 hq => ?_)
          obtain ⟨rfl, hm⟩ := hq
          rw [hm]
          clear hm
          show AW G (rmD 5) 4 (0, 0, ad, N, fb) 44 [(3, .ref (5 + 4 * j)), (2, .int (nI j)), (0, .ref 0), (1, .int on)] [.int (bi (f_isDue (dueM μ on j) j on))] (dueM μ on j)
          refine AW.if_eq X (pc := 44) 65 d_C_due_44 (by decide) (fun c_44 => ?_) (fun c_44 => ?_)
          · have c_44 := bi_eq.mp c_44
            refine AW.iinc X (pc := 65) (v := nI (j + 1)) (lv2 := [(2, .int (nI (j + 1))), (3, .ref (5 + 4 * j)), (0, .ref 0), (1, .int on)]) 1 rfl (nI_1 _) d_C_due_65 (by decide) rfl ?_
            refine AW.goto X (pc := 68) 19 d_C_due_68 (by decide) ?_
            refine AW.locs (lv2 := [(2, .int (nI (j + 1))), (0, .ref 0), (1, .int on)]) [0, 2, 3] rfl ?_
            have e : dueM μ on (j + 1) = (dueM μ on j) := by rw [dueM, if_neg (by rw [c_44]; decide)]
            rw [← e]
            exact ih (j + 1) _ (by omega) (by omega) rfl
          · have c_44 := bi_ne.mp c_44
            refine AW.aload_n X (pc := 47) 2 rfl rfl d_C_due_47 ?_
            refine AW.get X (pc := 48) (k := 0) (ci := 4) (j := 4) (v := .ref 245) (by omega) rfl rfl in_C (by decide) wf_C_32 rfl rfl d_C_due_48 ?_
            refine AW.iload_n X (pc := 51) 1 rfl rfl d_C_due_51 ?_
            refine AW.aload_n X (pc := 52) 0 rfl rfl d_C_due_52 ?_
            refine AW.iload_n X (pc := 53) 3 rfl rfl d_C_due_53 ?_
            refine AW.callV X (pc := 54) (b := 5 + 4 * j) (ci := 3) (nA := 1) [.int on] [.int (nI j), .ref 245] (c_U_dueDay (kOf G ad N) j nr on (dueM μ on j) hN hi hIj hKN) (gv_V wm_C_122 wi_U_dueDay wl_U_dueDay wn_U kw_U_dueDay) rfl (by decide +kernel) rfl (by omega) (sh_u hi) rfl ⟨Nat.le_of_ble_eq_true rfl, Nat.le_of_ble_eq_true rfl⟩ ⟨Nat.zero_le _, Nat.zero_le _⟩ (Nat.le_of_ble_eq_true rfl) d_C_due_54 rfl (fun v μ2 hq => ?_)
            obtain ⟨rfl, hm⟩ := hq
            rw [hm]
            clear hm
            show AW G (rmD 5) 4 (0, 0, ad, N, fb) 57 [(3, .ref (5 + 4 * j)), (2, .int (nI j)), (0, .ref 0), (1, .int on)] [.int (f_dueDay (dueM μ on j) j on), .int (nI j), .ref 245] (dueM μ on j)
            refine AW.aload_n X (pc := 57) 0 rfl rfl d_C_due_57 ?_
            refine AW.iload_n X (pc := 58) 3 rfl rfl d_C_due_58 ?_
            refine AW.callV X (pc := 59) (b := 5 + 4 * j) (ci := 3) (nA := 1) [.int on] [.int (f_dueDay (dueM μ on j) j on), .int (nI j), .ref 245] (c_U_dueAction (kOf G ad N) j nr on (dueM μ on j) hN hi hIj hKN) (gv_V wm_C_130 wi_U_dueAction wl_U_dueAction wn_U kw_U_dueAction) rfl (by decide +kernel) rfl (by omega) (sh_u hi) rfl ⟨Nat.le_of_ble_eq_true rfl, Nat.le_of_ble_eq_true rfl⟩ ⟨Nat.zero_le _, Nat.zero_le _⟩ (Nat.le_of_ble_eq_true rfl) d_C_due_59 rfl (fun v μ2 hq => ?_)
            obtain ⟨rfl, hm⟩ := hq
            rw [hm]
            clear hm
            show AW G (rmD 5) 4 (0, 0, ad, N, fb) 62 [(3, .ref (5 + 4 * j)), (2, .int (nI j)), (0, .ref 0), (1, .int on)] [.int (f_dueAction (dueM μ on j) j on), .int (f_dueDay (dueM μ on j) j on), .int (nI j), .ref 245] (dueM μ on j)
            refine AW.callV X (pc := 62) (b := 245) (ci := 0) (nA := 3) [.int (nI j), .int (f_dueDay (dueM μ on j) j on), .int (f_dueAction (dueM μ on j) j on)] [] (c_L_insert (kOf G ad N) (nI j) (f_dueDay (dueM μ on j) j on) (f_dueAction (dueM μ on j) j on) (dueM μ on j) hN hl.1 (by omega)) (gv_V wm_C_133 wi_L_insert wl_L_insert wn_L kw_L_insert) rfl (by decide +kernel) rfl (by omega) rfl rfl ⟨Nat.le_of_ble_eq_true rfl, Nat.le_of_ble_eq_true rfl⟩ ⟨Nat.zero_le _, Nat.zero_le _⟩ (Nat.le_of_ble_eq_true rfl) d_C_due_62 rfl (fun v μ2 hq => ?_)
            obtain ⟨rfl, hm⟩ := hq
            rw [hm]
            clear hm
            show AW G (rmD 5) 4 (0, 0, ad, N, fb) 65 [(3, .ref (5 + 4 * j)), (2, .int (nI j)), (0, .ref 0), (1, .int on)] [] (insM (dueM μ on j) (nI j) (f_dueDay (dueM μ on j) j on) (f_dueAction (dueM μ on j) j on))
            refine AW.iinc X (pc := 65) (v := nI (j + 1)) (lv2 := [(2, .int (nI (j + 1))), (3, .ref (5 + 4 * j)), (0, .ref 0), (1, .int on)]) 1 rfl (nI_1 _) d_C_due_65 (by decide) rfl ?_
            refine AW.goto X (pc := 68) 19 d_C_due_68 (by decide) ?_
            refine AW.locs (lv2 := [(2, .int (nI (j + 1))), (0, .ref 0), (1, .int on)]) [0, 2, 3] rfl ?_
            have e : dueM μ on (j + 1) = (insM (dueM μ on j) (nI j) (f_dueDay (dueM μ on j) j on) (f_dueAction (dueM μ on j) j on)) := by rw [dueM, if_pos c_44]
            rw [← e]
            exact ih (j + 1) _ (by omega) (by omega) rfl
    refine AW.iload_n X (pc := 0) 1 rfl rfl d_C_due_0 ?_
    refine AW.callS X (pc := 1) (nA := 1) [.int on] [] (c_C_isDay (kOf G ad N) on μ hN) (gv_S wm_C_75 ws_C_isDay wn_C kw_C_isDay) rfl (by decide +kernel) rfl ⟨Nat.le_of_ble_eq_true rfl, Nat.le_of_ble_eq_true rfl⟩ ⟨Nat.zero_le _, Nat.zero_le _⟩ (Nat.le_of_ble_eq_true rfl) d_C_due_1 rfl (fun v μ2 hq => ?_)
    obtain ⟨rfl, hm⟩ := hq
    rw [hm]
    clear hm
    show AW G (rmD 5) 4 (0, 0, ad, N, fb) 4 [(0, .ref 0), (1, .int on)] [.int (bi (okD on))] μ
    refine AW.if_ne X (pc := 4) 10 d_C_due_4 (by decide) (fun c_4 => ?_) (fun c_4 => absurd c_4 (by rw [hD]; decide))
    refine AW.aload_n X (pc := 10) 0 rfl rfl d_C_due_10 ?_
    refine AW.get X (pc := 11) (k := 0) (ci := 4) (j := 4) (v := .ref 245) (by omega) rfl rfl in_C (by decide) wf_C_32 rfl rfl d_C_due_11 ?_
    refine AW.callV X (pc := 14) (b := 245) (ci := 0) (nA := 0) [] [] (c_L_clear (kOf G ad N) μ hN) (gv_V wm_C_126 wi_L_clear wl_L_clear wn_L kw_L_clear) rfl (by decide +kernel) rfl (by omega) rfl rfl ⟨Nat.le_of_ble_eq_true rfl, Nat.le_of_ble_eq_true rfl⟩ ⟨Nat.zero_le _, Nat.zero_le _⟩ (Nat.le_of_ble_eq_true rfl) d_C_due_14 rfl (fun v μ2 hq => ?_)
    obtain ⟨rfl, hm⟩ := hq
    rw [hm]
    clear hm
    show AW G (rmD 5) 4 (0, 0, ad, N, fb) 17 [(0, .ref 0), (1, .int on)] [] (m_up μ 245 3 0)
    refine AW.iconst X (pc := 17) (v := 0) (by decide) d_C_due_17 ?_
    refine AW.istore_n X (pc := 18) (lv2 := [(2, .int 0), (0, .ref 0), (1, .int on)]) rfl d_C_due_18 (by decide) rfl ?_
    exact key 61 0 _ (by omega) (Nat.zero_le _) nI_0.symm
set_option maxHeartbeats 4000000 in
set_option maxRecDepth 100000 in
theorem c_T_collect (K : KTy) (nr : Nat) (c : Int32) (μ : Mu) (hN : 272 ≤ KN K) (hI : CI μ nr) : CT K y_T_collect (k_T_collect :: GT) 0 [.ref 1, .int c] μ (fun v μ2 => v = none ∧ μ2 = collectM μ c) := by
  refine CT.void (cc := b_T_collect) (maxL := 2) (by decide) rfl rfl (Nat.le_of_ble_eq_true rfl) ?_
  intro G ad N hK X hret
  subst hK
  have hN : 272 ≤ N := hN
  have htl := hI.tl.2
  show AW G (rmD 0) 2 (0, 0, ad, N, fb) 0 [(0, .ref 1), (1, .int c)] [] μ
  refine AW.aload_n X (pc := 0) 0 rfl rfl d_T_collect_0 ?_
  refine AW.get X (pc := 1) (k := 1) (ci := 2) (j := 1) (v := .int (μ 1 1)) (by omega) rfl rfl in_T (by decide) wf_T_15 rfl rfl d_T_collect_1 ?_
  refine AW.val (w := .int (nI (tlN μ))) (congrArg Value.int (hI.tl.1)) ?_
  refine AW.if_lt X (pc := 4) 43 d_T_collect_4 (by decide) (fun c_4 => absurd c_4 (by rw [i_lt (nI_toInt (show tlN μ < 2 ^ 31 by omega)) (show (0 : Int32).toInt = 0 by decide)]; omega)) (fun c_4 => ?_)
  refine AW.aload_n X (pc := 7) 0 rfl rfl d_T_collect_7 ?_
  refine AW.get X (pc := 8) (k := 1) (ci := 2) (j := 1) (v := .int (μ 1 1)) (by omega) rfl rfl in_T (by decide) wf_T_15 rfl rfl d_T_collect_8 ?_
  refine AW.val (w := .int (nI (tlN μ))) (congrArg Value.int (hI.tl.1)) ?_
  refine AW.aload_n X (pc := 11) 0 rfl rfl d_T_collect_11 ?_
  refine AW.get X (pc := 12) (k := 1) (ci := 2) (j := 0) (v := .ref 2) (by omega) rfl rfl in_T (by decide) wf_T_9 rfl rfl d_T_collect_12 ?_
  refine AW.alen X (pc := 15) (k := 2) (t := 0) (n := 40) (kd := 0) (v := 40) (by omega) rfl rfl (by decide) d_T_collect_15 ?_
  refine AW.icmp_ge X (pc := 16) 43 d_T_collect_16 (by decide) (fun c_16 => ?_) (fun c_16 => ?_)
  · rw [i_le (show (40 : Int32).toInt = 40 by decide) (nI_toInt (show tlN μ < 2 ^ 31 by omega))] at c_16
    have c_16 : ¬ tlN μ < 40 := by omega
    exact hret 43 _ _ d_T_collect_43 ⟨rfl, by rw [collectM]; first | (rw [if_pos c_16]; done) | rw [if_neg c_16]⟩
  · rw [i_le (show (40 : Int32).toInt = 40 by decide) (nI_toInt (show tlN μ < 2 ^ 31 by omega))] at c_16
    have c_16 : tlN μ < 40 := by omega
    refine AW.aload_n X (pc := 19) 0 rfl rfl d_T_collect_19 ?_
    refine AW.get X (pc := 20) (k := 1) (ci := 2) (j := 0) (v := .ref 2) (by omega) rfl rfl in_T (by decide) wf_T_9 rfl rfl d_T_collect_20 ?_
    refine AW.aload_n X (pc := 23) 0 rfl rfl d_T_collect_23 ?_
    refine AW.get X (pc := 24) (k := 1) (ci := 2) (j := 1) (v := .int (μ 1 1)) (by omega) rfl rfl in_T (by decide) wf_T_15 rfl rfl d_T_collect_24 ?_
    refine AW.val (w := .int (nI (tlN μ))) (congrArg Value.int (hI.tl.1)) ?_
    refine AW.iload_n X (pc := 27) 1 rfl rfl d_T_collect_27 ?_
    refine AW.sipush X (pc := 28) (v := 255) (by decide) d_T_collect_28 ?_
    refine AW.iand X (pc := 31) d_T_collect_31 ?_
    refine AW.iastN X (pc := 32) (k := 2) (t := 0) (n := 40) (j := tlN μ) (x := c &&& 255) (by omega) rfl rfl (by omega) (by decide) d_T_collect_32 ?_
    refine AW.aload_n X (pc := 33) 0 rfl rfl d_T_collect_33 ?_
    refine AW.dup X (pc := 34) rfl d_T_collect_34 ?_
    refine AW.get X (pc := 35) (k := 1) (ci := 2) (j := 1) (v := .int ((m_up μ 2 (tlN μ) (c &&& 255)) 1 1)) (by omega) rfl rfl in_T (by decide) wf_T_15 rfl rfl d_T_collect_35 ?_
    refine AW.val (w := .int (nI (tlN μ))) (congrArg Value.int ((m_up_ne (by omega)).trans hI.tl.1)) ?_
    refine AW.iconst X (pc := 38) (v := 1) (by decide) d_T_collect_38 ?_
    refine AW.iadd X (pc := 39) d_T_collect_39 ?_
    refine AW.put X (pc := 40) (k := 1) (ci := 2) (j := 1) (x := (nI (tlN μ)) + 1) (ty := .int) ft_T (by omega) rfl rfl in_T ft_T_ok n_T (by decide) wf_T_15 rfl rfl rfl rfl rfl d_T_collect_40 ?_
    exact hret 43 _ _ d_T_collect_43 ⟨rfl, by rw [collectM]; first | (rw [if_pos c_16]; done) | rw [if_neg c_16]⟩
set_option maxHeartbeats 4000000 in
set_option maxRecDepth 100000 in
theorem c_C_sign (K : KTy) (nr : Nat) (c : Int32) (μ : Mu) (hN : 272 ≤ KN K) (hI : CI μ nr) : CT K y_C_sign (k_C_sign :: GT) 1 [.ref 0, .int c] μ (fun v μ2 => v = none ∧ μ2 = collectM μ c) := by
  refine CT.void (cc := b_C_sign) (maxL := 2) (by decide) rfl rfl (Nat.le_of_ble_eq_true rfl) ?_
  intro G ad N hK X hret
  subst hK
  have hN : 272 ≤ N := hN
  show AW G (rmD 1) 2 (0, 0, ad, N, fb) 0 [(0, .ref 0), (1, .int c)] [] μ
  refine AW.aload_n X (pc := 0) 0 rfl rfl d_C_sign_0 ?_
  refine AW.get X (pc := 1) (k := 0) (ci := 4) (j := 0) (v := .ref 1) (by omega) rfl rfl in_C (by decide) wf_C_10 rfl rfl d_C_sign_1 ?_
  refine AW.iload_n X (pc := 4) 1 rfl rfl d_C_sign_4 ?_
  refine AW.callV X (pc := 5) (b := 1) (ci := 2) (nA := 1) [.int c] [] (c_T_collect (kOf G ad N) nr c μ hN hI) (gv_V wm_C_40 wi_T_collect wl_T_collect wn_T kw_T_collect) rfl (by decide +kernel) rfl (by omega) rfl rfl ⟨Nat.le_of_ble_eq_true rfl, Nat.le_of_ble_eq_true rfl⟩ ⟨Nat.zero_le _, Nat.zero_le _⟩ (Nat.le_of_ble_eq_true rfl) d_C_sign_5 rfl (fun v μ2 hq => ?_)
  obtain ⟨rfl, hm⟩ := hq
  rw [hm]
  clear hm
  show AW G (rmD 1) 2 (0, 0, ad, N, fb) 8 [(0, .ref 0), (1, .int c)] [] (collectM μ c)
  exact hret 8 _ _ d_C_sign_8 ⟨rfl, rfl⟩
end
section
/-! the reference's cells, read off the class's cells σ (as they were before the class's own call) -/
def e0 (x : Int32) : Prop := x = -1 ∨ 0 ≤ x
theorem e0_lt {x : Int32} (h : e0 x) : x < 0 ↔ x = -1 := by
  rcases h with rfl | h
  · exact ⟨fun _ => rfl, fun _ => by decide⟩
  · refine ⟨fun q => absurd h (by rw [i_le (show (0 : Int32).toInt = 0 by decide) rfl]; rw [i_lt rfl (show (0 : Int32).toInt = 0 by decide)] at q; omega), fun q => by rw [q]; decide⟩
theorem e0_ge {x : Int32} (h : e0 x) : 0 ≤ x ↔ ¬ x = -1 := by
  rw [← e0_lt h]
  exact ⟨fun q => Int32.not_lt.mpr q, fun q => Int32.not_lt.mp q⟩
/-- what the numbers may be -/
def VR (σ : Mu) (nr : Nat) : Prop :=
  (∀ i, i < 60 → (∀ q, q < 4 → σ (5 + 4 * i + 1) q = -1 ∨ ∃ d, d ≤ 1000000 ∧ σ (5 + 4 * i + 1) q = nI d) ∧ e0 (σ (5 + 4 * i) 7) ∧ e0 (σ (5 + 4 * i) 8) ∧ ∃ a, a ≤ 2 ∧ σ (5 + 4 * i) 5 = nI a) ∧
  ∀ r, r < nr → (∃ y, y ≤ 999 ∧ σ (272 + 3 * r) 1 = nI y) ∧ (σ (272 + 3 * r) 2 = 0 ∨ σ (272 + 3 * r) 2 = 1) ∧ ∀ j, j < ccN σ r → (∃ y, y ≤ 999 ∧ σ (272 + 3 * r + 2) j = nI y) ∧ ∃ d, d ≤ 1000000 ∧ σ (272 + 3 * r + 1) j = nI d
theorem VR.dp {σ : Mu} {nr i : Nat} (h : VR σ nr) (hi : i < 60) : e0 (σ (5 + 4 * i) 7) := (h.1 i hi).2.1
theorem VR.ce {σ : Mu} {nr i : Nat} (h : VR σ nr) (hi : i < 60) : e0 (σ (5 + 4 * i) 8) := (h.1 i hi).2.2.1
theorem VR.ap {σ : Mu} {nr i : Nat} (h : VR σ nr) (hi : i < 60) : ∃ a, a ≤ 2 ∧ σ (5 + 4 * i) 5 = nI a := (h.1 i hi).2.2.2
theorem VR.ev {σ : Mu} {nr i q : Nat} (h : VR σ nr) (hi : i < 60) (hq : q < 4) : σ (5 + 4 * i + 1) q = -1 ∨ ∃ d, d ≤ 1000000 ∧ σ (5 + 4 * i + 1) q = nI d := (h.1 i hi).1 q hq
def MR (σ μ : Mu) (nr : Nat) : Prop :=
  μ 250 4 = nI nr ∧
  (∀ r, r < nr → μ 252 r = nI (ekN σ r) ∧ μ 253 r = σ (272 + 3 * r) 2 ∧ μ 254 r = bi (brB σ r) ∧ μ 255 r = nI (ccN σ r) ∧ μ 256 (6 * r) = σ (272 + 3 * r) 1 ∧ μ 257 (6 * r) = -1 ∧ ∀ j, j < ccN σ r → μ 256 (6 * r + (j + 1)) = σ (272 + 3 * r + 2) j ∧ μ 257 (6 * r + (j + 1)) = σ (272 + 3 * r + 1) j) ∧
  (∀ r, nr ≤ r → r < 20 → μ 254 r = 0 ∧ μ 255 r = 0) ∧
  (∀ i, i < 60 → (∀ q, q < 4 → μ 258 (4 * i + q) = σ (5 + 4 * i + 1) q ∧ μ 261 (4 * i + q) = σ (5 + 4 * i + 3) q) ∧ μ 260 i = nI (rnN σ i) ∧ (∀ j, j < rnN σ i → μ 259 (4 * i + j) = nI (rwN σ i j)) ∧ μ 262 i = σ (5 + 4 * i) 4 ∧ μ 263 i = σ (5 + 4 * i) 5 ∧ (σ (5 + 4 * i) 5 = 1 → μ 264 i = σ (5 + 4 * i) 6) ∧ μ 265 i = σ (5 + 4 * i) 7 ∧ μ 266 i = σ (5 + 4 * i) 8) ∧
  (μ 250 22 = nI (lnN σ) ∧ ∀ j, j < lnN σ → μ 268 j = σ 246 j ∧ μ 269 j = σ 247 j ∧ μ 270 j = σ 248 j) ∧
  (μ 250 20 = nI (dnN σ) ∧ ∀ j, j < dnN σ → μ 267 j = nI (diN σ j)) ∧
  (μ 250 2 = nI (tlN σ) ∧ ∀ j, j < tlN σ → μ 251 j = (σ 2 j).toInt8.toInt32)
theorem MR.ru {σ μ : Mu} {nr : Nat} (h : MR σ μ nr) : μ 250 4 = nI nr := h.1
theorem MR.oe {σ μ : Mu} {nr r : Nat} (h : MR σ μ nr) (hr : r < nr) : μ 252 r = nI (ekN σ r) := (h.2.1 r hr).1
theorem MR.ac {σ μ : Mu} {nr r : Nat} (h : MR σ μ nr) (hr : r < nr) : μ 253 r = σ (272 + 3 * r) 2 := (h.2.1 r hr).2.1
theorem MR.bk {σ μ : Mu} {nr r : Nat} (h : MR σ μ nr) (hr : r < nr) : μ 254 r = bi (brB σ r) := (h.2.1 r hr).2.2.1
theorem MR.ch {σ μ : Mu} {nr r : Nat} (h : MR σ μ nr) (hr : r < nr) : μ 255 r = nI (ccN σ r) := (h.2.1 r hr).2.2.2.1
theorem MR.y0 {σ μ : Mu} {nr r : Nat} (h : MR σ μ nr) (hr : r < nr) : μ 256 (6 * r) = σ (272 + 3 * r) 1 := (h.2.1 r hr).2.2.2.2.1
theorem MR.s0 {σ μ : Mu} {nr r : Nat} (h : MR σ μ nr) (hr : r < nr) : μ 257 (6 * r) = -1 := (h.2.1 r hr).2.2.2.2.2.1
theorem MR.yr {σ μ : Mu} {nr r j : Nat} (h : MR σ μ nr) (hr : r < nr) (hj : j < ccN σ r) : μ 256 (6 * r + (j + 1)) = σ (272 + 3 * r + 2) j := ((h.2.1 r hr).2.2.2.2.2.2 j hj).1
theorem MR.sn {σ μ : Mu} {nr r j : Nat} (h : MR σ μ nr) (hr : r < nr) (hj : j < ccN σ r) : μ 257 (6 * r + (j + 1)) = σ (272 + 3 * r + 1) j := ((h.2.1 r hr).2.2.2.2.2.2 j hj).2
theorem MR.ev {σ μ : Mu} {nr i q : Nat} (h : MR σ μ nr) (hi : i < 60) (hq : q < 4) : μ 258 (4 * i + q) = σ (5 + 4 * i + 1) q := ((h.2.2.2.1 i hi).1 q hq).1
theorem MR.ho {σ μ : Mu} {nr i q : Nat} (h : MR σ μ nr) (hi : i < 60) (hq : q < 4) : μ 261 (4 * i + q) = σ (5 + 4 * i + 3) q := ((h.2.2.2.1 i hi).1 q hq).2
theorem MR.sc {σ μ : Mu} {nr i : Nat} (h : MR σ μ nr) (hi : i < 60) : μ 260 i = nI (rnN σ i) := (h.2.2.2.1 i hi).2.1
theorem MR.sd {σ μ : Mu} {nr i j : Nat} (h : MR σ μ nr) (hi : i < 60) (hj : j < rnN σ i) : μ 259 (4 * i + j) = nI (rwN σ i j) := (h.2.2.2.1 i hi).2.2.1 j hj
theorem MR.ex {σ μ : Mu} {nr i : Nat} (h : MR σ μ nr) (hi : i < 60) : μ 262 i = σ (5 + 4 * i) 4 := (h.2.2.2.1 i hi).2.2.2.1
theorem MR.ap {σ μ : Mu} {nr i : Nat} (h : MR σ μ nr) (hi : i < 60) : μ 263 i = σ (5 + 4 * i) 5 := (h.2.2.2.1 i hi).2.2.2.2.1
theorem MR.fb {σ μ : Mu} {nr i : Nat} (h : MR σ μ nr) (hi : i < 60) (h1 : σ (5 + 4 * i) 5 = 1) : μ 264 i = σ (5 + 4 * i) 6 := (h.2.2.2.1 i hi).2.2.2.2.2.1 h1
theorem MR.dp {σ μ : Mu} {nr i : Nat} (h : MR σ μ nr) (hi : i < 60) : μ 265 i = σ (5 + 4 * i) 7 := (h.2.2.2.1 i hi).2.2.2.2.2.2.1
theorem MR.ce {σ μ : Mu} {nr i : Nat} (h : MR σ μ nr) (hi : i < 60) : μ 266 i = σ (5 + 4 * i) 8 := (h.2.2.2.1 i hi).2.2.2.2.2.2.2
theorem MR.ls {σ μ : Mu} {nr : Nat} (h : MR σ μ nr) : μ 250 22 = nI (lnN σ) := h.2.2.2.2.1.1
theorem MR.go {σ μ : Mu} {nr : Nat} (h : MR σ μ nr) : μ 250 20 = nI (dnN σ) := h.2.2.2.2.2.1.1
theorem MR.hi {σ μ : Mu} {nr j : Nat} (h : MR σ μ nr) (hj : j < dnN σ) : μ 267 j = nI (diN σ j) := h.2.2.2.2.2.1.2 j hj
theorem MR.sz {σ μ : Mu} {nr : Nat} (h : MR σ μ nr) : μ 250 2 = nI (tlN σ) := h.2.2.2.2.2.2.1
/-- the note of a throw is nobody's but its own -/
theorem MR.thr {σ μ : Mu} {nr : Nat} (h : MR σ μ nr) (x : Int32) : MR σ (m_up μ 250 0 x) nr := by
  have e : ∀ k, k ≠ 250 → m_up μ 250 0 x k = μ k := fun k hk => m_up_row hk
  have e2 : ∀ j, j ≠ 0 → m_up μ 250 0 x 250 j = μ 250 j := fun j hj => m_up_ne (by omega)
  unfold MR
  rw [e 252 (by decide), e 253 (by decide), e 254 (by decide), e 255 (by decide), e 256 (by decide), e 257 (by decide), e 258 (by decide), e 259 (by decide), e 260 (by decide), e 261 (by decide), e 262 (by decide), e 263 (by decide), e 264 (by decide), e 265 (by decide), e 266 (by decide), e 267 (by decide), e 268 (by decide), e 269 (by decide), e 270 (by decide), e 251 (by decide), e2 4 (by decide), e2 22 (by decide), e2 20 (by decide), e2 2 (by decide)]
  exact h
def okK (k : Int32) : Bool := decide (¬ k < 0) && decide (¬ 3 < k)
theorem okK_t {k : Int32} (h : okK k = true) : ∃ q, q < 4 ∧ k = nI q := by
  simp only [okK, Bool.and_eq_true, decide_eq_true_eq] at h
  refine ofIx (M := 4) (by decide) (by decide) h.1 (fun q => h.2 ?_)
  rw [i_lt (show (3 : Int32).toInt = 3 by decide) rfl]
  rw [i_le (show (4 : Int32).toInt = 4 by decide) rfl] at q
  omega
theorem okK_f {k : Int32} (h : okK k = false) : k < 0 ∨ 4 ≤ k := by
  by_cases h0 : k < 0
  · exact Or.inl h0
  · refine Or.inr ?_
    simp only [okK, h0, not_false_eq_true, decide_true, Bool.true_and, decide_eq_false_iff_not, Decidable.not_not] at h
    rw [i_le (show (4 : Int32).toInt = 4 by decide) rfl]
    rw [i_lt (show (3 : Int32).toInt = 3 by decide) rfl] at h
    omega
theorem okK_nI {q : Nat} (hq : q < 4) : ¬ nI q < 0 ∧ ¬ 4 ≤ nI q := ⟨nI_pos (by omega), fun h => by rw [i_le (show (4 : Int32).toInt = 4 by decide) (nI_toInt (show q < 2 ^ 31 by omega))] at h; omega⟩
theorem okU_59 (u : Int32) : (decide (¬ u < 0) && decide (¬ 59 < u)) = okU u := by
  unfold okU
  have h : (59 < u) = (60 ≤ u) := propext (by rw [i_lt (show (59 : Int32).toInt = 59 by decide) rfl, i_le (show (60 : Int32).toInt = 60 by decide) rfl]; omega)
  simp only [h]
theorem okR_1 {nr : Nat} (hn : nr ≤ 20) (r : Int32) : (decide (¬ r < 0) && decide (¬ nI nr - 1 < r)) = okR nr r := by
  unfold okR
  have e : (nI nr - 1).toInt = (nr : Int) - 1 := pk_sub_toInt (a := nr) (b := 1) (by omega) (by decide)
  have h : (nI nr - 1 < r) = (nI nr ≤ r) := propext (by rw [i_lt e rfl, i_le (nI_toInt (show nr < 2 ^ 31 by omega)) rfl]; omega)
  simp only [h]
end
section
/-! the reference's answers, over the class's cells σ -/
/-- the latest day of n rules, or -1 -/
def g_max (δ : Nat → Int32) : Nat → Int32
  | 0 => -1
  | n + 1 => if δ n ≤ g_max δ n then g_max δ n else δ n
def g_dueDay (σ : Mu) (i : Nat) (on : Int32) : Int32 := if f_fails σ i = true then -3 else if anyB (fun j => decide (f_day σ i on j < 0)) (rnN σ i) = true then -1 else g_max (f_day σ i on) (rnN σ i)
/-- the action of the first rule with the day due, looked for from the last one on -/
def g_act (σ : Mu) (i : Nat) (on due : Int32) (a : Int32) : Nat → Int32 → Int32
  | 0, x => x
  | n + 1, x => g_act σ i on due a n (if f_day σ i on n = due then σ (272 + 3 * rwN σ i n) 2 else x)
def g_isDue (σ : Mu) (i : Nat) (on : Int32) : Bool := decide (σ (5 + 4 * i) 7 < 0) && decide (¬ g_dueDay σ i on < 0) && decide (¬ on < g_dueDay σ i on) && decide (¬ on ≤ σ (5 + 4 * i) 4)
def mt (μ : Mu) : Mu := m_up μ 250 0 0
end
section
theorem anyB_succ (p : Nat → Bool) (n : Nat) : anyB p (n + 1) = (anyB p n || p n) := by
  unfold anyB
  rw [List.range_succ, List.any_append]
  simp
set_option maxHeartbeats 4000000 in
set_option maxRecDepth 100000 in
theorem c_M_in (K : KTy) (v lo hi : Int32) (μ : Mu) (hN : 272 ≤ KN K)  : CT K y_M_in (k_M_in :: GT) 0 [.int v, .int lo, .int hi] μ (fun w μ2 => w = some (.int (bi (decide (¬ v < lo) && decide (¬ hi < v)))) ∧ μ2 = μ) := by
  refine CT.bool (cc := b_M_in) (maxL := 3) (by decide) rfl rfl (Nat.le_of_ble_eq_true rfl) ?_
  intro G ad N hK X hret
  subst hK
  have hN : 272 ≤ N := hN
  show AW G (rmD 0) 3 (0, 0, ad, N, fb) 0 [(0, .int v), (1, .int lo), (2, .int hi)] [] μ
  refine AW.iload_n X (pc := 0) 0 rfl rfl d_M_in_0 ?_
  refine AW.iload_n X (pc := 1) 1 rfl rfl d_M_in_1 ?_
  refine AW.icmp_lt X (pc := 2) 14 d_M_in_2 (by decide) (fun c_2 => ?_) (fun c_2 => ?_)
  · refine AW.iconst X (pc := 14) (v := 0) (by decide) d_M_in_14 ?_
    exact hret 15 _ _ _ d_M_in_15 rfl ⟨by simp [bi, c_2], rfl⟩
  · refine AW.iload_n X (pc := 5) 0 rfl rfl d_M_in_5 ?_
    refine AW.iload_n X (pc := 6) 2 rfl rfl d_M_in_6 ?_
    refine AW.icmp_gt X (pc := 7) 14 d_M_in_7 (by decide) (fun c_7 => ?_) (fun c_7 => ?_)
    · refine AW.iconst X (pc := 14) (v := 0) (by decide) d_M_in_14 ?_
      exact hret 15 _ _ _ d_M_in_15 rfl ⟨by simp [bi, c_2, c_7], rfl⟩
    · refine AW.iconst X (pc := 10) (v := 1) (by decide) d_M_in_10 ?_
      refine AW.goto X (pc := 11) 15 d_M_in_11 (by decide) ?_
      exact hret 15 _ _ _ d_M_in_15 rfl ⟨by simp [bi, c_2, c_7], rfl⟩
set_option maxHeartbeats 4000000 in
set_option maxRecDepth 100000 in
theorem c_M_isUnit (K : KTy) (u : Int32) (μ : Mu) (hN : 272 ≤ KN K)  : CT K y_M_isUnit (k_M_isUnit :: GT) 1 [.int u] μ (fun v μ2 => v = some (.int (bi (okU u))) ∧ μ2 = μ) := by
  refine CT.bool (cc := b_M_isUnit) (maxL := 1) (by decide) rfl rfl (Nat.le_of_ble_eq_true rfl) ?_
  intro G ad N hK X hret
  subst hK
  have hN : 272 ≤ N := hN
  show AW G (rmD 1) 1 (0, 0, ad, N, fb) 0 [(0, .int u)] [] μ
  refine AW.iload_n X (pc := 0) 0 rfl rfl d_M_isUnit_0 ?_
  refine AW.iconst X (pc := 1) (v := 0) (by decide) d_M_isUnit_1 ?_
  refine AW.bipush X (pc := 2) (v := 59) (by decide) d_M_isUnit_2 ?_
  refine AW.callS X (pc := 4) (nA := 3) [.int u, .int 0, .int 59] [] (c_M_in (kOf G ad N) u 0 59 μ hN) (gv_S wm_M_76 ws_M_in wn_M kw_M_in) rfl (by decide +kernel) rfl ⟨Nat.le_of_ble_eq_true rfl, Nat.le_of_ble_eq_true rfl⟩ ⟨Nat.zero_le _, Nat.zero_le _⟩ (Nat.le_of_ble_eq_true rfl) d_M_isUnit_4 rfl (fun v μ2 hq => ?_)
  obtain ⟨rfl, hm⟩ := hq
  rw [hm]
  clear hm
  show AW G (rmD 1) 1 (0, 0, ad, N, fb) 7 [(0, .int u)] [.int (bi (decide (¬ u < 0) && decide (¬ 59 < u)))] μ
  exact hret 7 _ _ _ d_M_isUnit_7 (bi_nar _) ⟨by rw [okU_59], rfl⟩
set_option maxHeartbeats 4000000 in
set_option maxRecDepth 100000 in
theorem c_M_isDay (K : KTy) (d : Int32) (μ : Mu) (hN : 272 ≤ KN K)  : CT K y_M_isDay (k_M_isDay :: GT) 1 [.int d] μ (fun v μ2 => v = some (.int (bi (okD d))) ∧ μ2 = μ) := by
  refine CT.bool (cc := b_M_isDay) (maxL := 1) (by decide) rfl rfl (Nat.le_of_ble_eq_true rfl) ?_
  intro G ad N hK X hret
  subst hK
  have hN : 272 ≤ N := hN
  show AW G (rmD 1) 1 (0, 0, ad, N, fb) 0 [(0, .int d)] [] μ
  refine AW.iload_n X (pc := 0) 0 rfl rfl d_M_isDay_0 ?_
  refine AW.iconst X (pc := 1) (v := 0) (by decide) d_M_isDay_1 ?_
  refine AW.ldc X (pc := 2) (v := 1000000) (by decide +kernel) d_M_isDay_2 ?_
  refine AW.callS X (pc := 4) (nA := 3) [.int d, .int 0, .int 1000000] [] (c_M_in (kOf G ad N) d 0 1000000 μ hN) (gv_S wm_M_76 ws_M_in wn_M kw_M_in) rfl (by decide +kernel) rfl ⟨Nat.le_of_ble_eq_true rfl, Nat.le_of_ble_eq_true rfl⟩ ⟨Nat.zero_le _, Nat.zero_le _⟩ (Nat.le_of_ble_eq_true rfl) d_M_isDay_4 rfl (fun v μ2 hq => ?_)
  obtain ⟨rfl, hm⟩ := hq
  rw [hm]
  clear hm
  show AW G (rmD 1) 1 (0, 0, ad, N, fb) 7 [(0, .int d)] [.int (bi (decide (¬ d < 0) && decide (¬ 1000000 < d)))] μ
  exact hret 7 _ _ _ d_M_isDay_7 (bi_nar _) ⟨rfl, rfl⟩
set_option maxHeartbeats 4000000 in
set_option maxRecDepth 100000 in
theorem c_M_isRule (K : KTy) (nr : Nat) (x : Int32) (μ : Mu) (hN : 272 ≤ KN K) (hn : nr ≤ 20) (hr : μ 250 4 = nI nr) : CT K y_M_isRule (k_M_isRule :: GT) 1 [.ref 250, .int x] μ (fun v μ2 => v = some (.int (bi (okR nr x))) ∧ μ2 = μ) := by
  refine CT.bool (cc := b_M_isRule) (maxL := 2) (by decide) rfl rfl (Nat.le_of_ble_eq_true rfl) ?_
  intro G ad N hK X hret
  subst hK
  have hN : 272 ≤ N := hN
  show AW G (rmD 1) 2 (0, 0, ad, N, fb) 0 [(0, .ref 250), (1, .int x)] [] μ
  refine AW.iload_n X (pc := 0) 1 rfl rfl d_M_isRule_0 ?_
  refine AW.iconst X (pc := 1) (v := 0) (by decide) d_M_isRule_1 ?_
  refine AW.aload_n X (pc := 2) 0 rfl rfl d_M_isRule_2 ?_
  refine AW.get X (pc := 3) (k := 250) (ci := 5) (j := 4) (v := .int (μ 250 4)) (by omega) rfl rfl in_M (by decide) wf_M_81 rfl rfl d_M_isRule_3 ?_
  refine AW.val (w := .int (nI nr)) (congrArg Value.int (hr)) ?_
  refine AW.iconst X (pc := 6) (v := 1) (by decide) d_M_isRule_6 ?_
  refine AW.isub X (pc := 7) d_M_isRule_7 ?_
  refine AW.callS X (pc := 8) (nA := 3) [.int x, .int 0, .int ((nI nr) - 1)] [] (c_M_in (kOf G ad N) x 0 ((nI nr) - 1) μ hN) (gv_S wm_M_76 ws_M_in wn_M kw_M_in) rfl (by decide +kernel) rfl ⟨Nat.le_of_ble_eq_true rfl, Nat.le_of_ble_eq_true rfl⟩ ⟨Nat.zero_le _, Nat.zero_le _⟩ (Nat.le_of_ble_eq_true rfl) d_M_isRule_8 rfl (fun v μ2 hq => ?_)
  obtain ⟨rfl, hm⟩ := hq
  rw [hm]
  clear hm
  show AW G (rmD 1) 2 (0, 0, ad, N, fb) 11 [(0, .ref 250), (1, .int x)] [.int (bi (decide (¬ x < 0) && decide (¬ ((nI nr) - 1) < x)))] μ
  exact hret 11 _ _ _ d_M_isRule_11 (bi_nar _) ⟨by rw [okR_1 hn], rfl⟩
set_option maxHeartbeats 4000000 in
set_option maxRecDepth 100000 in
theorem c_M_thrown (K : KTy)  (μ : Mu) (hN : 272 ≤ KN K)  : CT K y_M_thrown (k_M_thrown :: GT) 0 [.ref 250] μ (fun v μ2 => v = some (.int (μ 250 0)) ∧ μ2 = μ) := by
  refine CT.int (cc := b_M_thrown) (maxL := 1) (by decide) rfl rfl (Nat.le_of_ble_eq_true rfl) ?_
  intro G ad N hK X hret
  subst hK
  have hN : 272 ≤ N := hN
  show AW G (rmD 0) 1 (0, 0, ad, N, fb) 0 [(0, .ref 250)] [] μ
  refine AW.aload_n X (pc := 0) 0 rfl rfl d_M_thrown_0 ?_
  refine AW.get X (pc := 1) (k := 250) (ci := 5) (j := 0) (v := .int (μ 250 0)) (by omega) rfl rfl in_M (by decide) wf_M_72 rfl rfl d_M_thrown_1 ?_
  exact hret 4 _ _ _ d_M_thrown_4 ⟨by first | rfl | simp [bi], rfl⟩
set_option maxHeartbeats 4000000 in
set_option maxRecDepth 100000 in
theorem c_M_yearsOn (K : KTy) (σ : Mu) (r nr : Nat) (on : Int32) (μ : Mu) (hN : 272 ≤ KN K) (hr : r < nr) (hI : CI σ nr) (hM : MR σ μ nr) (hV : VR σ nr) : CT K y_M_yearsOn (k_M_yearsOn :: GT) 0 [.ref 250, .int (nI r), .int on] μ (fun v μ2 => v = some (.int (f_years σ r on (ccN σ r))) ∧ μ2 = μ) := by
  refine CT.int (cc := b_M_yearsOn) (maxL := 5) (by decide) rfl rfl (Nat.le_of_ble_eq_true rfl) ?_
  intro G ad N hK X hret
  subst hK
  have hN : 272 ≤ N := hN
  have hnr := hI.nr
  show AW G (rmD 0) 5 (0, 0, ad, N, fb) 0 [(0, .ref 250), (1, .int (nI r)), (2, .int on)] [] μ
  have hcc := (hI.cc hr).2
  have key : ∀ (n : Nat) (j : Nat) (x : Int32) (y : Int32), ccN σ r - j < n → (j ≤ ccN σ r) → (x = nI (j + 1)) → (y = f_years σ r on j) → AW G (rmD 0) 5 (0, 0, ad, N, fb) 13 [(4, .int x), (3, .int y), (0, .ref 250), (1, .int (nI r)), (2, .int on)] [] μ := by
    intro n
    induction n with
    | zero =>
      intro j x y hlt
      exact absurd hlt (Nat.not_lt_zero _)
    | succ n ih =>
      intro j x y hlt hj ex ey
      subst ex
      subst ey
      refine AW.iload X (pc := 13) 0 rfl d_M_yearsOn_13 ?_
      refine AW.aload_n X (pc := 15) 2 rfl rfl d_M_yearsOn_15 ?_
      refine AW.get X (pc := 16) (k := 250) (ci := 5) (j := 8) (v := .ref 255) (by omega) rfl rfl in_M (by decide) wf_M_24 rfl rfl d_M_yearsOn_16 ?_
      refine AW.iload_n X (pc := 19) 3 rfl rfl d_M_yearsOn_19 ?_
      refine AW.ialdN X (pc := 20) (k := 255) (t := 0) (n := 20) (j := r) (by omega) rfl rfl (by omega) (by decide) d_M_yearsOn_20 ?_
      refine AW.val (w := .int (nI (ccN σ r))) (congrArg Value.int (hM.ch hr)) ?_
      refine AW.icmp_gt X (pc := 21) 63 d_M_yearsOn_21 (by decide) (fun c_21 => ?_) (fun c_21 => ?_)
      · rw [i_lt (nI_toInt (show ccN σ r < 2 ^ 31 by omega)) (nI_toInt (show j + 1 < 2 ^ 31 by omega))] at c_21
        refine AW.iload_n X (pc := 63) 1 rfl rfl d_M_yearsOn_63 ?_
        exact hret 64 _ _ _ d_M_yearsOn_64 ⟨by rw [show ccN σ r = j by omega], rfl⟩
      · rw [i_lt (nI_toInt (show ccN σ r < 2 ^ 31 by omega)) (nI_toInt (show j + 1 < 2 ^ 31 by omega))] at c_21
        refine AW.aload_n X (pc := 24) 2 rfl rfl d_M_yearsOn_24 ?_
        refine AW.get X (pc := 25) (k := 250) (ci := 5) (j := 10) (v := .ref 257) (by omega) rfl rfl in_M (by decide) wf_M_30 rfl rfl d_M_yearsOn_25 ?_
        refine AW.bipush X (pc := 28) (v := 6) (by decide) d_M_yearsOn_28 ?_
        refine AW.iload_n X (pc := 30) 3 rfl rfl d_M_yearsOn_30 ?_
        refine AW.imul X (pc := 31) d_M_yearsOn_31 ?_
        refine AW.val (w := .int (nI (6 * r))) (congrArg Value.int (pk_mul 6 r)) ?_
        refine AW.iload X (pc := 32) 0 rfl d_M_yearsOn_32 ?_
        refine AW.iadd X (pc := 34) d_M_yearsOn_34 ?_
        refine AW.val (w := .int (nI ((6 * r) + (j + 1)))) (congrArg Value.int (nI_add (6 * r) (j + 1))) ?_
        refine AW.ialdN X (pc := 35) (k := 257) (t := 0) (n := 120) (j := (6 * r) + (j + 1)) (by omega) rfl rfl (by omega) (by decide) d_M_yearsOn_35 ?_
        refine AW.val (w := .int (σ (272 + 3 * r + 1) j)) (congrArg Value.int (hM.sn hr (show j < ccN σ r by omega))) ?_
        refine AW.iload_n X (pc := 36) 4 rfl rfl d_M_yearsOn_36 ?_
        refine AW.icmp_gt X (pc := 37) 55 d_M_yearsOn_37 (by decide) (fun c_37 => ?_) (fun c_37 => ?_)
        · refine AW.iload_n X (pc := 55) 1 rfl rfl d_M_yearsOn_55 ?_
          refine AW.istore_n X (pc := 56) (lv2 := [(3, .int (f_years σ r on j)), (4, .int (nI (j + 1))), (0, .ref 250), (1, .int (nI r)), (2, .int on)]) rfl d_M_yearsOn_56 (by decide) rfl ?_
          refine AW.iinc X (pc := 57) (v := nI (j + 2)) (lv2 := [(4, .int (nI (j + 2))), (3, .int (f_years σ r on j)), (0, .ref 250), (1, .int (nI r)), (2, .int on)]) 1 rfl (nI_1 _) d_M_yearsOn_57 (by decide) rfl ?_
          refine AW.goto X (pc := 60) 13 d_M_yearsOn_60 (by decide) ?_
          refine AW.locs (lv2 := [(4, .int (nI (j + 2))), (3, .int (f_years σ r on j)), (0, .ref 250), (1, .int (nI r)), (2, .int on)]) [0, 1, 2, 3, 4] rfl ?_
          exact ih (j + 1) _ _ (by omega) (by omega) rfl (by rw [f_years, if_pos c_37])
        · refine AW.aload_n X (pc := 40) 2 rfl rfl d_M_yearsOn_40 ?_
          refine AW.get X (pc := 41) (k := 250) (ci := 5) (j := 9) (v := .ref 256) (by omega) rfl rfl in_M (by decide) wf_M_27 rfl rfl d_M_yearsOn_41 ?_
          refine AW.bipush X (pc := 44) (v := 6) (by decide) d_M_yearsOn_44 ?_
          refine AW.iload_n X (pc := 46) 3 rfl rfl d_M_yearsOn_46 ?_
          refine AW.imul X (pc := 47) d_M_yearsOn_47 ?_
          refine AW.val (w := .int (nI (6 * r))) (congrArg Value.int (pk_mul 6 r)) ?_
          refine AW.iload X (pc := 48) 0 rfl d_M_yearsOn_48 ?_
          refine AW.iadd X (pc := 50) d_M_yearsOn_50 ?_
          refine AW.val (w := .int (nI ((6 * r) + (j + 1)))) (congrArg Value.int (nI_add (6 * r) (j + 1))) ?_
          refine AW.ialdN X (pc := 51) (k := 256) (t := 0) (n := 120) (j := (6 * r) + (j + 1)) (by omega) rfl rfl (by omega) (by decide) d_M_yearsOn_51 ?_
          refine AW.val (w := .int (σ (272 + 3 * r + 2) j)) (congrArg Value.int (hM.yr hr (show j < ccN σ r by omega))) ?_
          refine AW.goto X (pc := 52) 56 d_M_yearsOn_52 (by decide) ?_
          refine AW.istore_n X (pc := 56) (lv2 := [(3, .int (σ (272 + 3 * r + 2) j)), (4, .int (nI (j + 1))), (0, .ref 250), (1, .int (nI r)), (2, .int on)]) rfl d_M_yearsOn_56 (by decide) rfl ?_
          refine AW.iinc X (pc := 57) (v := nI (j + 2)) (lv2 := [(4, .int (nI (j + 2))), (3, .int (σ (272 + 3 * r + 2) j)), (0, .ref 250), (1, .int (nI r)), (2, .int on)]) 1 rfl (nI_1 _) d_M_yearsOn_57 (by decide) rfl ?_
          refine AW.goto X (pc := 60) 13 d_M_yearsOn_60 (by decide) ?_
          refine AW.locs (lv2 := [(4, .int (nI (j + 2))), (3, .int (σ (272 + 3 * r + 2) j)), (0, .ref 250), (1, .int (nI r)), (2, .int on)]) [0, 1, 2, 3, 4] rfl ?_
          exact ih (j + 1) _ _ (by omega) (by omega) rfl (by rw [f_years, if_neg c_37])
  refine AW.aload_n X (pc := 0) 0 rfl rfl d_M_yearsOn_0 ?_
  refine AW.get X (pc := 1) (k := 250) (ci := 5) (j := 9) (v := .ref 256) (by omega) rfl rfl in_M (by decide) wf_M_27 rfl rfl d_M_yearsOn_1 ?_
  refine AW.bipush X (pc := 4) (v := 6) (by decide) d_M_yearsOn_4 ?_
  refine AW.iload_n X (pc := 6) 1 rfl rfl d_M_yearsOn_6 ?_
  refine AW.imul X (pc := 7) d_M_yearsOn_7 ?_
  refine AW.val (w := .int (nI (6 * r))) (congrArg Value.int (pk_mul 6 r)) ?_
  refine AW.ialdN X (pc := 8) (k := 256) (t := 0) (n := 120) (j := 6 * r) (by omega) rfl rfl (by omega) (by decide) d_M_yearsOn_8 ?_
  refine AW.val (w := .int (σ (272 + 3 * r) 1)) (congrArg Value.int (hM.y0 hr)) ?_
  refine AW.istore_n X (pc := 9) (lv2 := [(3, .int (σ (272 + 3 * r) 1)), (0, .ref 250), (1, .int (nI r)), (2, .int on)]) rfl d_M_yearsOn_9 (by decide) rfl ?_
  refine AW.iconst X (pc := 10) (v := 1) (by decide) d_M_yearsOn_10 ?_
  refine AW.istore X (pc := 11) (lv2 := [(4, .int 1), (3, .int (σ (272 + 3 * r) 1)), (0, .ref 250), (1, .int (nI r)), (2, .int on)]) d_M_yearsOn_11 (by decide) rfl ?_
  exact key (ccN σ r + 1) 0 _ _ (by omega) (Nat.zero_le _) rfl rfl
set_option maxHeartbeats 4000000 in
set_option maxRecDepth 100000 in
theorem c_M_dayOf (K : KTy) (σ : Mu) (i r nr : Nat) (on : Int32) (μ : Mu) (hN : 272 ≤ KN K) (hi : i < 60) (hr : r < nr) (hI : CI σ nr) (hM : MR σ μ nr) (hV : VR σ nr) : CT K y_M_dayOf (k_M_dayOf :: GT) 1 [.ref 250, .int (nI i), .int (nI r), .int on] μ (fun v μ2 => v = some (.int (f_rday σ r (σ (5 + 4 * i + 1) (ekN σ r)) on)) ∧ μ2 = μ) := by
  refine CT.int (cc := b_M_dayOf) (maxL := 5) (by decide) rfl rfl (Nat.le_of_ble_eq_true rfl) ?_
  intro G ad N hK X hret
  subst hK
  have hN : 272 ≤ N := hN
  have hnr := hI.nr
  show AW G (rmD 1) 5 (0, 0, ad, N, fb) 0 [(0, .ref 250), (1, .int (nI i)), (2, .int (nI r)), (3, .int on)] [] μ
  have hek := (hI.ek hr).2
  have he0 : e0 (σ (5 + 4 * i + 1) (ekN σ r)) := by rcases hV.ev hi hek with h | ⟨d, hd, h⟩; exact Or.inl h; exact Or.inr (by rw [h]; exact nI_pos' (by omega))
  refine AW.aload_n X (pc := 0) 0 rfl rfl d_M_dayOf_0 ?_
  refine AW.get X (pc := 1) (k := 250) (ci := 5) (j := 11) (v := .ref 258) (by omega) rfl rfl in_M (by decide) wf_M_33 rfl rfl d_M_dayOf_1 ?_
  refine AW.iconst X (pc := 4) (v := 4) (by decide) d_M_dayOf_4 ?_
  refine AW.iload_n X (pc := 5) 1 rfl rfl d_M_dayOf_5 ?_
  refine AW.imul X (pc := 6) d_M_dayOf_6 ?_
  refine AW.val (w := .int (nI (4 * i))) (congrArg Value.int (pk_mul 4 i)) ?_
  refine AW.aload_n X (pc := 7) 0 rfl rfl d_M_dayOf_7 ?_
  refine AW.get X (pc := 8) (k := 250) (ci := 5) (j := 5) (v := .ref 252) (by omega) rfl rfl in_M (by decide) wf_M_13 rfl rfl d_M_dayOf_8 ?_
  refine AW.iload_n X (pc := 11) 2 rfl rfl d_M_dayOf_11 ?_
  refine AW.ialdN X (pc := 12) (k := 252) (t := 0) (n := 20) (j := r) (by omega) rfl rfl (by omega) (by decide) d_M_dayOf_12 ?_
  refine AW.val (w := .int (nI (ekN σ r))) (congrArg Value.int (hM.oe hr)) ?_
  refine AW.iadd X (pc := 13) d_M_dayOf_13 ?_
  refine AW.val (w := .int (nI ((4 * i) + (ekN σ r)))) (congrArg Value.int (nI_add (4 * i) (ekN σ r))) ?_
  refine AW.ialdN X (pc := 14) (k := 258) (t := 0) (n := 240) (j := (4 * i) + (ekN σ r)) (by omega) rfl rfl (by omega) (by decide) d_M_dayOf_14 ?_
  refine AW.val (w := .int (σ (5 + 4 * i + 1) (ekN σ r))) (congrArg Value.int (hM.ev hi (hI.ek hr).2)) ?_
  refine AW.istore X (pc := 15) (lv2 := [(4, .int (σ (5 + 4 * i + 1) (ekN σ r))), (0, .ref 250), (1, .int (nI i)), (2, .int (nI r)), (3, .int on)]) d_M_dayOf_15 (by decide) rfl ?_
  refine AW.iload X (pc := 17) 0 rfl d_M_dayOf_17 ?_
  refine AW.if_ge X (pc := 19) 26 d_M_dayOf_19 (by decide) (fun c_19 => ?_) (fun c_19 => ?_)
  · have c_19 := (e0_ge he0).mp c_19
    refine AW.iload X (pc := 26) 0 rfl d_M_dayOf_26 ?_
    refine AW.sipush X (pc := 28) (v := 365) (by decide) d_M_dayOf_28 ?_
    refine AW.aload_n X (pc := 31) 1 rfl rfl d_M_dayOf_31 ?_
    refine AW.iload_n X (pc := 32) 3 rfl rfl d_M_dayOf_32 ?_
    refine AW.iload_n X (pc := 33) 4 rfl rfl d_M_dayOf_33 ?_
    refine AW.callV X (pc := 34) (b := 250) (ci := 5) (nA := 2) [.int (nI r), .int on] [.int 365, .int (σ (5 + 4 * i + 1) (ekN σ r))] (c_M_yearsOn (kOf G ad N) σ r nr on μ hN hr hI hM hV) (gv_V wm_M_152 wi_M_yearsOn wl_M_yearsOn wn_M kw_M_yearsOn) rfl (by decide +kernel) rfl (by omega) rfl rfl ⟨Nat.le_of_ble_eq_true rfl, Nat.le_of_ble_eq_true rfl⟩ ⟨Nat.zero_le _, Nat.zero_le _⟩ (Nat.le_of_ble_eq_true rfl) d_M_dayOf_34 rfl (fun v μ2 hq => ?_)
    obtain ⟨rfl, hm⟩ := hq
    rw [hm]
    clear hm
    show AW G (rmD 1) 5 (0, 0, ad, N, fb) 37 [(4, .int (σ (5 + 4 * i + 1) (ekN σ r))), (0, .ref 250), (1, .int (nI i)), (2, .int (nI r)), (3, .int on)] [.int (f_years σ r on (ccN σ r)), .int 365, .int (σ (5 + 4 * i + 1) (ekN σ r))] μ
    refine AW.imul X (pc := 37) d_M_dayOf_37 ?_
    refine AW.iadd X (pc := 38) d_M_dayOf_38 ?_
    exact hret 39 _ _ _ d_M_dayOf_39 ⟨by rw [f_rday]; first | rw [if_pos c_19] | (rw [if_neg c_19, Int32.mul_comm]), rfl⟩
  · have c_19 := (e0_lt he0).mp (Int32.not_le.mp c_19)
    refine AW.iconst X (pc := 22) (v := -1) (by decide) d_M_dayOf_22 ?_
    refine AW.goto X (pc := 23) 39 d_M_dayOf_23 (by decide) ?_
    exact hret 39 _ _ _ d_M_dayOf_39 ⟨by rw [f_rday]; first | rw [if_pos c_19] | (rw [if_neg c_19, Int32.mul_comm]), rfl⟩
set_option maxHeartbeats 4000000 in
set_option maxRecDepth 100000 in
theorem c_M_fails (K : KTy) (σ : Mu) (i nr : Nat) (μ : Mu) (hN : 272 ≤ KN K) (hi : i < 60) (hI : CI σ nr) (hM : MR σ μ nr) (hV : VR σ nr) : CT K y_M_fails (k_M_fails :: GT) 0 [.ref 250, .int (nI i)] μ (fun v μ2 => v = some (.int (bi (f_fails σ i))) ∧ μ2 = μ) := by
  refine CT.bool (cc := b_M_fails) (maxL := 4) (by decide) rfl rfl (Nat.le_of_ble_eq_true rfl) ?_
  intro G ad N hK X hret
  subst hK
  have hN : 272 ≤ N := hN
  have hnr := hI.nr
  have hrn := (hI.rn hi).2
  show AW G (rmD 0) 4 (0, 0, ad, N, fb) 0 [(0, .ref 250), (1, .int (nI i))] [] μ
  have key : ∀ (n j : Nat) (x y : Int32) (b : Bool), rnN σ i - j < n → j ≤ rnN σ i → x = nI j → y = bi b → b = anyB (fun q => brB σ (rwN σ i q)) j → AW G (rmD 0) 4 (0, 0, ad, N, fb) 4 [(3, .int x), (2, .int y), (0, .ref 250), (1, .int (nI i))] [] μ := by
    intro n
    induction n with
    | zero =>
      intro j x y b hlt
      exact absurd hlt (Nat.not_lt_zero _)
    | succ n ih =>
      intro j x y b hlt hj ex ey hb
      subst ex
      subst ey
      refine AW.iload_n X (pc := 4) 0 rfl rfl d_M_fails_4 ?_
      refine AW.aload_n X (pc := 5) 2 rfl rfl d_M_fails_5 ?_
      refine AW.get X (pc := 6) (k := 250) (ci := 5) (j := 13) (v := .ref 260) (by omega) rfl rfl in_M (by decide) wf_M_39 rfl rfl d_M_fails_6 ?_
      refine AW.iload_n X (pc := 9) 3 rfl rfl d_M_fails_9 ?_
      refine AW.ialdN X (pc := 10) (k := 260) (t := 0) (n := 60) (j := i) (by omega) rfl rfl (by omega) (by decide) d_M_fails_10 ?_
      refine AW.val (w := .int (nI (rnN σ i))) (congrArg Value.int (hM.sc hi)) ?_
      refine AW.icmp_ge X (pc := 11) 48 d_M_fails_11 (by decide) (fun c_11 => ?_) (fun c_11 => ?_)
      · rw [i_le (nI_toInt (show rnN σ i < 2 ^ 31 by omega)) (nI_toInt (show j < 2 ^ 31 by omega))] at c_11
        refine AW.iload_n X (pc := 48) 1 rfl rfl d_M_fails_48 ?_
        exact hret 49 _ _ _ d_M_fails_49 (bi_nar _) ⟨by rw [hb, f_fails, show rnN σ i = j by omega], rfl⟩
      · rw [i_le (nI_toInt (show rnN σ i < 2 ^ 31 by omega)) (nI_toInt (show j < 2 ^ 31 by omega))] at c_11
        have hw := (hI.rw hi (show j < rnN σ i by omega)).2
        refine AW.iload_n X (pc := 14) 1 rfl rfl d_M_fails_14 ?_
        refine AW.if_ne X (pc := 15) 36 d_M_fails_15 (by decide) (fun c_15 => ?_) (fun c_15 => ?_)
        · have c_15 := bi_ne.mp c_15
          refine AW.iconst X (pc := 36) (v := 1) (by decide) d_M_fails_36 ?_
          refine AW.goto X (pc := 37) 41 d_M_fails_37 (by decide) ?_
          refine AW.istore_n X (pc := 41) (lv2 := [(2, .int 1), (3, .int (nI j)), (0, .ref 250), (1, .int (nI i))]) rfl d_M_fails_41 (by decide) rfl ?_
          refine AW.iinc X (pc := 42) (v := nI (j + 1)) (lv2 := [(3, .int (nI (j + 1))), (2, .int 1), (0, .ref 250), (1, .int (nI i))]) 1 rfl (nI_1 _) d_M_fails_42 (by decide) rfl ?_
          refine AW.goto X (pc := 45) 4 d_M_fails_45 (by decide) ?_
          refine AW.locs (lv2 := [(3, .int (nI (j + 1))), (2, .int 1), (0, .ref 250), (1, .int (nI i))]) [0, 1, 2, 3] rfl ?_
          exact ih (j + 1) _ _ true (by omega) (by omega) rfl rfl (by rw [anyB_succ, ← hb]; simp [c_15])
        · have c_15 := bi_eq.mp c_15
          refine AW.aload_n X (pc := 18) 2 rfl rfl d_M_fails_18 ?_
          refine AW.get X (pc := 19) (k := 250) (ci := 5) (j := 7) (v := .ref 254) (by omega) rfl rfl in_M (by decide) wf_M_20 rfl rfl d_M_fails_19 ?_
          refine AW.aload_n X (pc := 22) 2 rfl rfl d_M_fails_22 ?_
          refine AW.get X (pc := 23) (k := 250) (ci := 5) (j := 12) (v := .ref 259) (by omega) rfl rfl in_M (by decide) wf_M_36 rfl rfl d_M_fails_23 ?_
          refine AW.iconst X (pc := 26) (v := 4) (by decide) d_M_fails_26 ?_
          refine AW.iload_n X (pc := 27) 3 rfl rfl d_M_fails_27 ?_
          refine AW.imul X (pc := 28) d_M_fails_28 ?_
          refine AW.val (w := .int (nI (4 * i))) (congrArg Value.int (pk_mul 4 i)) ?_
          refine AW.iload_n X (pc := 29) 0 rfl rfl d_M_fails_29 ?_
          refine AW.iadd X (pc := 30) d_M_fails_30 ?_
          refine AW.val (w := .int (nI ((4 * i) + j))) (congrArg Value.int (nI_add (4 * i) j)) ?_
          refine AW.ialdN X (pc := 31) (k := 259) (t := 0) (n := 240) (j := (4 * i) + j) (by omega) rfl rfl (by omega) (by decide) d_M_fails_31 ?_
          refine AW.val (w := .int (nI (rwN σ i j))) (congrArg Value.int (hM.sd hi (show j < rnN σ i by omega))) ?_
          refine AW.zaldN X (pc := 32) (k := 254) (t := 5) (n := 20) (j := rwN σ i j) (by omega) rfl rfl (by omega) (by decide) d_M_fails_32 ?_
          refine AW.val (w := .int (bi (brB σ (rwN σ i j)))) (congrArg Value.int (hM.bk hw)) ?_
          refine AW.if_eq X (pc := 33) 40 d_M_fails_33 (by decide) (fun c_33 => ?_) (fun c_33 => ?_)
          · have c_33 := bi_eq.mp c_33
            refine AW.iconst X (pc := 40) (v := 0) (by decide) d_M_fails_40 ?_
            refine AW.istore_n X (pc := 41) (lv2 := [(2, .int 0), (3, .int (nI j)), (0, .ref 250), (1, .int (nI i))]) rfl d_M_fails_41 (by decide) rfl ?_
            refine AW.iinc X (pc := 42) (v := nI (j + 1)) (lv2 := [(3, .int (nI (j + 1))), (2, .int 0), (0, .ref 250), (1, .int (nI i))]) 1 rfl (nI_1 _) d_M_fails_42 (by decide) rfl ?_
            refine AW.goto X (pc := 45) 4 d_M_fails_45 (by decide) ?_
            refine AW.locs (lv2 := [(3, .int (nI (j + 1))), (2, .int 0), (0, .ref 250), (1, .int (nI i))]) [0, 1, 2, 3] rfl ?_
            exact ih (j + 1) _ _ false (by omega) (by omega) rfl rfl (by rw [anyB_succ, ← hb]; simp [c_15, c_33])
          · have c_33 := bi_ne.mp c_33
            refine AW.iconst X (pc := 36) (v := 1) (by decide) d_M_fails_36 ?_
            refine AW.goto X (pc := 37) 41 d_M_fails_37 (by decide) ?_
            refine AW.istore_n X (pc := 41) (lv2 := [(2, .int 1), (3, .int (nI j)), (0, .ref 250), (1, .int (nI i))]) rfl d_M_fails_41 (by decide) rfl ?_
            refine AW.iinc X (pc := 42) (v := nI (j + 1)) (lv2 := [(3, .int (nI (j + 1))), (2, .int 1), (0, .ref 250), (1, .int (nI i))]) 1 rfl (nI_1 _) d_M_fails_42 (by decide) rfl ?_
            refine AW.goto X (pc := 45) 4 d_M_fails_45 (by decide) ?_
            refine AW.locs (lv2 := [(3, .int (nI (j + 1))), (2, .int 1), (0, .ref 250), (1, .int (nI i))]) [0, 1, 2, 3] rfl ?_
            exact ih (j + 1) _ _ true (by omega) (by omega) rfl rfl (by rw [anyB_succ, ← hb]; simp [c_15, c_33])
  refine AW.iconst X (pc := 0) (v := 0) (by decide) d_M_fails_0 ?_
  refine AW.istore_n X (pc := 1) (lv2 := [(2, .int 0), (0, .ref 250), (1, .int (nI i))]) rfl d_M_fails_1 (by decide) rfl ?_
  refine AW.iconst X (pc := 2) (v := 0) (by decide) d_M_fails_2 ?_
  refine AW.istore_n X (pc := 3) (lv2 := [(3, .int 0), (2, .int 0), (0, .ref 250), (1, .int (nI i))]) rfl d_M_fails_3 (by decide) rfl ?_
  exact key (rnN σ i + 1) 0 _ _ false (by omega) (Nat.zero_le _) nI_0.symm rfl rfl
set_option maxHeartbeats 4000000 in
set_option maxRecDepth 100000 in
theorem c_M_isHeld (K : KTy) (σ : Mu) (i nr : Nat) (dd : Int32) (μ : Mu) (hN : 272 ≤ KN K) (hi : i < 60) (hI : CI σ nr) (hM : MR σ μ nr) (hV : VR σ nr) : CT K y_M_isHeld (k_M_isHeld :: GT) 0 [.ref 250, .int (nI i), .int dd] μ (fun v μ2 => v = some (.int (bi (f_held σ i dd))) ∧ μ2 = μ) := by
  refine CT.bool (cc := b_M_isHeld) (maxL := 5) (by decide) rfl rfl (Nat.le_of_ble_eq_true rfl) ?_
  intro G ad N hK X hret
  subst hK
  have hN : 272 ≤ N := hN
  have hnr := hI.nr
  have hrn := (hI.rn hi).2
  show AW G (rmD 0) 5 (0, 0, ad, N, fb) 0 [(0, .ref 250), (1, .int (nI i)), (2, .int dd)] [] μ
  have key : ∀ (n j : Nat) (x y : Int32) (b : Bool), 4 - j < n → j ≤ 4 → x = nI (4 * i + j) → y = bi b → b = anyB (fun q => decide (σ (5 + 4 * i + 3) q = -1) || decide (¬ σ (5 + 4 * i + 3) q < dd)) j → AW G (rmD 0) 5 (0, 0, ad, N, fb) 7 [(4, .int x), (3, .int y), (0, .ref 250), (1, .int (nI i)), (2, .int dd)] [] μ := by
    intro n
    induction n with
    | zero =>
      intro j x y b hlt
      exact absurd hlt (Nat.not_lt_zero _)
    | succ n ih =>
      intro j x y b hlt hj ex ey hb
      subst ex
      subst ey
      refine AW.iload X (pc := 7) 0 rfl d_M_isHeld_7 ?_
      refine AW.iconst X (pc := 9) (v := 4) (by decide) d_M_isHeld_9 ?_
      refine AW.iload_n X (pc := 10) 3 rfl rfl d_M_isHeld_10 ?_
      refine AW.imul X (pc := 11) d_M_isHeld_11 ?_
      refine AW.val (w := .int (nI (4 * i))) (congrArg Value.int (pk_mul 4 i)) ?_
      refine AW.iconst X (pc := 12) (v := 4) (by decide) d_M_isHeld_12 ?_
      refine AW.iadd X (pc := 13) d_M_isHeld_13 ?_
      refine AW.val (w := .int (nI ((4 * i) + 4))) (congrArg Value.int (nI_add (4 * i) 4)) ?_
      refine AW.icmp_ge X (pc := 14) 55 d_M_isHeld_14 (by decide) (fun c_14 => ?_) (fun c_14 => ?_)
      · rw [i_le (nI_toInt (show 4 * i + 4 < 2 ^ 31 by omega)) (nI_toInt (show 4 * i + j < 2 ^ 31 by omega))] at c_14
        refine AW.iload_n X (pc := 55) 1 rfl rfl d_M_isHeld_55 ?_
        exact hret 56 _ _ _ d_M_isHeld_56 (bi_nar _) ⟨by rw [hb, f_held, show (4 : Nat) = j by omega], rfl⟩
      · rw [i_le (nI_toInt (show 4 * i + 4 < 2 ^ 31 by omega)) (nI_toInt (show 4 * i + j < 2 ^ 31 by omega))] at c_14
        refine AW.iload_n X (pc := 17) 1 rfl rfl d_M_isHeld_17 ?_
        refine AW.if_ne X (pc := 18) 43 d_M_isHeld_18 (by decide) (fun c_18 => ?_) (fun c_18 => ?_)
        · have c_18 := bi_ne.mp c_18
          refine AW.iconst X (pc := 43) (v := 1) (by decide) d_M_isHeld_43 ?_
          refine AW.goto X (pc := 44) 48 d_M_isHeld_44 (by decide) ?_
          refine AW.istore_n X (pc := 48) (lv2 := [(3, .int 1), (4, .int (nI (4 * i + j))), (0, .ref 250), (1, .int (nI i)), (2, .int dd)]) rfl d_M_isHeld_48 (by decide) rfl ?_
          refine AW.iinc X (pc := 49) (v := (nI (4 * i + j)) + 1) (lv2 := [(4, .int ((nI (4 * i + j)) + 1)), (3, .int 1), (0, .ref 250), (1, .int (nI i)), (2, .int dd)]) 1 rfl rfl d_M_isHeld_49 (by decide) rfl ?_
          refine AW.goto X (pc := 52) 7 d_M_isHeld_52 (by decide) ?_
          refine AW.locs (lv2 := [(4, .int ((nI (4 * i + j)) + 1)), (3, .int 1), (0, .ref 250), (1, .int (nI i)), (2, .int dd)]) [0, 1, 2, 3, 4] rfl ?_
          exact ih (j + 1) _ _ true (by omega) (by omega) (nI_1 _) rfl (by rw [anyB_succ, ← hb]; simp [c_18])
        · have c_18 := bi_eq.mp c_18
          refine AW.aload_n X (pc := 21) 2 rfl rfl d_M_isHeld_21 ?_
          refine AW.get X (pc := 22) (k := 250) (ci := 5) (j := 14) (v := .ref 261) (by omega) rfl rfl in_M (by decide) wf_M_42 rfl rfl d_M_isHeld_22 ?_
          refine AW.iload X (pc := 25) 0 rfl d_M_isHeld_25 ?_
          refine AW.ialdN X (pc := 27) (k := 261) (t := 0) (n := 240) (j := 4 * i + j) (by omega) rfl rfl (by omega) (by decide) d_M_isHeld_27 ?_
          refine AW.val (w := .int (σ (5 + 4 * i + 3) j)) (congrArg Value.int (hM.ho hi (show j < 4 by omega))) ?_
          refine AW.iconst X (pc := 28) (v := -1) (by decide) d_M_isHeld_28 ?_
          refine AW.icmp_eq X (pc := 29) 43 d_M_isHeld_29 (by decide) (fun c_29 => ?_) (fun c_29 => ?_)
          · refine AW.iconst X (pc := 43) (v := 1) (by decide) d_M_isHeld_43 ?_
            refine AW.goto X (pc := 44) 48 d_M_isHeld_44 (by decide) ?_
            refine AW.istore_n X (pc := 48) (lv2 := [(3, .int 1), (4, .int (nI (4 * i + j))), (0, .ref 250), (1, .int (nI i)), (2, .int dd)]) rfl d_M_isHeld_48 (by decide) rfl ?_
            refine AW.iinc X (pc := 49) (v := (nI (4 * i + j)) + 1) (lv2 := [(4, .int ((nI (4 * i + j)) + 1)), (3, .int 1), (0, .ref 250), (1, .int (nI i)), (2, .int dd)]) 1 rfl rfl d_M_isHeld_49 (by decide) rfl ?_
            refine AW.goto X (pc := 52) 7 d_M_isHeld_52 (by decide) ?_
            refine AW.locs (lv2 := [(4, .int ((nI (4 * i + j)) + 1)), (3, .int 1), (0, .ref 250), (1, .int (nI i)), (2, .int dd)]) [0, 1, 2, 3, 4] rfl ?_
            exact ih (j + 1) _ _ true (by omega) (by omega) (nI_1 _) rfl (by rw [anyB_succ, ← hb]; simp [c_18, c_29])
          · refine AW.aload_n X (pc := 32) 2 rfl rfl d_M_isHeld_32 ?_
            refine AW.get X (pc := 33) (k := 250) (ci := 5) (j := 14) (v := .ref 261) (by omega) rfl rfl in_M (by decide) wf_M_42 rfl rfl d_M_isHeld_33 ?_
            refine AW.iload X (pc := 36) 0 rfl d_M_isHeld_36 ?_
            refine AW.ialdN X (pc := 38) (k := 261) (t := 0) (n := 240) (j := 4 * i + j) (by omega) rfl rfl (by omega) (by decide) d_M_isHeld_38 ?_
            refine AW.val (w := .int (σ (5 + 4 * i + 3) j)) (congrArg Value.int (hM.ho hi (show j < 4 by omega))) ?_
            refine AW.iload_n X (pc := 39) 4 rfl rfl d_M_isHeld_39 ?_
            refine AW.icmp_lt X (pc := 40) 47 d_M_isHeld_40 (by decide) (fun c_40 => ?_) (fun c_40 => ?_)
            · refine AW.iconst X (pc := 47) (v := 0) (by decide) d_M_isHeld_47 ?_
              refine AW.istore_n X (pc := 48) (lv2 := [(3, .int 0), (4, .int (nI (4 * i + j))), (0, .ref 250), (1, .int (nI i)), (2, .int dd)]) rfl d_M_isHeld_48 (by decide) rfl ?_
              refine AW.iinc X (pc := 49) (v := (nI (4 * i + j)) + 1) (lv2 := [(4, .int ((nI (4 * i + j)) + 1)), (3, .int 0), (0, .ref 250), (1, .int (nI i)), (2, .int dd)]) 1 rfl rfl d_M_isHeld_49 (by decide) rfl ?_
              refine AW.goto X (pc := 52) 7 d_M_isHeld_52 (by decide) ?_
              refine AW.locs (lv2 := [(4, .int ((nI (4 * i + j)) + 1)), (3, .int 0), (0, .ref 250), (1, .int (nI i)), (2, .int dd)]) [0, 1, 2, 3, 4] rfl ?_
              exact ih (j + 1) _ _ false (by omega) (by omega) (nI_1 _) rfl (by rw [anyB_succ, ← hb]; simp [c_18, c_29, c_40])
            · refine AW.iconst X (pc := 43) (v := 1) (by decide) d_M_isHeld_43 ?_
              refine AW.goto X (pc := 44) 48 d_M_isHeld_44 (by decide) ?_
              refine AW.istore_n X (pc := 48) (lv2 := [(3, .int 1), (4, .int (nI (4 * i + j))), (0, .ref 250), (1, .int (nI i)), (2, .int dd)]) rfl d_M_isHeld_48 (by decide) rfl ?_
              refine AW.iinc X (pc := 49) (v := (nI (4 * i + j)) + 1) (lv2 := [(4, .int ((nI (4 * i + j)) + 1)), (3, .int 1), (0, .ref 250), (1, .int (nI i)), (2, .int dd)]) 1 rfl rfl d_M_isHeld_49 (by decide) rfl ?_
              refine AW.goto X (pc := 52) 7 d_M_isHeld_52 (by decide) ?_
              refine AW.locs (lv2 := [(4, .int ((nI (4 * i + j)) + 1)), (3, .int 1), (0, .ref 250), (1, .int (nI i)), (2, .int dd)]) [0, 1, 2, 3, 4] rfl ?_
              exact ih (j + 1) _ _ true (by omega) (by omega) (nI_1 _) rfl (by rw [anyB_succ, ← hb]; simp [c_18, c_29, c_40])
  refine AW.iconst X (pc := 0) (v := 0) (by decide) d_M_isHeld_0 ?_
  refine AW.istore_n X (pc := 1) (lv2 := [(3, .int 0), (0, .ref 250), (1, .int (nI i)), (2, .int dd)]) rfl d_M_isHeld_1 (by decide) rfl ?_
  refine AW.iconst X (pc := 2) (v := 4) (by decide) d_M_isHeld_2 ?_
  refine AW.iload_n X (pc := 3) 2 rfl rfl d_M_isHeld_3 ?_
  refine AW.imul X (pc := 4) d_M_isHeld_4 ?_
  refine AW.val (w := .int (nI (4 * i))) (congrArg Value.int (pk_mul 4 i)) ?_
  refine AW.istore X (pc := 5) (lv2 := [(4, .int (nI (4 * i))), (3, .int 0), (0, .ref 250), (1, .int (nI i)), (2, .int dd)]) d_M_isHeld_5 (by decide) rfl ?_
  exact key 5 0 _ _ false (by omega) (Nat.zero_le _) rfl rfl rfl
end
