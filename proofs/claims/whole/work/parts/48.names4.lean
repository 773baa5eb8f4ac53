abbrev b_W_at : ByteArray := method_3_code
def y_W_at : MethodName := ⟨R_W, "at", "(LRetentionRows;II[J)I"⟩
abbrev k_W_at : Cond := .codeWith y_W_at b_W_at 5 (some .int) [(0, 10, 13, 13)]
theorem kw_W_at : k_W_at ∈ GT := gt_i 537 (by decide +kernel) rfl
theorem d_W_at_0 : decode b_W_at 0 = .ok (.aload_n 3, 1) := by decide +kernel
theorem d_W_at_1 : decode b_W_at 1 = .ok (.iconst 0, 1) := by decide +kernel
theorem d_W_at_2 : decode b_W_at 2 = .ok (.aload_n 0, 1) := by decide +kernel
theorem d_W_at_3 : decode b_W_at 3 = .ok (.iload_n 1, 1) := by decide +kernel
theorem d_W_at_4 : decode b_W_at 4 = .ok (.iload_n 2, 1) := by decide +kernel
theorem d_W_at_5 : decode b_W_at 5 = .ok (.invokevirtual 7, 3) := by decide +kernel
theorem d_W_at_8 : decode b_W_at 8 = .ok (.i2l, 1) := by decide +kernel
theorem d_W_at_9 : decode b_W_at 9 = .ok (.lastore, 1) := by decide +kernel
theorem d_W_at_10 : decode b_W_at 10 = .ok (.goto 7, 3) := by decide +kernel
theorem d_W_at_13 : decode b_W_at 13 = .ok (.astore 4, 2) := by decide +kernel
theorem d_W_at_15 : decode b_W_at 15 = .ok (.iconst 1, 1) := by decide +kernel
theorem d_W_at_16 : decode b_W_at 16 = .ok (.ireturn, 1) := by decide +kernel
theorem d_W_at_17 : decode b_W_at 17 = .ok (.iconst 0, 1) := by decide +kernel
theorem d_W_at_18 : decode b_W_at 18 = .ok (.ireturn, 1) := by decide +kernel
abbrev b_W_history : ByteArray := method_4_code
def y_W_history : MethodName := ⟨R_W, "history", "(LRetentionRows;I[J)I"⟩
abbrev k_W_history : Cond := .codeWith y_W_history b_W_history 4 (some .int) [(0, 9, 12, 13)]
theorem kw_W_history : k_W_history ∈ GT := gt_i 618 (by decide +kernel) rfl
theorem d_W_history_0 : decode b_W_history 0 = .ok (.aload_n 2, 1) := by decide +kernel
theorem d_W_history_1 : decode b_W_history 1 = .ok (.iconst 0, 1) := by decide +kernel
theorem d_W_history_2 : decode b_W_history 2 = .ok (.aload_n 0, 1) := by decide +kernel
theorem d_W_history_3 : decode b_W_history 3 = .ok (.iload_n 1, 1) := by decide +kernel
theorem d_W_history_4 : decode b_W_history 4 = .ok (.invokevirtual 15, 3) := by decide +kernel
theorem d_W_history_7 : decode b_W_history 7 = .ok (.i2l, 1) := by decide +kernel
theorem d_W_history_8 : decode b_W_history 8 = .ok (.lastore, 1) := by decide +kernel
theorem d_W_history_9 : decode b_W_history 9 = .ok (.goto 6, 3) := by decide +kernel
theorem d_W_history_12 : decode b_W_history 12 = .ok (.astore_n 3, 1) := by decide +kernel
theorem d_W_history_13 : decode b_W_history 13 = .ok (.iconst 1, 1) := by decide +kernel
theorem d_W_history_14 : decode b_W_history 14 = .ok (.ireturn, 1) := by decide +kernel
theorem d_W_history_15 : decode b_W_history 15 = .ok (.iconst 0, 1) := by decide +kernel
theorem d_W_history_16 : decode b_W_history 16 = .ok (.ireturn, 1) := by decide +kernel
theorem wm_W_67 : Cond.methodLink R_W 67 y_W_at ∈ GT := gt_i 535 (by decide +kernel) rfl
theorem ws_W_at : Cond.static y_W_at ∈ GT := gt_i 536 (by decide +kernel) rfl
theorem wk_W_13 : Cond.classLink R_W 13 "java/util/NoSuchElementException" ∈ GT := gt_i 538 (by decide +kernel) rfl
theorem wm_W_92 : Cond.methodLink R_W 92 y_W_history ∈ GT := gt_i 616 (by decide +kernel) rfl
theorem ws_W_history : Cond.static y_W_history ∈ GT := gt_i 617 (by decide +kernel) rfl
