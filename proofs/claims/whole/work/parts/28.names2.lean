abbrev b_S_checkIndex : ByteArray := prog_10_method_155_code
def y_S_checkIndex : MethodName := ⟨R_S, "checkIndex", "(II)V"⟩
abbrev k_S_checkIndex : Cond := .code y_S_checkIndex b_S_checkIndex 2 none
theorem kw_S_checkIndex : k_S_checkIndex ∈ GT := gt_i 225 (by decide +kernel) rfl
theorem d_S_checkIndex_0 : decode b_S_checkIndex 0 = .ok (.iload_n 0, 1) := by decide +kernel
theorem d_S_checkIndex_1 : decode b_S_checkIndex 1 = .ok (.iload_n 1, 1) := by decide +kernel
theorem d_S_checkIndex_2 : decode b_S_checkIndex 2 = .ok (.getstatic 1053, 3) := by decide +kernel
theorem d_S_checkIndex_5 : decode b_S_checkIndex 5 = .ok (.invokestatic 1059, 3) := by decide +kernel
theorem d_S_checkIndex_8 : decode b_S_checkIndex 8 = .ok (.pop, 1) := by decide +kernel
theorem d_S_checkIndex_9 : decode b_S_checkIndex 9 = .ok (.return_, 1) := by decide +kernel
abbrev b_P_checkIndex : ByteArray := prog_15_method_11_code
def y_P_checkIndex : MethodName := ⟨R_P, "checkIndex", "(IILjava/util/function/BiFunction;)I"⟩
abbrev k_P_checkIndex : Cond := .code y_P_checkIndex b_P_checkIndex 3 (some .int)
theorem kw_P_checkIndex : k_P_checkIndex ∈ GT := gt_i 230 (by decide +kernel) rfl
theorem d_P_checkIndex_0 : decode b_P_checkIndex 0 = .ok (.iload_n 0, 1) := by decide +kernel
theorem d_P_checkIndex_1 : decode b_P_checkIndex 1 = .ok (.ifCond .lt 8, 3) := by decide +kernel
theorem d_P_checkIndex_4 : decode b_P_checkIndex 4 = .ok (.iload_n 0, 1) := by decide +kernel
theorem d_P_checkIndex_5 : decode b_P_checkIndex 5 = .ok (.iload_n 1, 1) := by decide +kernel
theorem d_P_checkIndex_6 : decode b_P_checkIndex 6 = .ok (.if_icmp .lt 10, 3) := by decide +kernel
theorem d_P_checkIndex_9 : decode b_P_checkIndex 9 = .ok (.aload_n 2, 1) := by decide +kernel
theorem d_P_checkIndex_10 : decode b_P_checkIndex 10 = .ok (.iload_n 0, 1) := by decide +kernel
theorem d_P_checkIndex_11 : decode b_P_checkIndex 11 = .ok (.iload_n 1, 1) := by decide +kernel
theorem d_P_checkIndex_12 : decode b_P_checkIndex 12 = .ok (.invokestatic 95, 3) := by decide +kernel
theorem d_P_checkIndex_15 : decode b_P_checkIndex 15 = .ok (.athrow, 1) := by decide +kernel
theorem d_P_checkIndex_16 : decode b_P_checkIndex 16 = .ok (.iload_n 0, 1) := by decide +kernel
theorem d_P_checkIndex_17 : decode b_P_checkIndex 17 = .ok (.ireturn, 1) := by decide +kernel
theorem wm_J_9 : Cond.methodLink R_J 9 y_S_checkIndex ∈ GT := gt_i 223 (by decide +kernel) rfl
theorem ws_S_checkIndex : Cond.static y_S_checkIndex ∈ GT := gt_i 224 (by decide +kernel) rfl
theorem wm_S_1059 : Cond.methodLink R_S 1059 y_P_checkIndex ∈ GT := gt_i 228 (by decide +kernel) rfl
theorem ws_P_checkIndex : Cond.static y_P_checkIndex ∈ GT := gt_i 229 (by decide +kernel) rfl
