theorem wo_C : Cond.methodLink R_C 1 Lib.objectInit ∈ GT := gt_i 52 (by decide +kernel) rfl
theorem wo_i : Cond.instanceMethod Lib.objectInit ∈ GT := gt_i 53 (by decide +kernel) rfl
theorem wo_c : Cond.code Lib.objectInit ⟨#[0xb1]⟩ 1 none ∈ GT := gt_i 54 (by decide +kernel) rfl
theorem wo_T : Cond.methodLink R_T 3 Lib.objectInit ∈ GT := gt_i 60 (by decide +kernel) rfl
theorem wo_U : Cond.methodLink R_U 3 Lib.objectInit ∈ GT := gt_i 89 (by decide +kernel) rfl
theorem wo_L : Cond.methodLink R_L 3 Lib.objectInit ∈ GT := gt_i 124 (by decide +kernel) rfl
theorem wo_R : Cond.methodLink R_R 3 Lib.objectInit ∈ GT := gt_i 291 (by decide +kernel) rfl
theorem wo_M : Cond.methodLink R_M 1 Lib.objectInit ∈ GT := gt_i 629 (by decide +kernel) rfl
theorem dv_L : ∀ j, j < 4 → defaultValue (ft_L j) = vp_V (m_obj (fun _ => 0) (fun _ => false) 0 (fk 0) (fun _ => 0)) j := by decide +kernel
theorem dv_R : ∀ j, j < 7 → defaultValue (ft_R j) = vp_V (m_obj (fun _ => 0) (fun _ => false) 0 (fk 1) (fun _ => 0)) j := by decide +kernel
theorem dv_T : ∀ j, j < 6 → defaultValue (ft_T j) = vp_V (m_obj (fun _ => 0) (fun _ => false) 0 (fk 2) (fun _ => 0)) j := by decide +kernel
theorem dv_U : ∀ j, j < 9 → defaultValue (ft_U j) = vp_V (m_obj (fun _ => 0) (fun _ => false) 0 (fk 3) (fun _ => 0)) j := by decide +kernel
theorem dv_C : ∀ j, j < 7 → defaultValue (ft_C j) = vp_V (m_obj (fun _ => 0) (fun _ => false) 0 (fk 4) (fun _ => 0)) j := by decide +kernel
theorem dv_M : ∀ j, j < 26 → defaultValue (ft_M j) = vp_V (m_obj (fun _ => 0) (fun _ => false) 0 (fk 5) (fun _ => 0)) j := by decide +kernel
