theorem dX12_begin_0 : decode cX12_begin 0 = .ok (.aload_n 0, 1) := by decide +kernel
theorem dX12_begin_1 : decode cX12_begin 1 = .ok (.aload_n 1, 1) := by decide +kernel
theorem dX12_begin_2 : decode cX12_begin 2 = .ok (.putfield 148, 3) := by decide +kernel
theorem dX12_begin_5 : decode cX12_begin 5 = .ok (.aload_n 0, 1) := by decide +kernel
theorem dX12_begin_6 : decode cX12_begin 6 = .ok (.iload_n 2, 1) := by decide +kernel
theorem dX12_begin_7 : decode cX12_begin 7 = .ok (.putfield 151, 3) := by decide +kernel
theorem dX12_begin_10 : decode cX12_begin 10 = .ok (.aload_n 0, 1) := by decide +kernel
theorem dX12_begin_11 : decode cX12_begin 11 = .ok (.iload_n 3, 1) := by decide +kernel
theorem dX12_begin_12 : decode cX12_begin 12 = .ok (.putfield 154, 3) := by decide +kernel
theorem dX12_begin_15 : decode cX12_begin 15 = .ok (.aload_n 0, 1) := by decide +kernel
theorem dX12_begin_16 : decode cX12_begin 16 = .ok (.iconst 0, 1) := by decide +kernel
theorem dX12_begin_17 : decode cX12_begin 17 = .ok (.putfield 157, 3) := by decide +kernel
theorem dX12_begin_20 : decode cX12_begin 20 = .ok (.aload_n 0, 1) := by decide +kernel
theorem dX12_begin_21 : decode cX12_begin 21 = .ok (.iconst (-1), 1) := by decide +kernel
theorem dX12_begin_22 : decode cX12_begin 22 = .ok (.putfield 160, 3) := by decide +kernel
theorem dX12_begin_25 : decode cX12_begin 25 = .ok (.return_, 1) := by decide +kernel
theorem q_rb_up {b v : Int} : q_up (q_rb b) 188 18 v = q_rb v := by
  unfold q_rb
  funext c i
  by_cases h : c = 188 ∧ i = 18
  · obtain ⟨rfl, rfl⟩ := h; rw [q_up_s, q_up_s]
  · unfold q_up; rw [if_neg h, if_neg h, if_neg h]
theorem sp_begin3 {b b' n t : Int} {m : qm} : q_Ev yX12_begin cX12_begin 4 none 1 0 0 [(2, 188), (2, b'), (0, n), (0, t)] (q_sh0, q_rb b, m) (qK (q_rb b') (fun _ m' => m' = q_up (q_up (q_up (q_up m 188 19 n) 188 20 t) 188 21 0) 188 22 (-1))) := by
  refine q_enter (by decide +kernel) (by simp) (Nat.le_of_ble_eq_true rfl) ?_
  refine q_aload_n dX12_begin_0 rfl rfl ?_
  refine q_aload_n dX12_begin_1 rfl rfl ?_
  refine q_putR (ci := 12) (k := 18) (kI := 18) dX12_begin_2 rfl (by decide) rfl tw1201 rfl (by decide) rfl (fun _ => ⟨rfl, rfl⟩) qs188 ?_
  rw [q_rb_up]
  refine q_aload_n dX12_begin_5 rfl rfl ?_
  refine q_iload_n dX12_begin_6 rfl rfl ?_
  refine q_putI (ci := 12) (k := 19) (kI := 19) (ty := .int) dX12_begin_7 rfl (by decide) rfl tw1202 rfl rfl rfl (fun _ => ⟨rfl, rfl⟩) qs188 ?_
  refine q_aload_n dX12_begin_10 rfl rfl ?_
  refine q_iload_n dX12_begin_11 rfl rfl ?_
  refine q_putI (ci := 12) (k := 20) (kI := 20) (ty := .int) dX12_begin_12 rfl (by decide) rfl tw1203 rfl rfl rfl (fun _ => ⟨rfl, rfl⟩) qs188 ?_
  refine q_aload_n dX12_begin_15 rfl rfl ?_
  refine qx_iconst dX12_begin_16 rfl rfl ?_
  refine q_putI (ci := 12) (k := 21) (kI := 21) (ty := .int) dX12_begin_17 rfl (by decide) rfl tw1204 rfl rfl rfl (fun _ => ⟨rfl, rfl⟩) qs188 ?_
  refine q_aload_n dX12_begin_20 rfl rfl ?_
  refine qx_iconst dX12_begin_21 rfl rfl ?_
  refine q_putI (ci := 12) (k := 22) (kI := 22) (ty := .int) dX12_begin_22 rfl (by decide) rfl tw1205 rfl rfl rfl (fun _ => ⟨rfl, rfl⟩) qs188 ?_
  exact q_vret dX12_begin_25 (qK_i rfl)
