theorem dX6_append_0 : decode cX6_append 0 = .ok (.aload_n 0, 1) := by decide +kernel
theorem dX6_append_1 : decode cX6_append 1 = .ok (.getfield 15, 3) := by decide +kernel
theorem dX6_append_4 : decode cX6_append 4 = .ok (.bipush 80, 2) := by decide +kernel
theorem dX6_append_6 : decode cX6_append 6 = .ok (.if_icmp .ge 23, 3) := by decide +kernel
theorem dX6_append_9 : decode cX6_append 9 = .ok (.aload_n 0, 1) := by decide +kernel
theorem dX6_append_10 : decode cX6_append 10 = .ok (.getfield 9, 3) := by decide +kernel
theorem dX6_append_13 : decode cX6_append 13 = .ok (.aload_n 0, 1) := by decide +kernel
theorem dX6_append_14 : decode cX6_append 14 = .ok (.getfield 15, 3) := by decide +kernel
theorem dX6_append_17 : decode cX6_append 17 = .ok (.iload_n 1, 1) := by decide +kernel
theorem dX6_append_18 : decode cX6_append 18 = .ok (.iastore, 1) := by decide +kernel
theorem dX6_append_19 : decode cX6_append 19 = .ok (.aload_n 0, 1) := by decide +kernel
theorem dX6_append_20 : decode cX6_append 20 = .ok (.dup, 1) := by decide +kernel
theorem dX6_append_21 : decode cX6_append 21 = .ok (.getfield 15, 3) := by decide +kernel
theorem dX6_append_24 : decode cX6_append 24 = .ok (.iconst 1, 1) := by decide +kernel
theorem dX6_append_25 : decode cX6_append 25 = .ok (.iadd, 1) := by decide +kernel
theorem dX6_append_26 : decode cX6_append 26 = .ok (.putfield 15, 3) := by decide +kernel
theorem dX6_append_29 : decode cX6_append 29 = .ok (.return_, 1) := by decide +kernel
theorem bkX6_append_0 {b : Int} {mem : qm} {Q : Int → qm → Prop}
    {v : Int}
    (l1 : 80 ≤ (mem 145 1) → Q 0 mem)
    (o2 : (mem 145 1) < 80 → (0 ≤ (mem 145 1) ∧ (mem 145 1) < 80) ∧ q_in32 ((mem 145 1) + 1))
    (l3 : (mem 145 1) < 80 → Q 0 (q_up (q_up mem 146 (mem 145 1) v) 145 1 ((mem 145 1) + 1))) :
    q_At yX6_append cX6_append 2 none 1 0 0 (qK (q_rb b) Q) 0 [(2, 145), (0, v)] [] (q_sh0, q_rb b, mem) := by
  refine q_aload_n dX6_append_0 rfl rfl ?_
  refine qx_getI (ci := 6) (k := 1) (v := (mem 145 1)) dX6_append_1 rfl rfl rfl tw210 rfl qs145 rfl ?_
  refine qx_bipush dX6_append_4 rfl rfl ?_
  refine qx_icmp_ge (tgt := 29) dX6_append_6 (by decide) (fun c1 => ?_) (fun c1 => ?_)
  · skip
    exact q_vret dX6_append_29 (qK_i (l1 c1))
  · skip
    refine q_aload_n dX6_append_9 rfl rfl ?_
    refine q_getR (ci := 6) (k := 0) dX6_append_10 rfl (by decide) rfl tw209 (by decide) qs145 qw145_0 (by decide) ?_
    refine q_aload_n dX6_append_13 rfl rfl ?_
    refine qx_getI (ci := 6) (k := 1) (v := (mem 145 1)) dX6_append_14 rfl rfl rfl tw210 rfl qs145 rfl ?_
    refine q_iload_n dX6_append_17 rfl rfl ?_
    refine q_iast dX6_append_18 qs146 ((o2 c1).1).1 ((o2 c1).1).2 ?_
    refine q_aload_n dX6_append_19 rfl rfl ?_
    refine q_dup dX6_append_20 (fun h => by cases h) ?_
    refine qx_getI (ci := 6) (k := 1) (v := (mem 145 1)) dX6_append_21 rfl rfl rfl tw210 rfl qs145 (q_up_c (by decide)) ?_
    refine qx_iconst dX6_append_24 rfl rfl ?_
    refine qx_iadd dX6_append_25 (o2 c1).2 ?_
    refine q_putI (ci := 6) (k := 1) (kI := 1) (ty := .int) dX6_append_26 rfl (by decide) rfl tw210 rfl rfl rfl (fun _ => ⟨rfl, rfl⟩) qs145 ?_
    exact q_vret dX6_append_29 (qK_i (l3 c1))
theorem dX11_sign_0 : decode cX11_sign 0 = .ok (.aload_n 0, 1) := by decide +kernel
theorem dX11_sign_1 : decode cX11_sign 1 = .ok (.getfield 60, 3) := by decide +kernel
theorem dX11_sign_4 : decode cX11_sign 4 = .ok (.getfield 107, 3) := by decide +kernel
theorem dX11_sign_7 : decode cX11_sign 7 = .ok (.iconst 4, 1) := by decide +kernel
theorem dX11_sign_8 : decode cX11_sign 8 = .ok (.iadd, 1) := by decide +kernel
theorem dX11_sign_9 : decode cX11_sign 9 = .ok (.bipush 80, 2) := by decide +kernel
theorem dX11_sign_11 : decode cX11_sign 11 = .ok (.if_icmp .le 5, 3) := by decide +kernel
theorem dX11_sign_14 : decode cX11_sign 14 = .ok (.iconst (-1), 1) := by decide +kernel
theorem dX11_sign_15 : decode cX11_sign 15 = .ok (.ireturn, 1) := by decide +kernel
theorem dX11_sign_16 : decode cX11_sign 16 = .ok (.bipush 24, 2) := by decide +kernel
theorem dX11_sign_18 : decode cX11_sign 18 = .ok (.istore_n 2, 1) := by decide +kernel
theorem dX11_sign_19 : decode cX11_sign 19 = .ok (.iload_n 2, 1) := by decide +kernel
theorem dX11_sign_20 : decode cX11_sign 20 = .ok (.ifCond .lt 23, 3) := by decide +kernel
theorem dX11_sign_23 : decode cX11_sign 23 = .ok (.aload_n 0, 1) := by decide +kernel
theorem dX11_sign_24 : decode cX11_sign 24 = .ok (.getfield 60, 3) := by decide +kernel
theorem dX11_sign_27 : decode cX11_sign 27 = .ok (.iload_n 1, 1) := by decide +kernel
theorem dX11_sign_28 : decode cX11_sign 28 = .ok (.iload_n 2, 1) := by decide +kernel
theorem dX11_sign_29 : decode cX11_sign 29 = .ok (.iushr, 1) := by decide +kernel
theorem dX11_sign_30 : decode cX11_sign 30 = .ok (.sipush 255, 3) := by decide +kernel
theorem dX11_sign_33 : decode cX11_sign 33 = .ok (.iand, 1) := by decide +kernel
theorem dX11_sign_34 : decode cX11_sign 34 = .ok (.invokevirtual 111, 3) := by decide +kernel
theorem dX11_sign_37 : decode cX11_sign 37 = .ok (.iinc 2 (-8), 3) := by decide +kernel
theorem dX11_sign_40 : decode cX11_sign 40 = .ok (.goto (-21), 3) := by decide +kernel
theorem dX11_sign_43 : decode cX11_sign 43 = .ok (.aload_n 0, 1) := by decide +kernel
theorem dX11_sign_44 : decode cX11_sign 44 = .ok (.getfield 60, 3) := by decide +kernel
theorem dX11_sign_47 : decode cX11_sign 47 = .ok (.getfield 107, 3) := by decide +kernel
theorem dX11_sign_50 : decode cX11_sign 50 = .ok (.ireturn, 1) := by decide +kernel
theorem bkX11_sign_0 {b : Int} {mem : qm} {Q : Int → qm → Prop}
    {v : Int}
    (o1 : q_in32 ((mem 145 1) + 4))
    (l2 : ((mem 145 1) + 4) ≤ 80 → q_At yX11_sign cX11_sign 3 (some .int) 2 0 0 (qK (q_rb b) Q) 19 [(2, 0), (0, v), (0, 24)] [] (q_sh0, q_rb b, mem))
    (l3 : 80 < ((mem 145 1) + 4) → Q (-1) mem) :
    q_At yX11_sign cX11_sign 3 (some .int) 2 0 0 (qK (q_rb b) Q) 0 [(2, 0), (0, v), (4, 0)] [] (q_sh0, q_rb b, mem) := by
  refine q_aload_n dX11_sign_0 rfl rfl ?_
  refine q_getR (ci := 11) (k := 8) dX11_sign_1 rfl (by decide) rfl tw357 (by decide) qs0 qw0_8 (by decide) ?_
  refine qx_getI (ci := 6) (k := 1) (v := (mem 145 1)) dX11_sign_4 rfl rfl rfl tw211 rfl qs145 rfl ?_
  refine qx_iconst dX11_sign_7 rfl rfl ?_
  refine qx_iadd dX11_sign_8 (o1) ?_
  refine qx_bipush dX11_sign_9 rfl rfl ?_
  refine qx_icmp_le (tgt := 16) dX11_sign_11 (by decide) (fun c1 => ?_) (fun c1 => ?_)
  · skip
    refine qx_bipush dX11_sign_16 rfl rfl ?_
    refine qx_istore_n (L' := [(2, 0), (0, v), (0, 24)]) dX11_sign_18 rfl rfl rfl rfl ?_
    exact l2 c1
  · skip
    refine qx_iconst dX11_sign_14 rfl rfl ?_
    exact q_iret dX11_sign_15 (qK_i (l3 c1))
theorem bkX11_sign_19 {b : Int} {mem : qm} {Q : Int → qm → Prop}
    {v v2 : Int}
    (l1 : v2 < 0 → Q (mem 145 1) mem)
    {P2 : Int → qm → Prop}
    (l2 : 0 ≤ v2 → q_Ev yX6_append cX6_append 2 none 1 0 0 [(2, 145), (0, (q_oiand (q_oiushr v v2) 255))] (q_sh0, q_rb b, mem) (qK (q_rb b) (P2)))
    (o3 : 0 ≤ v2 → ∀ (r2 : Int), ∀ (m2 : qm), P2 r2 m2 → q_in32 r2 → q_in32 (v2 + (-8)))
    (l4 : 0 ≤ v2 → ∀ (r2 : Int), ∀ (m2 : qm), P2 r2 m2 → q_in32 r2 → q_At yX11_sign cX11_sign 3 (some .int) 2 0 0 (qK (q_rb b) Q) 19 [(2, 0), (0, v), (0, (v2 + (-8)))] [] (q_sh0, q_rb b, m2)) :
    q_At yX11_sign cX11_sign 3 (some .int) 2 0 0 (qK (q_rb b) Q) 19 [(2, 0), (0, v), (0, v2)] [] (q_sh0, q_rb b, mem) := by
  refine q_iload_n dX11_sign_19 rfl rfl ?_
  refine qx_if_lt (tgt := 43) dX11_sign_20 (by decide) (fun c1 => ?_) (fun c1 => ?_)
  · skip
    refine q_aload_n dX11_sign_43 rfl rfl ?_
    refine q_getR (ci := 11) (k := 8) dX11_sign_44 rfl (by decide) rfl tw357 (by decide) qs0 qw0_8 (by decide) ?_
    refine qx_getI (ci := 6) (k := 1) (v := (mem 145 1)) dX11_sign_47 rfl rfl rfl tw211 rfl qs145 rfl ?_
    exact q_iret dX11_sign_50 (qK_i (l1 c1))
  · skip
    refine q_aload_n dX11_sign_23 rfl rfl ?_
    refine q_getR (ci := 11) (k := 8) dX11_sign_24 rfl (by decide) rfl tw357 (by decide) qs0 qw0_8 (by decide) ?_
    refine q_iload_n dX11_sign_27 rfl rfl ?_
    refine q_iload_n dX11_sign_28 rfl rfl ?_
    refine q_iushr dX11_sign_29 ?_
    refine qx_sipush dX11_sign_30 rfl rfl ?_
    refine q_iand dX11_sign_33 ?_
    refine qx_invV (ci := 6) [(0, (q_oiand (q_oiushr v v2) 255))] [(0, (q_oiand (q_oiushr v v2) 255)), (2, 145)] rfl qM_X6_append dX11_sign_34 tw405 rfl qs145 rfl rfl rfl rfl (l2 c1) (fun r2 m2 p2 q2 => ?_)
    refine qx_iinc (L' := [(2, 0), (0, v), (0, (v2 + (-8)))]) dX11_sign_37 rfl rfl rfl (o3 c1 r2 m2 p2 q2) rfl ?_
    refine q_goto (tgt := 19) dX11_sign_40 (by decide) ?_
    exact l4 c1 r2 m2 p2 q2
theorem dX12_sign_0 : decode cX12_sign 0 = .ok (.aload_n 0, 1) := by decide +kernel
theorem dX12_sign_1 : decode cX12_sign 1 = .ok (.iconst 0, 1) := by decide +kernel
theorem dX12_sign_2 : decode cX12_sign 2 = .ok (.putfield 128, 3) := by decide +kernel
theorem dX12_sign_5 : decode cX12_sign 5 = .ok (.aload_n 0, 1) := by decide +kernel
theorem dX12_sign_6 : decode cX12_sign 6 = .ok (.getfield 145, 3) := by decide +kernel
theorem dX12_sign_9 : decode cX12_sign 9 = .ok (.iconst 4, 1) := by decide +kernel
theorem dX12_sign_10 : decode cX12_sign 10 = .ok (.iadd, 1) := by decide +kernel
theorem dX12_sign_11 : decode cX12_sign 11 = .ok (.bipush 80, 2) := by decide +kernel
theorem dX12_sign_13 : decode cX12_sign 13 = .ok (.if_icmp .le 5, 3) := by decide +kernel
theorem dX12_sign_16 : decode cX12_sign 16 = .ok (.iconst (-1), 1) := by decide +kernel
theorem dX12_sign_17 : decode cX12_sign 17 = .ok (.ireturn, 1) := by decide +kernel
theorem dX12_sign_18 : decode cX12_sign 18 = .ok (.iconst 3, 1) := by decide +kernel
theorem dX12_sign_19 : decode cX12_sign 19 = .ok (.istore_n 2, 1) := by decide +kernel
theorem dX12_sign_20 : decode cX12_sign 20 = .ok (.iload_n 2, 1) := by decide +kernel
theorem dX12_sign_21 : decode cX12_sign 21 = .ok (.ifCond .lt 32, 3) := by decide +kernel
theorem dX12_sign_24 : decode cX12_sign 24 = .ok (.aload_n 0, 1) := by decide +kernel
theorem dX12_sign_25 : decode cX12_sign 25 = .ok (.getfield 41, 3) := by decide +kernel
theorem dX12_sign_28 : decode cX12_sign 28 = .ok (.aload_n 0, 1) := by decide +kernel
theorem dX12_sign_29 : decode cX12_sign 29 = .ok (.dup, 1) := by decide +kernel
theorem dX12_sign_30 : decode cX12_sign 30 = .ok (.getfield 145, 3) := by decide +kernel
theorem dX12_sign_33 : decode cX12_sign 33 = .ok (.dup_x1, 1) := by decide +kernel
theorem dX12_sign_34 : decode cX12_sign 34 = .ok (.iconst 1, 1) := by decide +kernel
theorem dX12_sign_35 : decode cX12_sign 35 = .ok (.iadd, 1) := by decide +kernel
theorem dX12_sign_36 : decode cX12_sign 36 = .ok (.putfield 145, 3) := by decide +kernel
theorem dX12_sign_39 : decode cX12_sign 39 = .ok (.iload_n 1, 1) := by decide +kernel
theorem dX12_sign_40 : decode cX12_sign 40 = .ok (.bipush 8, 2) := by decide +kernel
theorem dX12_sign_42 : decode cX12_sign 42 = .ok (.iload_n 2, 1) := by decide +kernel
theorem dX12_sign_43 : decode cX12_sign 43 = .ok (.imul, 1) := by decide +kernel
theorem dX12_sign_44 : decode cX12_sign 44 = .ok (.ishr, 1) := by decide +kernel
theorem dX12_sign_45 : decode cX12_sign 45 = .ok (.i2b, 1) := by decide +kernel
theorem dX12_sign_46 : decode cX12_sign 46 = .ok (.bastore, 1) := by decide +kernel
theorem dX12_sign_47 : decode cX12_sign 47 = .ok (.iinc 2 (-1), 3) := by decide +kernel
theorem dX12_sign_50 : decode cX12_sign 50 = .ok (.goto (-30), 3) := by decide +kernel
theorem dX12_sign_53 : decode cX12_sign 53 = .ok (.aload_n 0, 1) := by decide +kernel
theorem dX12_sign_54 : decode cX12_sign 54 = .ok (.getfield 145, 3) := by decide +kernel
theorem dX12_sign_57 : decode cX12_sign 57 = .ok (.ireturn, 1) := by decide +kernel
theorem bkX12_sign_0 {b : Int} {mem : qm} {Q : Int → qm → Prop}
    {v : Int}
    (o1 : q_in32 ((mem 188 14) + 4))
    (l2 : ((mem 188 14) + 4) ≤ 80 → q_At yX12_sign cX12_sign 3 (some .int) 1 0 0 (qK (q_rb b) Q) 20 [(2, 188), (0, v), (0, 3)] [] (q_sh0, q_rb b, (q_up mem 188 17 0)))
    (l3 : 80 < ((mem 188 14) + 4) → Q (-1) (q_up mem 188 17 0)) :
    q_At yX12_sign cX12_sign 3 (some .int) 1 0 0 (qK (q_rb b) Q) 0 [(2, 188), (0, v), (4, 0)] [] (q_sh0, q_rb b, mem) := by
  refine q_aload_n dX12_sign_0 rfl rfl ?_
  refine qx_iconst dX12_sign_1 rfl rfl ?_
  refine q_putI (ci := 12) (k := 17) (kI := 17) (ty := .int) dX12_sign_2 rfl (by decide) rfl tw1200 rfl rfl rfl (fun _ => ⟨rfl, rfl⟩) qs188 ?_
  refine q_aload_n dX12_sign_5 rfl rfl ?_
  refine qx_getI (ci := 12) (k := 14) (v := (mem 188 14)) dX12_sign_6 rfl rfl rfl tw1197 rfl qs188 (q_up_i (by decide)) ?_
  refine qx_iconst dX12_sign_9 rfl rfl ?_
  refine qx_iadd dX12_sign_10 (o1) ?_
  refine qx_bipush dX12_sign_11 rfl rfl ?_
  refine qx_icmp_le (tgt := 18) dX12_sign_13 (by decide) (fun c1 => ?_) (fun c1 => ?_)
  · skip
    refine qx_iconst dX12_sign_18 rfl rfl ?_
    refine qx_istore_n (L' := [(2, 188), (0, v), (0, 3)]) dX12_sign_19 rfl rfl rfl rfl ?_
    exact l2 c1
  · skip
    refine qx_iconst dX12_sign_16 rfl rfl ?_
    exact q_iret dX12_sign_17 (qK_i (l3 c1))
theorem bkX12_sign_20 {b : Int} {mem : qm} {Q : Int → qm → Prop}
    {v v2 : Int}
    (l1 : v2 < 0 → Q (mem 188 14) mem)
    (o2 : 0 ≤ v2 → q_in32 ((mem 188 14) + 1) ∧ q_in32 (8 * v2) ∧ (0 ≤ (mem 188 14) ∧ (mem 188 14) < 80) ∧ vp_nar .byte (Int32.ofInt (q_oi2b (q_oishr v (8 * v2)))) = Int32.ofInt (q_oi2b (q_oishr v (8 * v2))) ∧ q_in32 (v2 + (-1)))
    (l3 : 0 ≤ v2 → q_At yX12_sign cX12_sign 3 (some .int) 1 0 0 (qK (q_rb b) Q) 20 [(2, 188), (0, v), (0, (v2 + (-1)))] [] (q_sh0, q_rb b, (q_up (q_up mem 188 14 ((mem 188 14) + 1)) 198 (mem 188 14) (q_oi2b (q_oishr v (8 * v2)))))) :
    q_At yX12_sign cX12_sign 3 (some .int) 1 0 0 (qK (q_rb b) Q) 20 [(2, 188), (0, v), (0, v2)] [] (q_sh0, q_rb b, mem) := by
  refine q_iload_n dX12_sign_20 rfl rfl ?_
  refine qx_if_lt (tgt := 53) dX12_sign_21 (by decide) (fun c1 => ?_) (fun c1 => ?_)
  · skip
    refine q_aload_n dX12_sign_53 rfl rfl ?_
    refine qx_getI (ci := 12) (k := 14) (v := (mem 188 14)) dX12_sign_54 rfl rfl rfl tw1197 rfl qs188 rfl ?_
    exact q_iret dX12_sign_57 (qK_i (l1 c1))
  · skip
    refine q_aload_n dX12_sign_24 rfl rfl ?_
    refine q_getR (ci := 12) (k := 13) dX12_sign_25 rfl (by decide) rfl tw1196 (by decide) qs188 qw188_13 (by decide) ?_
    refine q_aload_n dX12_sign_28 rfl rfl ?_
    refine q_dup dX12_sign_29 (fun h => by cases h) ?_
    refine qx_getI (ci := 12) (k := 14) (v := (mem 188 14)) dX12_sign_30 rfl rfl rfl tw1197 rfl qs188 rfl ?_
    refine q_dup_x1 dX12_sign_33 (fun h => by cases h) (fun h => by cases h) ?_
    refine qx_iconst dX12_sign_34 rfl rfl ?_
    refine qx_iadd dX12_sign_35 (o2 c1).1 ?_
    refine q_putI (ci := 12) (k := 14) (kI := 14) (ty := .int) dX12_sign_36 rfl (by decide) rfl tw1197 rfl rfl rfl (fun _ => ⟨rfl, rfl⟩) qs188 ?_
    refine q_iload_n dX12_sign_39 rfl rfl ?_
    refine qx_bipush dX12_sign_40 rfl rfl ?_
    refine q_iload_n dX12_sign_42 rfl rfl ?_
    refine qx_imul dX12_sign_43 (o2 c1).2.1 ?_
    refine q_ishr dX12_sign_44 ?_
    refine q_i2b dX12_sign_45 ?_
    refine q_bast dX12_sign_46 qs198 ((o2 c1).2.2.1).1 ((o2 c1).2.2.1).2 (o2 c1).2.2.2.1 ?_
    refine qx_iinc (L' := [(2, 188), (0, v), (0, (v2 + (-1)))]) dX12_sign_47 rfl rfl rfl (o2 c1).2.2.2.2 rfl ?_
    refine q_goto (tgt := 20) dX12_sign_50 (by decide) ?_
    exact l3 c1
