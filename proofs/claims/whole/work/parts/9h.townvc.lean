theorem dX10_readOwner_0 : decode cX10_readOwner 0 = .ok (.aload_n 0, 1) := by decide +kernel
theorem dX10_readOwner_1 : decode cX10_readOwner 1 = .ok (.getfield 15, 3) := by decide +kernel
theorem dX10_readOwner_4 : decode cX10_readOwner 4 = .ok (.invokevirtual 91, 3) := by decide +kernel
theorem dX10_readOwner_7 : decode cX10_readOwner 7 = .ok (.istore_n 1, 1) := by decide +kernel
theorem dX10_readOwner_8 : decode cX10_readOwner 8 = .ok (.iload_n 1, 1) := by decide +kernel
theorem dX10_readOwner_9 : decode cX10_readOwner 9 = .ok (.bipush 6, 2) := by decide +kernel
theorem dX10_readOwner_11 : decode cX10_readOwner 11 = .ok (.if_icmp .lt 10, 3) := by decide +kernel
theorem dX10_readOwner_14 : decode cX10_readOwner 14 = .ok (.aload_n 0, 1) := by decide +kernel
theorem dX10_readOwner_15 : decode cX10_readOwner 15 = .ok (.getfield 15, 3) := by decide +kernel
theorem dX10_readOwner_18 : decode cX10_readOwner 18 = .ok (.invokevirtual 82, 3) := by decide +kernel
theorem dX10_readOwner_21 : decode cX10_readOwner 21 = .ok (.iload_n 1, 1) := by decide +kernel
theorem dX10_readOwner_22 : decode cX10_readOwner 22 = .ok (.ireturn, 1) := by decide +kernel
theorem bkX10_readOwner_0 {b : Int} {mem : qm} {Q : Int → qm → Prop}
    {P1 : Int → qm → Prop}
    (l1 : q_Ev yX6_digit cX6_digit 2 (some .int) 2 0 0 [(2, 145)] (q_sh0, q_rb b, mem) (qK (q_rb b) (P1)))
    (l2 : ∀ (r1 : Int), ∀ (m1 : qm), P1 r1 m1 → q_in32 r1 → r1 < 6 → Q r1 m1)
    {P3 : Int → qm → Int → qm → Prop}
    (l3 : ∀ (r1 : Int), ∀ (m1 : qm), P1 r1 m1 → q_in32 r1 → 6 ≤ r1 → q_Ev yX6_failAtLast cX6_failAtLast 1 none 2 0 0 [(2, 145)] (q_sh0, q_rb b, m1) (qK (q_rb b) (P3 r1 m1)))
    (l4 : ∀ (r1 : Int), ∀ (m1 : qm), P1 r1 m1 → q_in32 r1 → 6 ≤ r1 → ∀ (r3 : Int), ∀ (m3 : qm), P3 r1 m1 r3 m3 → q_in32 r3 → Q r1 m3) :
    q_At yX10_readOwner cX10_readOwner 2 (some .int) 3 0 0 (qK (q_rb b) Q) 0 [(2, 147), (4, 0)] [] (q_sh0, q_rb b, mem) := by
  refine q_aload_n dX10_readOwner_0 rfl rfl ?_
  refine q_getR (ci := 10) (k := 0) dX10_readOwner_1 rfl (by decide) rfl tw234 (by decide) qs147 qw147_0 (by decide) ?_
  refine qx_invV (ci := 6) [] [(2, 145)] rfl qM_X6_digit dX10_readOwner_4 tw451 rfl qs145 rfl rfl rfl rfl (l1) (fun r1 m1 p1 q1 => ?_)
  refine qx_istore_n (L' := [(2, 147), (0, r1)]) dX10_readOwner_7 rfl rfl rfl rfl ?_
  refine q_iload_n dX10_readOwner_8 rfl rfl ?_
  refine qx_bipush dX10_readOwner_9 rfl rfl ?_
  refine qx_icmp_lt (tgt := 21) dX10_readOwner_11 (by decide) (fun c2 => ?_) (fun c2 => ?_)
  · skip
    refine q_iload_n dX10_readOwner_21 rfl rfl ?_
    exact q_iret dX10_readOwner_22 (qK_i (l2 r1 m1 p1 q1 c2))
  · skip
    refine q_aload_n dX10_readOwner_14 rfl rfl ?_
    refine q_getR (ci := 10) (k := 0) dX10_readOwner_15 rfl (by decide) rfl tw234 (by decide) qs147 qw147_0 (by decide) ?_
    refine qx_invV (ci := 6) [] [(2, 145)] rfl qM_X6_failAtLast dX10_readOwner_18 tw459 rfl qs145 rfl rfl rfl rfl (l3 r1 m1 p1 q1 c2) (fun r3 m3 p3 q3 => ?_)
    refine q_iload_n dX10_readOwner_21 rfl rfl ?_
    exact q_iret dX10_readOwner_22 (qK_i (l4 r1 m1 p1 q1 c2 r3 m3 p3 q3))
theorem dX10_readDebt_0 : decode cX10_readDebt 0 = .ok (.aload_n 0, 1) := by decide +kernel
theorem dX10_readDebt_1 : decode cX10_readDebt 1 = .ok (.invokevirtual 75, 3) := by decide +kernel
theorem dX10_readDebt_4 : decode cX10_readDebt 4 = .ok (.istore_n 1, 1) := by decide +kernel
theorem dX10_readDebt_5 : decode cX10_readDebt 5 = .ok (.aload_n 0, 1) := by decide +kernel
theorem dX10_readDebt_6 : decode cX10_readDebt 6 = .ok (.getfield 15, 3) := by decide +kernel
theorem dX10_readDebt_9 : decode cX10_readDebt 9 = .ok (.bipush 62, 2) := by decide +kernel
theorem dX10_readDebt_11 : decode cX10_readDebt 11 = .ok (.invokevirtual 79, 3) := by decide +kernel
theorem dX10_readDebt_14 : decode cX10_readDebt 14 = .ok (.aload_n 0, 1) := by decide +kernel
theorem dX10_readDebt_15 : decode cX10_readDebt 15 = .ok (.invokevirtual 75, 3) := by decide +kernel
theorem dX10_readDebt_18 : decode cX10_readDebt 18 = .ok (.istore_n 2, 1) := by decide +kernel
theorem dX10_readDebt_19 : decode cX10_readDebt 19 = .ok (.iload_n 2, 1) := by decide +kernel
theorem dX10_readDebt_20 : decode cX10_readDebt 20 = .ok (.iload_n 1, 1) := by decide +kernel
theorem dX10_readDebt_21 : decode cX10_readDebt 21 = .ok (.if_icmp .ne 10, 3) := by decide +kernel
theorem dX10_readDebt_24 : decode cX10_readDebt 24 = .ok (.aload_n 0, 1) := by decide +kernel
theorem dX10_readDebt_25 : decode cX10_readDebt 25 = .ok (.getfield 15, 3) := by decide +kernel
theorem dX10_readDebt_28 : decode cX10_readDebt 28 = .ok (.invokevirtual 82, 3) := by decide +kernel
theorem dX10_readDebt_31 : decode cX10_readDebt 31 = .ok (.aload_n 0, 1) := by decide +kernel
theorem dX10_readDebt_32 : decode cX10_readDebt 32 = .ok (.getfield 15, 3) := by decide +kernel
theorem dX10_readDebt_35 : decode cX10_readDebt 35 = .ok (.bipush 42, 2) := by decide +kernel
theorem dX10_readDebt_37 : decode cX10_readDebt 37 = .ok (.invokevirtual 79, 3) := by decide +kernel
theorem dX10_readDebt_40 : decode cX10_readDebt 40 = .ok (.aload_n 0, 1) := by decide +kernel
theorem dX10_readDebt_41 : decode cX10_readDebt 41 = .ok (.getfield 15, 3) := by decide +kernel
theorem dX10_readDebt_44 : decode cX10_readDebt 44 = .ok (.iconst 3, 1) := by decide +kernel
theorem dX10_readDebt_45 : decode cX10_readDebt 45 = .ok (.invokevirtual 85, 3) := by decide +kernel
theorem dX10_readDebt_48 : decode cX10_readDebt 48 = .ok (.istore_n 3, 1) := by decide +kernel
theorem dX10_readDebt_49 : decode cX10_readDebt 49 = .ok (.aload_n 0, 1) := by decide +kernel
theorem dX10_readDebt_50 : decode cX10_readDebt 50 = .ok (.getfield 15, 3) := by decide +kernel
theorem dX10_readDebt_53 : decode cX10_readDebt 53 = .ok (.invokevirtual 88, 3) := by decide +kernel
theorem dX10_readDebt_56 : decode cX10_readDebt 56 = .ok (.ifCond .eq 15, 3) := by decide +kernel
theorem dX10_readDebt_59 : decode cX10_readDebt 59 = .ok (.aload_n 0, 1) := by decide +kernel
theorem dX10_readDebt_60 : decode cX10_readDebt 60 = .ok (.getfield 9, 3) := by decide +kernel
theorem dX10_readDebt_63 : decode cX10_readDebt 63 = .ok (.iload_n 1, 1) := by decide +kernel
theorem dX10_readDebt_64 : decode cX10_readDebt 64 = .ok (.bipush 6, 2) := by decide +kernel
theorem dX10_readDebt_66 : decode cX10_readDebt 66 = .ok (.imul, 1) := by decide +kernel
theorem dX10_readDebt_67 : decode cX10_readDebt 67 = .ok (.iload_n 2, 1) := by decide +kernel
theorem dX10_readDebt_68 : decode cX10_readDebt 68 = .ok (.iadd, 1) := by decide +kernel
theorem dX10_readDebt_69 : decode cX10_readDebt 69 = .ok (.iload_n 3, 1) := by decide +kernel
theorem dX10_readDebt_70 : decode cX10_readDebt 70 = .ok (.iastore, 1) := by decide +kernel
theorem dX10_readDebt_71 : decode cX10_readDebt 71 = .ok (.return_, 1) := by decide +kernel
theorem bkX10_readDebt_0 {b : Int} {mem : qm} {Q : Int → qm → Prop}
    {P1 : Int → qm → Prop}
    (l1 : q_Ev yX10_readOwner cX10_readOwner 2 (some .int) 3 0 0 [(2, 147)] (q_sh0, q_rb b, mem) (qK (q_rb b) (P1)))
    {P2 : Int → qm → Int → qm → Prop}
    (l2 : ∀ (r1 : Int), ∀ (m1 : qm), P1 r1 m1 → q_in32 r1 → q_Ev yX6_need cX6_need 2 none 3 0 0 [(2, 145), (0, 62)] (q_sh0, q_rb b, m1) (qK (q_rb b) (P2 r1 m1)))
    {P3 : Int → qm → Int → qm → Int → qm → Prop}
    (l3 : ∀ (r1 : Int), ∀ (m1 : qm), P1 r1 m1 → q_in32 r1 → ∀ (r2 : Int), ∀ (m2 : qm), P2 r1 m1 r2 m2 → q_in32 r2 → q_Ev yX10_readOwner cX10_readOwner 2 (some .int) 3 0 0 [(2, 147)] (q_sh0, q_rb b, m2) (qK (q_rb b) (P3 r1 m1 r2 m2)))
    (l4 : ∀ (r1 : Int), ∀ (m1 : qm), P1 r1 m1 → q_in32 r1 → ∀ (r2 : Int), ∀ (m2 : qm), P2 r1 m1 r2 m2 → q_in32 r2 → ∀ (r3 : Int), ∀ (m3 : qm), P3 r1 m1 r2 m2 r3 m3 → q_in32 r3 → r3 ≠ r1 → q_At yX10_readDebt cX10_readDebt 4 none 4 0 0 (qK (q_rb b) Q) 31 [(2, 147), (0, r1), (0, r3), (4, 0)] [] (q_sh0, q_rb b, m3))
    {P5 : Int → qm → Int → qm → Int → qm → Int → qm → Prop}
    (l5 : ∀ (r1 : Int), ∀ (m1 : qm), P1 r1 m1 → q_in32 r1 → ∀ (r2 : Int), ∀ (m2 : qm), P2 r1 m1 r2 m2 → q_in32 r2 → ∀ (r3 : Int), ∀ (m3 : qm), P3 r1 m1 r2 m2 r3 m3 → q_in32 r3 → r3 = r1 → q_Ev yX6_failAtLast cX6_failAtLast 1 none 2 0 0 [(2, 145)] (q_sh0, q_rb b, m3) (qK (q_rb b) (P5 r1 m1 r2 m2 r3 m3)))
    (l6 : ∀ (r1 : Int), ∀ (m1 : qm), P1 r1 m1 → q_in32 r1 → ∀ (r2 : Int), ∀ (m2 : qm), P2 r1 m1 r2 m2 → q_in32 r2 → ∀ (r3 : Int), ∀ (m3 : qm), P3 r1 m1 r2 m2 r3 m3 → q_in32 r3 → r3 = r1 → ∀ (r5 : Int), ∀ (m5 : qm), P5 r1 m1 r2 m2 r3 m3 r5 m5 → q_in32 r5 → q_At yX10_readDebt cX10_readDebt 4 none 4 0 0 (qK (q_rb b) Q) 31 [(2, 147), (0, r1), (0, r3), (4, 0)] [] (q_sh0, q_rb b, m5)) :
    q_At yX10_readDebt cX10_readDebt 4 none 4 0 0 (qK (q_rb b) Q) 0 [(2, 147), (4, 0), (4, 0), (4, 0)] [] (q_sh0, q_rb b, mem) := by
  refine q_aload_n dX10_readDebt_0 rfl rfl ?_
  refine qx_invV (ci := 10) [] [(2, 147)] rfl qM_X10_readOwner dX10_readDebt_1 tw447 rfl qs147 rfl rfl rfl rfl (l1) (fun r1 m1 p1 q1 => ?_)
  refine qx_istore_n (L' := [(2, 147), (0, r1), (4, 0), (4, 0)]) dX10_readDebt_4 rfl rfl rfl rfl ?_
  refine q_aload_n dX10_readDebt_5 rfl rfl ?_
  refine q_getR (ci := 10) (k := 0) dX10_readDebt_6 rfl (by decide) rfl tw234 (by decide) qs147 qw147_0 (by decide) ?_
  refine qx_bipush dX10_readDebt_9 rfl rfl ?_
  refine qx_invV (ci := 6) [(0, 62)] [(0, 62), (2, 145)] rfl qM_X6_need dX10_readDebt_11 tw463 rfl qs145 rfl rfl rfl rfl (l2 r1 m1 p1 q1) (fun r2 m2 p2 q2 => ?_)
  refine q_aload_n dX10_readDebt_14 rfl rfl ?_
  refine qx_invV (ci := 10) [] [(2, 147)] rfl qM_X10_readOwner dX10_readDebt_15 tw447 rfl qs147 rfl rfl rfl rfl (l3 r1 m1 p1 q1 r2 m2 p2 q2) (fun r3 m3 p3 q3 => ?_)
  refine qx_istore_n (L' := [(2, 147), (0, r1), (0, r3), (4, 0)]) dX10_readDebt_18 rfl rfl rfl rfl ?_
  refine q_iload_n dX10_readDebt_19 rfl rfl ?_
  refine q_iload_n dX10_readDebt_20 rfl rfl ?_
  refine qx_icmp_ne (tgt := 31) dX10_readDebt_21 (by decide) (fun c4 => ?_) (fun c4 => ?_)
  · skip
    exact l4 r1 m1 p1 q1 r2 m2 p2 q2 r3 m3 p3 q3 c4
  · skip
    refine q_aload_n dX10_readDebt_24 rfl rfl ?_
    refine q_getR (ci := 10) (k := 0) dX10_readDebt_25 rfl (by decide) rfl tw234 (by decide) qs147 qw147_0 (by decide) ?_
    refine qx_invV (ci := 6) [] [(2, 145)] rfl qM_X6_failAtLast dX10_readDebt_28 tw459 rfl qs145 rfl rfl rfl rfl (l5 r1 m1 p1 q1 r2 m2 p2 q2 r3 m3 p3 q3 c4) (fun r5 m5 p5 q5 => ?_)
    exact l6 r1 m1 p1 q1 r2 m2 p2 q2 r3 m3 p3 q3 c4 r5 m5 p5 q5
theorem bkX10_readDebt_31 {b : Int} {mem : qm} {Q : Int → qm → Prop}
    {v1 v2 : Int}
    {P1 : Int → qm → Prop}
    (l1 : q_Ev yX6_need cX6_need 2 none 3 0 0 [(2, 145), (0, 42)] (q_sh0, q_rb b, mem) (qK (q_rb b) (P1)))
    {P2 : Int → qm → Int → qm → Prop}
    (l2 : ∀ (r1 : Int), ∀ (m1 : qm), P1 r1 m1 → q_in32 r1 → q_Ev yX6_number cX6_number 4 (some .int) 3 0 0 [(2, 145), (0, 3)] (q_sh0, q_rb b, m1) (qK (q_rb b) (P2 r1 m1)))
    {P3 : Int → qm → Int → qm → Int → qm → Prop}
    (l3 : ∀ (r1 : Int), ∀ (m1 : qm), P1 r1 m1 → q_in32 r1 → ∀ (r2 : Int), ∀ (m2 : qm), P2 r1 m1 r2 m2 → q_in32 r2 → q_Ev yX6_isFine cX6_isFine 1 (some .boolean) 1 0 0 [(2, 145)] (q_sh0, q_rb b, m2) (qK (q_rb b) (P3 r1 m1 r2 m2)))
    (l4 : ∀ (r1 : Int), ∀ (m1 : qm), P1 r1 m1 → q_in32 r1 → ∀ (r2 : Int), ∀ (m2 : qm), P2 r1 m1 r2 m2 → q_in32 r2 → ∀ (r3 : Int), ∀ (m3 : qm), P3 r1 m1 r2 m2 r3 m3 → q_in32 r3 → r3 = 0 → Q 0 m3)
    (o5 : ∀ (r1 : Int), ∀ (m1 : qm), P1 r1 m1 → q_in32 r1 → ∀ (r2 : Int), ∀ (m2 : qm), P2 r1 m1 r2 m2 → q_in32 r2 → ∀ (r3 : Int), ∀ (m3 : qm), P3 r1 m1 r2 m2 r3 m3 → q_in32 r3 → r3 ≠ 0 → q_in32 (v1 * 6) ∧ q_in32 ((v1 * 6) + v2) ∧ (0 ≤ ((v1 * 6) + v2) ∧ ((v1 * 6) + v2) < 36))
    (l6 : ∀ (r1 : Int), ∀ (m1 : qm), P1 r1 m1 → q_in32 r1 → ∀ (r2 : Int), ∀ (m2 : qm), P2 r1 m1 r2 m2 → q_in32 r2 → ∀ (r3 : Int), ∀ (m3 : qm), P3 r1 m1 r2 m2 r3 m3 → q_in32 r3 → r3 ≠ 0 → Q 0 (q_up m3 148 ((v1 * 6) + v2) r2)) :
    q_At yX10_readDebt cX10_readDebt 4 none 4 0 0 (qK (q_rb b) Q) 31 [(2, 147), (0, v1), (0, v2), (4, 0)] [] (q_sh0, q_rb b, mem) := by
  refine q_aload_n dX10_readDebt_31 rfl rfl ?_
  refine q_getR (ci := 10) (k := 0) dX10_readDebt_32 rfl (by decide) rfl tw234 (by decide) qs147 qw147_0 (by decide) ?_
  refine qx_bipush dX10_readDebt_35 rfl rfl ?_
  refine qx_invV (ci := 6) [(0, 42)] [(0, 42), (2, 145)] rfl qM_X6_need dX10_readDebt_37 tw463 rfl qs145 rfl rfl rfl rfl (l1) (fun r1 m1 p1 q1 => ?_)
  refine q_aload_n dX10_readDebt_40 rfl rfl ?_
  refine q_getR (ci := 10) (k := 0) dX10_readDebt_41 rfl (by decide) rfl tw234 (by decide) qs147 qw147_0 (by decide) ?_
  refine qx_iconst dX10_readDebt_44 rfl rfl ?_
  refine qx_invV (ci := 6) [(0, 3)] [(0, 3), (2, 145)] rfl qM_X6_number dX10_readDebt_45 tw468 rfl qs145 rfl rfl rfl rfl (l2 r1 m1 p1 q1) (fun r2 m2 p2 q2 => ?_)
  refine qx_istore_n (L' := [(2, 147), (0, v1), (0, v2), (0, r2)]) dX10_readDebt_48 rfl rfl rfl rfl ?_
  refine q_aload_n dX10_readDebt_49 rfl rfl ?_
  refine q_getR (ci := 10) (k := 0) dX10_readDebt_50 rfl (by decide) rfl tw234 (by decide) qs147 qw147_0 (by decide) ?_
  refine qx_invV (ci := 6) [] [(2, 145)] rfl qM_X6_isFine dX10_readDebt_53 tw477 rfl qs145 rfl rfl rfl rfl (l3 r1 m1 p1 q1 r2 m2 p2 q2) (fun r3 m3 p3 q3 => ?_)
  refine qx_if_eq (tgt := 71) dX10_readDebt_56 (by decide) (fun c4 => ?_) (fun c4 => ?_)
  · skip
    exact q_vret dX10_readDebt_71 (qK_i (l4 r1 m1 p1 q1 r2 m2 p2 q2 r3 m3 p3 q3 c4))
  · skip
    refine q_aload_n dX10_readDebt_59 rfl rfl ?_
    refine q_getR (ci := 10) (k := 3) dX10_readDebt_60 rfl (by decide) rfl tw237 (by decide) qs147 qw147_3 (by decide) ?_
    refine q_iload_n dX10_readDebt_63 rfl rfl ?_
    refine qx_bipush dX10_readDebt_64 rfl rfl ?_
    refine qx_imul dX10_readDebt_66 (o5 r1 m1 p1 q1 r2 m2 p2 q2 r3 m3 p3 q3 c4).1 ?_
    refine q_iload_n dX10_readDebt_67 rfl rfl ?_
    refine qx_iadd dX10_readDebt_68 (o5 r1 m1 p1 q1 r2 m2 p2 q2 r3 m3 p3 q3 c4).2.1 ?_
    refine q_iload_n dX10_readDebt_69 rfl rfl ?_
    refine q_iast dX10_readDebt_70 qs148 ((o5 r1 m1 p1 q1 r2 m2 p2 q2 r3 m3 p3 q3 c4).2.2).1 ((o5 r1 m1 p1 q1 r2 m2 p2 q2 r3 m3 p3 q3 c4).2.2).2 ?_
    exact q_vret dX10_readDebt_71 (qK_i (l6 r1 m1 p1 q1 r2 m2 p2 q2 r3 m3 p3 q3 c4))
theorem dX10_readBelow_0 : decode cX10_readBelow 0 = .ok (.aload_n 0, 1) := by decide +kernel
theorem dX10_readBelow_1 : decode cX10_readBelow 1 = .ok (.getfield 15, 3) := by decide +kernel
theorem dX10_readBelow_4 : decode cX10_readBelow 4 = .ok (.invokevirtual 91, 3) := by decide +kernel
theorem dX10_readBelow_7 : decode cX10_readBelow 7 = .ok (.istore_n 2, 1) := by decide +kernel
theorem dX10_readBelow_8 : decode cX10_readBelow 8 = .ok (.iload_n 2, 1) := by decide +kernel
theorem dX10_readBelow_9 : decode cX10_readBelow 9 = .ok (.aload_n 0, 1) := by decide +kernel
theorem dX10_readBelow_10 : decode cX10_readBelow 10 = .ok (.getfield 33, 3) := by decide +kernel
theorem dX10_readBelow_13 : decode cX10_readBelow 13 = .ok (.if_icmp .ge 16, 3) := by decide +kernel
theorem dX10_readBelow_16 : decode cX10_readBelow 16 = .ok (.aload_n 0, 1) := by decide +kernel
theorem dX10_readBelow_17 : decode cX10_readBelow 17 = .ok (.getfield 19, 3) := by decide +kernel
theorem dX10_readBelow_20 : decode cX10_readBelow 20 = .ok (.getfield 103, 3) := by decide +kernel
theorem dX10_readBelow_23 : decode cX10_readBelow 23 = .ok (.iload_n 2, 1) := by decide +kernel
theorem dX10_readBelow_24 : decode cX10_readBelow 24 = .ok (.iaload, 1) := by decide +kernel
theorem dX10_readBelow_25 : decode cX10_readBelow 25 = .ok (.iload_n 1, 1) := by decide +kernel
theorem dX10_readBelow_26 : decode cX10_readBelow 26 = .ok (.if_icmp .lt 10, 3) := by decide +kernel
theorem dX10_readBelow_29 : decode cX10_readBelow 29 = .ok (.aload_n 0, 1) := by decide +kernel
theorem dX10_readBelow_30 : decode cX10_readBelow 30 = .ok (.getfield 15, 3) := by decide +kernel
theorem dX10_readBelow_33 : decode cX10_readBelow 33 = .ok (.invokevirtual 82, 3) := by decide +kernel
theorem dX10_readBelow_36 : decode cX10_readBelow 36 = .ok (.iload_n 2, 1) := by decide +kernel
theorem dX10_readBelow_37 : decode cX10_readBelow 37 = .ok (.ireturn, 1) := by decide +kernel
theorem bkX10_readBelow_0 {b : Int} {mem : qm} {Q : Int → qm → Prop}
    {v : Int}
    {P1 : Int → qm → Prop}
    (l1 : q_Ev yX6_digit cX6_digit 2 (some .int) 2 0 0 [(2, 145)] (q_sh0, q_rb b, mem) (qK (q_rb b) (P1)))
    {P3 : Int → qm → Int → qm → Prop}
    (l2 : ∀ (r1 : Int), ∀ (m1 : qm), P1 r1 m1 → q_in32 r1 → (m1 147 4) ≤ r1 → q_Ev yX6_failAtLast cX6_failAtLast 1 none 2 0 0 [(2, 145)] (q_sh0, q_rb b, m1) (qK (q_rb b) (P3 r1 m1)))
    (l3 : ∀ (r1 : Int), ∀ (m1 : qm), P1 r1 m1 → q_in32 r1 → (m1 147 4) ≤ r1 → ∀ (r3 : Int), ∀ (m3 : qm), P3 r1 m1 r3 m3 → q_in32 r3 → Q r1 m3)
    (o4 : ∀ (r1 : Int), ∀ (m1 : qm), P1 r1 m1 → q_in32 r1 → r1 < (m1 147 4) → (0 ≤ r1 ∧ r1 < 9))
    (l5 : ∀ (r1 : Int), ∀ (m1 : qm), P1 r1 m1 → q_in32 r1 → r1 < (m1 147 4) → (m1 4 r1) < v → Q r1 m1)
    {P5 : Int → qm → Int → qm → Prop}
    (l6 : ∀ (r1 : Int), ∀ (m1 : qm), P1 r1 m1 → q_in32 r1 → r1 < (m1 147 4) → v ≤ (m1 4 r1) → q_Ev yX6_failAtLast cX6_failAtLast 1 none 2 0 0 [(2, 145)] (q_sh0, q_rb b, m1) (qK (q_rb b) (P5 r1 m1)))
    (l7 : ∀ (r1 : Int), ∀ (m1 : qm), P1 r1 m1 → q_in32 r1 → r1 < (m1 147 4) → v ≤ (m1 4 r1) → ∀ (r5 : Int), ∀ (m5 : qm), P5 r1 m1 r5 m5 → q_in32 r5 → Q r1 m5) :
    q_At yX10_readBelow cX10_readBelow 3 (some .int) 3 0 0 (qK (q_rb b) Q) 0 [(2, 147), (0, v), (4, 0)] [] (q_sh0, q_rb b, mem) := by
  refine q_aload_n dX10_readBelow_0 rfl rfl ?_
  refine q_getR (ci := 10) (k := 0) dX10_readBelow_1 rfl (by decide) rfl tw234 (by decide) qs147 qw147_0 (by decide) ?_
  refine qx_invV (ci := 6) [] [(2, 145)] rfl qM_X6_digit dX10_readBelow_4 tw451 rfl qs145 rfl rfl rfl rfl (l1) (fun r1 m1 p1 q1 => ?_)
  refine qx_istore_n (L' := [(2, 147), (0, v), (0, r1)]) dX10_readBelow_7 rfl rfl rfl rfl ?_
  refine q_iload_n dX10_readBelow_8 rfl rfl ?_
  refine q_aload_n dX10_readBelow_9 rfl rfl ?_
  refine qx_getI (ci := 10) (k := 4) (v := (m1 147 4)) dX10_readBelow_10 rfl rfl rfl tw238 rfl qs147 rfl ?_
  refine qx_icmp_ge (tgt := 29) dX10_readBelow_13 (by decide) (fun c2 => ?_) (fun c2 => ?_)
  · skip
    refine q_aload_n dX10_readBelow_29 rfl rfl ?_
    refine q_getR (ci := 10) (k := 0) dX10_readBelow_30 rfl (by decide) rfl tw234 (by decide) qs147 qw147_0 (by decide) ?_
    refine qx_invV (ci := 6) [] [(2, 145)] rfl qM_X6_failAtLast dX10_readBelow_33 tw459 rfl qs145 rfl rfl rfl rfl (l2 r1 m1 p1 q1 c2) (fun r3 m3 p3 q3 => ?_)
    refine q_iload_n dX10_readBelow_36 rfl rfl ?_
    exact q_iret dX10_readBelow_37 (qK_i (l3 r1 m1 p1 q1 c2 r3 m3 p3 q3))
  · skip
    refine q_aload_n dX10_readBelow_16 rfl rfl ?_
    refine q_getR (ci := 10) (k := 1) dX10_readBelow_17 rfl (by decide) rfl tw235 (by decide) qs147 qw147_1 (by decide) ?_
    refine q_getR (ci := 9) (k := 2) dX10_readBelow_20 rfl (by decide) rfl tw48 (by decide) qs1 qw1_2 (by decide) ?_
    refine q_iload_n dX10_readBelow_23 rfl rfl ?_
    refine qx_iald (v := (m1 4 r1)) dX10_readBelow_24 qs4 (o4 r1 m1 p1 q1 c2) rfl ?_
    refine q_iload_n dX10_readBelow_25 rfl rfl ?_
    refine qx_icmp_lt (tgt := 36) dX10_readBelow_26 (by decide) (fun c4 => ?_) (fun c4 => ?_)
    · skip
      refine q_iload_n dX10_readBelow_36 rfl rfl ?_
      exact q_iret dX10_readBelow_37 (qK_i (l5 r1 m1 p1 q1 c2 c4))
    · skip
      refine q_aload_n dX10_readBelow_29 rfl rfl ?_
      refine q_getR (ci := 10) (k := 0) dX10_readBelow_30 rfl (by decide) rfl tw234 (by decide) qs147 qw147_0 (by decide) ?_
      refine qx_invV (ci := 6) [] [(2, 145)] rfl qM_X6_failAtLast dX10_readBelow_33 tw459 rfl qs145 rfl rfl rfl rfl (l6 r1 m1 p1 q1 c2 c4) (fun r5 m5 p5 q5 => ?_)
      refine q_iload_n dX10_readBelow_36 rfl rfl ?_
      exact q_iret dX10_readBelow_37 (qK_i (l7 r1 m1 p1 q1 c2 c4 r5 m5 p5 q5))
theorem dX10_fill_0 : decode cX10_fill 0 = .ok (.aload_n 0, 1) := by decide +kernel
theorem dX10_fill_1 : decode cX10_fill 1 = .ok (.getfield 23, 3) := by decide +kernel
theorem dX10_fill_4 : decode cX10_fill 4 = .ok (.getfield 116, 3) := by decide +kernel
theorem dX10_fill_7 : decode cX10_fill 7 = .ok (.aload_n 0, 1) := by decide +kernel
theorem dX10_fill_8 : decode cX10_fill 8 = .ok (.getfield 33, 3) := by decide +kernel
theorem dX10_fill_11 : decode cX10_fill 11 = .ok (.iconst 0, 1) := by decide +kernel
theorem dX10_fill_12 : decode cX10_fill 12 = .ok (.iastore, 1) := by decide +kernel
theorem dX10_fill_13 : decode cX10_fill 13 = .ok (.aload_n 0, 1) := by decide +kernel
theorem dX10_fill_14 : decode cX10_fill 14 = .ok (.getfield 23, 3) := by decide +kernel
theorem dX10_fill_17 : decode cX10_fill 17 = .ok (.getfield 119, 3) := by decide +kernel
theorem dX10_fill_20 : decode cX10_fill 20 = .ok (.aload_n 0, 1) := by decide +kernel
theorem dX10_fill_21 : decode cX10_fill 21 = .ok (.getfield 33, 3) := by decide +kernel
theorem dX10_fill_24 : decode cX10_fill 24 = .ok (.iconst 0, 1) := by decide +kernel
theorem dX10_fill_25 : decode cX10_fill 25 = .ok (.iastore, 1) := by decide +kernel
theorem dX10_fill_26 : decode cX10_fill 26 = .ok (.aload_n 0, 1) := by decide +kernel
theorem dX10_fill_27 : decode cX10_fill 27 = .ok (.getfield 23, 3) := by decide +kernel
theorem dX10_fill_30 : decode cX10_fill 30 = .ok (.getfield 122, 3) := by decide +kernel
theorem dX10_fill_33 : decode cX10_fill 33 = .ok (.aload_n 0, 1) := by decide +kernel
theorem dX10_fill_34 : decode cX10_fill 34 = .ok (.getfield 33, 3) := by decide +kernel
theorem dX10_fill_37 : decode cX10_fill 37 = .ok (.iconst 0, 1) := by decide +kernel
theorem dX10_fill_38 : decode cX10_fill 38 = .ok (.iastore, 1) := by decide +kernel
theorem dX10_fill_39 : decode cX10_fill 39 = .ok (.iconst 0, 1) := by decide +kernel
theorem dX10_fill_40 : decode cX10_fill 40 = .ok (.istore_n 3, 1) := by decide +kernel
theorem dX10_fill_41 : decode cX10_fill 41 = .ok (.iload_n 3, 1) := by decide +kernel
theorem dX10_fill_42 : decode cX10_fill 42 = .ok (.iload_n 1, 1) := by decide +kernel
theorem dX10_fill_43 : decode cX10_fill 43 = .ok (.if_icmp .ge 21, 3) := by decide +kernel
theorem dX10_fill_46 : decode cX10_fill 46 = .ok (.aload_n 0, 1) := by decide +kernel
theorem dX10_fill_47 : decode cX10_fill 47 = .ok (.getfield 23, 3) := by decide +kernel
theorem dX10_fill_50 : decode cX10_fill 50 = .ok (.aload_n 0, 1) := by decide +kernel
theorem dX10_fill_51 : decode cX10_fill 51 = .ok (.getfield 33, 3) := by decide +kernel
theorem dX10_fill_54 : decode cX10_fill 54 = .ok (.iload_n 2, 1) := by decide +kernel
theorem dX10_fill_55 : decode cX10_fill 55 = .ok (.invokevirtual 125, 3) := by decide +kernel
theorem dX10_fill_58 : decode cX10_fill 58 = .ok (.iinc 3 1, 3) := by decide +kernel
theorem dX10_fill_61 : decode cX10_fill 61 = .ok (.goto (-20), 3) := by decide +kernel
theorem dX10_fill_64 : decode cX10_fill 64 = .ok (.return_, 1) := by decide +kernel
theorem bkX10_fill_0 {b : Int} {mem : qm} {Q : Int → qm → Prop}
    {v o : Int}
    (o1 : (0 ≤ (mem 147 4) ∧ (mem 147 4) < 9))
    (l2 : q_At yX10_fill cX10_fill 4 none 3 0 0 (qK (q_rb b) Q) 41 [(2, 147), (0, v), (0, o), (0, 0)] [] (q_sh0, q_rb b, (q_up (q_up (q_up mem 9 (mem 147 4) 0) 7 (mem 147 4) 0) 8 (mem 147 4) 0))) :
    q_At yX10_fill cX10_fill 4 none 3 0 0 (qK (q_rb b) Q) 0 [(2, 147), (0, v), (0, o), (4, 0)] [] (q_sh0, q_rb b, mem) := by
  refine q_aload_n dX10_fill_0 rfl rfl ?_
  refine q_getR (ci := 10) (k := 2) dX10_fill_1 rfl (by decide) rfl tw236 (by decide) qs147 qw147_2 (by decide) ?_
  refine q_getR (ci := 7) (k := 3) dX10_fill_4 rfl (by decide) rfl tw83 (by decide) qs5 qw5_3 (by decide) ?_
  refine q_aload_n dX10_fill_7 rfl rfl ?_
  refine qx_getI (ci := 10) (k := 4) (v := (mem 147 4)) dX10_fill_8 rfl rfl rfl tw238 rfl qs147 rfl ?_
  refine qx_iconst dX10_fill_11 rfl rfl ?_
  refine q_iast dX10_fill_12 qs9 ((o1)).1 ((o1)).2 ?_
  refine q_aload_n dX10_fill_13 rfl rfl ?_
  refine q_getR (ci := 10) (k := 2) dX10_fill_14 rfl (by decide) rfl tw236 (by decide) qs147 qw147_2 (by decide) ?_
  refine q_getR (ci := 7) (k := 1) dX10_fill_17 rfl (by decide) rfl tw72 (by decide) qs5 qw5_1 (by decide) ?_
  refine q_aload_n dX10_fill_20 rfl rfl ?_
  refine qx_getI (ci := 10) (k := 4) (v := (mem 147 4)) dX10_fill_21 rfl rfl rfl tw238 rfl qs147 (q_up_c (by decide)) ?_
  refine qx_iconst dX10_fill_24 rfl rfl ?_
  refine q_iast dX10_fill_25 qs7 ((o1)).1 ((o1)).2 ?_
  refine q_aload_n dX10_fill_26 rfl rfl ?_
  refine q_getR (ci := 10) (k := 2) dX10_fill_27 rfl (by decide) rfl tw236 (by decide) qs147 qw147_2 (by decide) ?_
  refine q_getR (ci := 7) (k := 2) dX10_fill_30 rfl (by decide) rfl tw78 (by decide) qs5 qw5_2 (by decide) ?_
  refine q_aload_n dX10_fill_33 rfl rfl ?_
  refine qx_getI (ci := 10) (k := 4) (v := (mem 147 4)) dX10_fill_34 rfl rfl rfl tw238 rfl qs147 ((q_up_c (by decide)).trans (q_up_c (by decide))) ?_
  refine qx_iconst dX10_fill_37 rfl rfl ?_
  refine q_iast dX10_fill_38 qs8 ((o1)).1 ((o1)).2 ?_
  refine qx_iconst dX10_fill_39 rfl rfl ?_
  refine qx_istore_n (L' := [(2, 147), (0, v), (0, o), (0, 0)]) dX10_fill_40 rfl rfl rfl rfl ?_
  exact l2
theorem bkX10_fill_41 {b : Int} {mem : qm} {Q : Int → qm → Prop}
    {v o v3 : Int}
    (l1 : v ≤ v3 → Q 0 mem)
    {P2 : Int → qm → Prop}
    (l2 : v3 < v → q_Ev yX7_putBehind cX7_putBehind 3 none 2 0 0 [(2, 5), (0, (mem 147 4)), (0, o)] (q_sh0, q_rb b, mem) (qK (q_rb b) (P2)))
    (o3 : v3 < v → ∀ (r2 : Int), ∀ (m2 : qm), P2 r2 m2 → q_in32 r2 → q_in32 (v3 + 1))
    (l4 : v3 < v → ∀ (r2 : Int), ∀ (m2 : qm), P2 r2 m2 → q_in32 r2 → q_At yX10_fill cX10_fill 4 none 3 0 0 (qK (q_rb b) Q) 41 [(2, 147), (0, v), (0, o), (0, (v3 + 1))] [] (q_sh0, q_rb b, m2)) :
    q_At yX10_fill cX10_fill 4 none 3 0 0 (qK (q_rb b) Q) 41 [(2, 147), (0, v), (0, o), (0, v3)] [] (q_sh0, q_rb b, mem) := by
  refine q_iload_n dX10_fill_41 rfl rfl ?_
  refine q_iload_n dX10_fill_42 rfl rfl ?_
  refine qx_icmp_ge (tgt := 64) dX10_fill_43 (by decide) (fun c1 => ?_) (fun c1 => ?_)
  · skip
    exact q_vret dX10_fill_64 (qK_i (l1 c1))
  · skip
    refine q_aload_n dX10_fill_46 rfl rfl ?_
    refine q_getR (ci := 10) (k := 2) dX10_fill_47 rfl (by decide) rfl tw236 (by decide) qs147 qw147_2 (by decide) ?_
    refine q_aload_n dX10_fill_50 rfl rfl ?_
    refine qx_getI (ci := 10) (k := 4) (v := (mem 147 4)) dX10_fill_51 rfl rfl rfl tw238 rfl qs147 rfl ?_
    refine q_iload_n dX10_fill_54 rfl rfl ?_
    refine qx_invV (ci := 7) [(0, (mem 147 4)), (0, o)] [(0, o), (0, (mem 147 4)), (2, 5)] rfl qM_X7_putBehind dX10_fill_55 tw494 rfl qs5 rfl rfl rfl rfl (l2 c1) (fun r2 m2 p2 q2 => ?_)
    refine qx_iinc (L' := [(2, 147), (0, v), (0, o), (0, (v3 + 1))]) dX10_fill_58 rfl rfl rfl (o3 c1 r2 m2 p2 q2) rfl ?_
    refine q_goto (tgt := 41) dX10_fill_61 (by decide) ?_
    exact l4 c1 r2 m2 p2 q2
theorem dX10_readJar_0 : decode cX10_readJar 0 = .ok (.aload_n 0, 1) := by decide +kernel
theorem dX10_readJar_1 : decode cX10_readJar 1 = .ok (.getfield 15, 3) := by decide +kernel
theorem dX10_readJar_4 : decode cX10_readJar 4 = .ok (.iconst 2, 1) := by decide +kernel
theorem dX10_readJar_5 : decode cX10_readJar 5 = .ok (.invokevirtual 85, 3) := by decide +kernel
theorem dX10_readJar_8 : decode cX10_readJar 8 = .ok (.istore_n 1, 1) := by decide +kernel
theorem dX10_readJar_9 : decode cX10_readJar 9 = .ok (.iload_n 1, 1) := by decide +kernel
theorem dX10_readJar_10 : decode cX10_readJar 10 = .ok (.iconst 1, 1) := by decide +kernel
theorem dX10_readJar_11 : decode cX10_readJar 11 = .ok (.if_icmp .lt 9, 3) := by decide +kernel
theorem dX10_readJar_14 : decode cX10_readJar 14 = .ok (.iload_n 1, 1) := by decide +kernel
theorem dX10_readJar_15 : decode cX10_readJar 15 = .ok (.bipush 60, 2) := by decide +kernel
theorem dX10_readJar_17 : decode cX10_readJar 17 = .ok (.if_icmp .le 10, 3) := by decide +kernel
theorem dX10_readJar_20 : decode cX10_readJar 20 = .ok (.aload_n 0, 1) := by decide +kernel
theorem dX10_readJar_21 : decode cX10_readJar 21 = .ok (.getfield 15, 3) := by decide +kernel
theorem dX10_readJar_24 : decode cX10_readJar 24 = .ok (.invokevirtual 82, 3) := by decide +kernel
theorem dX10_readJar_27 : decode cX10_readJar 27 = .ok (.aload_n 0, 1) := by decide +kernel
theorem dX10_readJar_28 : decode cX10_readJar 28 = .ok (.getfield 15, 3) := by decide +kernel
theorem dX10_readJar_31 : decode cX10_readJar 31 = .ok (.bipush 47, 2) := by decide +kernel
theorem dX10_readJar_33 : decode cX10_readJar 33 = .ok (.invokevirtual 79, 3) := by decide +kernel
theorem dX10_readJar_36 : decode cX10_readJar 36 = .ok (.aload_n 0, 1) := by decide +kernel
theorem dX10_readJar_37 : decode cX10_readJar 37 = .ok (.getfield 15, 3) := by decide +kernel
theorem dX10_readJar_40 : decode cX10_readJar 40 = .ok (.iconst 2, 1) := by decide +kernel
theorem dX10_readJar_41 : decode cX10_readJar 41 = .ok (.invokevirtual 85, 3) := by decide +kernel
theorem dX10_readJar_44 : decode cX10_readJar 44 = .ok (.istore_n 2, 1) := by decide +kernel
theorem dX10_readJar_45 : decode cX10_readJar 45 = .ok (.iload_n 2, 1) := by decide +kernel
theorem dX10_readJar_46 : decode cX10_readJar 46 = .ok (.iload_n 1, 1) := by decide +kernel
theorem dX10_readJar_47 : decode cX10_readJar 47 = .ok (.if_icmp .le 10, 3) := by decide +kernel
theorem dX10_readJar_50 : decode cX10_readJar 50 = .ok (.aload_n 0, 1) := by decide +kernel
theorem dX10_readJar_51 : decode cX10_readJar 51 = .ok (.getfield 15, 3) := by decide +kernel
theorem dX10_readJar_54 : decode cX10_readJar 54 = .ok (.invokevirtual 82, 3) := by decide +kernel
theorem dX10_readJar_57 : decode cX10_readJar 57 = .ok (.aload_n 0, 1) := by decide +kernel
theorem dX10_readJar_58 : decode cX10_readJar 58 = .ok (.getfield 15, 3) := by decide +kernel
theorem dX10_readJar_61 : decode cX10_readJar 61 = .ok (.bipush 44, 2) := by decide +kernel
theorem dX10_readJar_63 : decode cX10_readJar 63 = .ok (.invokevirtual 79, 3) := by decide +kernel
theorem dX10_readJar_66 : decode cX10_readJar 66 = .ok (.aload_n 0, 1) := by decide +kernel
theorem dX10_readJar_67 : decode cX10_readJar 67 = .ok (.getfield 15, 3) := by decide +kernel
theorem dX10_readJar_70 : decode cX10_readJar 70 = .ok (.invokevirtual 91, 3) := by decide +kernel
theorem dX10_readJar_73 : decode cX10_readJar 73 = .ok (.istore_n 3, 1) := by decide +kernel
theorem dX10_readJar_74 : decode cX10_readJar 74 = .ok (.aload_n 0, 1) := by decide +kernel
theorem dX10_readJar_75 : decode cX10_readJar 75 = .ok (.getfield 15, 3) := by decide +kernel
theorem dX10_readJar_78 : decode cX10_readJar 78 = .ok (.bipush 44, 2) := by decide +kernel
theorem dX10_readJar_80 : decode cX10_readJar 80 = .ok (.invokevirtual 79, 3) := by decide +kernel
theorem dX10_readJar_83 : decode cX10_readJar 83 = .ok (.aload_n 0, 1) := by decide +kernel
theorem dX10_readJar_84 : decode cX10_readJar 84 = .ok (.invokevirtual 75, 3) := by decide +kernel
theorem dX10_readJar_87 : decode cX10_readJar 87 = .ok (.istore 4, 2) := by decide +kernel
theorem dX10_readJar_89 : decode cX10_readJar 89 = .ok (.aload_n 0, 1) := by decide +kernel
theorem dX10_readJar_90 : decode cX10_readJar 90 = .ok (.getfield 15, 3) := by decide +kernel
theorem dX10_readJar_93 : decode cX10_readJar 93 = .ok (.bipush 44, 2) := by decide +kernel
theorem dX10_readJar_95 : decode cX10_readJar 95 = .ok (.invokevirtual 79, 3) := by decide +kernel
theorem dX10_readJar_98 : decode cX10_readJar 98 = .ok (.aload_n 0, 1) := by decide +kernel
theorem dX10_readJar_99 : decode cX10_readJar 99 = .ok (.getfield 15, 3) := by decide +kernel
theorem dX10_readJar_102 : decode cX10_readJar 102 = .ok (.invokevirtual 91, 3) := by decide +kernel
theorem dX10_readJar_105 : decode cX10_readJar 105 = .ok (.istore 5, 2) := by decide +kernel
theorem dX10_readJar_107 : decode cX10_readJar 107 = .ok (.aload_n 0, 1) := by decide +kernel
theorem dX10_readJar_108 : decode cX10_readJar 108 = .ok (.getfield 15, 3) := by decide +kernel
theorem dX10_readJar_111 : decode cX10_readJar 111 = .ok (.bipush 62, 2) := by decide +kernel
theorem dX10_readJar_113 : decode cX10_readJar 113 = .ok (.invokevirtual 54, 3) := by decide +kernel
theorem dX10_readJar_116 : decode cX10_readJar 116 = .ok (.ifCond .eq 12, 3) := by decide +kernel
theorem dX10_readJar_119 : decode cX10_readJar 119 = .ok (.aload_n 0, 1) := by decide +kernel
theorem dX10_readJar_120 : decode cX10_readJar 120 = .ok (.iload 5, 2) := by decide +kernel
theorem dX10_readJar_122 : decode cX10_readJar 122 = .ok (.invokevirtual 94, 3) := by decide +kernel
theorem dX10_readJar_125 : decode cX10_readJar 125 = .ok (.goto 4, 3) := by decide +kernel
theorem dX10_readJar_128 : decode cX10_readJar 128 = .ok (.iconst (-1), 1) := by decide +kernel
theorem dX10_readJar_129 : decode cX10_readJar 129 = .ok (.istore 6, 2) := by decide +kernel
theorem dX10_readJar_131 : decode cX10_readJar 131 = .ok (.aload_n 0, 1) := by decide +kernel
theorem dX10_readJar_132 : decode cX10_readJar 132 = .ok (.getfield 15, 3) := by decide +kernel
theorem dX10_readJar_135 : decode cX10_readJar 135 = .ok (.invokevirtual 88, 3) := by decide +kernel
theorem dX10_readJar_138 : decode cX10_readJar 138 = .ok (.ifCond .eq 88, 3) := by decide +kernel
theorem dX10_readJar_141 : decode cX10_readJar 141 = .ok (.aload_n 0, 1) := by decide +kernel
theorem dX10_readJar_142 : decode cX10_readJar 142 = .ok (.getfield 19, 3) := by decide +kernel
theorem dX10_readJar_145 : decode cX10_readJar 145 = .ok (.getfield 97, 3) := by decide +kernel
theorem dX10_readJar_148 : decode cX10_readJar 148 = .ok (.aload_n 0, 1) := by decide +kernel
theorem dX10_readJar_149 : decode cX10_readJar 149 = .ok (.getfield 33, 3) := by decide +kernel
theorem dX10_readJar_152 : decode cX10_readJar 152 = .ok (.iload_n 1, 1) := by decide +kernel
theorem dX10_readJar_153 : decode cX10_readJar 153 = .ok (.iastore, 1) := by decide +kernel
theorem dX10_readJar_154 : decode cX10_readJar 154 = .ok (.aload_n 0, 1) := by decide +kernel
theorem dX10_readJar_155 : decode cX10_readJar 155 = .ok (.getfield 19, 3) := by decide +kernel
theorem dX10_readJar_158 : decode cX10_readJar 158 = .ok (.getfield 100, 3) := by decide +kernel
theorem dX10_readJar_161 : decode cX10_readJar 161 = .ok (.aload_n 0, 1) := by decide +kernel
theorem dX10_readJar_162 : decode cX10_readJar 162 = .ok (.getfield 33, 3) := by decide +kernel
theorem dX10_readJar_165 : decode cX10_readJar 165 = .ok (.iload 4, 2) := by decide +kernel
theorem dX10_readJar_167 : decode cX10_readJar 167 = .ok (.iastore, 1) := by decide +kernel
theorem dX10_readJar_168 : decode cX10_readJar 168 = .ok (.aload_n 0, 1) := by decide +kernel
theorem dX10_readJar_169 : decode cX10_readJar 169 = .ok (.getfield 19, 3) := by decide +kernel
theorem dX10_readJar_172 : decode cX10_readJar 172 = .ok (.getfield 103, 3) := by decide +kernel
theorem dX10_readJar_175 : decode cX10_readJar 175 = .ok (.aload_n 0, 1) := by decide +kernel
theorem dX10_readJar_176 : decode cX10_readJar 176 = .ok (.getfield 33, 3) := by decide +kernel
theorem dX10_readJar_179 : decode cX10_readJar 179 = .ok (.iload 5, 2) := by decide +kernel
theorem dX10_readJar_181 : decode cX10_readJar 181 = .ok (.iastore, 1) := by decide +kernel
theorem dX10_readJar_182 : decode cX10_readJar 182 = .ok (.aload_n 0, 1) := by decide +kernel
theorem dX10_readJar_183 : decode cX10_readJar 183 = .ok (.getfield 23, 3) := by decide +kernel
theorem dX10_readJar_186 : decode cX10_readJar 186 = .ok (.getfield 106, 3) := by decide +kernel
theorem dX10_readJar_189 : decode cX10_readJar 189 = .ok (.aload_n 0, 1) := by decide +kernel
theorem dX10_readJar_190 : decode cX10_readJar 190 = .ok (.getfield 33, 3) := by decide +kernel
theorem dX10_readJar_193 : decode cX10_readJar 193 = .ok (.iload_n 3, 1) := by decide +kernel
theorem dX10_readJar_194 : decode cX10_readJar 194 = .ok (.iastore, 1) := by decide +kernel
theorem dX10_readJar_195 : decode cX10_readJar 195 = .ok (.aload_n 0, 1) := by decide +kernel
theorem dX10_readJar_196 : decode cX10_readJar 196 = .ok (.getfield 23, 3) := by decide +kernel
theorem dX10_readJar_199 : decode cX10_readJar 199 = .ok (.getfield 109, 3) := by decide +kernel
theorem dX10_readJar_202 : decode cX10_readJar 202 = .ok (.aload_n 0, 1) := by decide +kernel
theorem dX10_readJar_203 : decode cX10_readJar 203 = .ok (.getfield 33, 3) := by decide +kernel
theorem dX10_readJar_206 : decode cX10_readJar 206 = .ok (.iload 6, 2) := by decide +kernel
theorem dX10_readJar_208 : decode cX10_readJar 208 = .ok (.iastore, 1) := by decide +kernel
theorem dX10_readJar_209 : decode cX10_readJar 209 = .ok (.aload_n 0, 1) := by decide +kernel
theorem dX10_readJar_210 : decode cX10_readJar 210 = .ok (.iload_n 2, 1) := by decide +kernel
theorem dX10_readJar_211 : decode cX10_readJar 211 = .ok (.iload 4, 2) := by decide +kernel
theorem dX10_readJar_213 : decode cX10_readJar 213 = .ok (.invokevirtual 112, 3) := by decide +kernel
theorem dX10_readJar_216 : decode cX10_readJar 216 = .ok (.aload_n 0, 1) := by decide +kernel
theorem dX10_readJar_217 : decode cX10_readJar 217 = .ok (.dup, 1) := by decide +kernel
theorem dX10_readJar_218 : decode cX10_readJar 218 = .ok (.getfield 33, 3) := by decide +kernel
theorem dX10_readJar_221 : decode cX10_readJar 221 = .ok (.iconst 1, 1) := by decide +kernel
theorem dX10_readJar_222 : decode cX10_readJar 222 = .ok (.iadd, 1) := by decide +kernel
theorem dX10_readJar_223 : decode cX10_readJar 223 = .ok (.putfield 33, 3) := by decide +kernel
theorem dX10_readJar_226 : decode cX10_readJar 226 = .ok (.return_, 1) := by decide +kernel
theorem bkX10_readJar_0 {b : Int} {mem : qm} {Q : Int → qm → Prop}
    {P1 : Int → qm → Prop}
    (l1 : q_Ev yX6_number cX6_number 4 (some .int) 3 0 0 [(2, 145), (0, 2)] (q_sh0, q_rb b, mem) (qK (q_rb b) (P1)))
    {P3 : Int → qm → Int → qm → Prop}
    (l2 : ∀ (r1 : Int), ∀ (m1 : qm), P1 r1 m1 → q_in32 r1 → r1 < 1 → q_Ev yX6_failAtLast cX6_failAtLast 1 none 2 0 0 [(2, 145)] (q_sh0, q_rb b, m1) (qK (q_rb b) (P3 r1 m1)))
    (l3 : ∀ (r1 : Int), ∀ (m1 : qm), P1 r1 m1 → q_in32 r1 → r1 < 1 → ∀ (r3 : Int), ∀ (m3 : qm), P3 r1 m1 r3 m3 → q_in32 r3 → q_At yX10_readJar cX10_readJar 7 none 4 0 0 (qK (q_rb b) Q) 27 [(2, 147), (0, r1), (4, 0), (4, 0), (4, 0), (4, 0), (4, 0)] [] (q_sh0, q_rb b, m3))
    (l4 : ∀ (r1 : Int), ∀ (m1 : qm), P1 r1 m1 → q_in32 r1 → 1 ≤ r1 → r1 ≤ 60 → q_At yX10_readJar cX10_readJar 7 none 4 0 0 (qK (q_rb b) Q) 27 [(2, 147), (0, r1), (4, 0), (4, 0), (4, 0), (4, 0), (4, 0)] [] (q_sh0, q_rb b, m1))
    {P5 : Int → qm → Int → qm → Prop}
    (l5 : ∀ (r1 : Int), ∀ (m1 : qm), P1 r1 m1 → q_in32 r1 → 1 ≤ r1 → 60 < r1 → q_Ev yX6_failAtLast cX6_failAtLast 1 none 2 0 0 [(2, 145)] (q_sh0, q_rb b, m1) (qK (q_rb b) (P5 r1 m1)))
    (l6 : ∀ (r1 : Int), ∀ (m1 : qm), P1 r1 m1 → q_in32 r1 → 1 ≤ r1 → 60 < r1 → ∀ (r5 : Int), ∀ (m5 : qm), P5 r1 m1 r5 m5 → q_in32 r5 → q_At yX10_readJar cX10_readJar 7 none 4 0 0 (qK (q_rb b) Q) 27 [(2, 147), (0, r1), (4, 0), (4, 0), (4, 0), (4, 0), (4, 0)] [] (q_sh0, q_rb b, m5)) :
    q_At yX10_readJar cX10_readJar 7 none 4 0 0 (qK (q_rb b) Q) 0 [(2, 147), (4, 0), (4, 0), (4, 0), (4, 0), (4, 0), (4, 0)] [] (q_sh0, q_rb b, mem) := by
  refine q_aload_n dX10_readJar_0 rfl rfl ?_
  refine q_getR (ci := 10) (k := 0) dX10_readJar_1 rfl (by decide) rfl tw234 (by decide) qs147 qw147_0 (by decide) ?_
  refine qx_iconst dX10_readJar_4 rfl rfl ?_
  refine qx_invV (ci := 6) [(0, 2)] [(0, 2), (2, 145)] rfl qM_X6_number dX10_readJar_5 tw468 rfl qs145 rfl rfl rfl rfl (l1) (fun r1 m1 p1 q1 => ?_)
  refine qx_istore_n (L' := [(2, 147), (0, r1), (4, 0), (4, 0), (4, 0), (4, 0), (4, 0)]) dX10_readJar_8 rfl rfl rfl rfl ?_
  refine q_iload_n dX10_readJar_9 rfl rfl ?_
  refine qx_iconst dX10_readJar_10 rfl rfl ?_
  refine qx_icmp_lt (tgt := 20) dX10_readJar_11 (by decide) (fun c2 => ?_) (fun c2 => ?_)
  · skip
    refine q_aload_n dX10_readJar_20 rfl rfl ?_
    refine q_getR (ci := 10) (k := 0) dX10_readJar_21 rfl (by decide) rfl tw234 (by decide) qs147 qw147_0 (by decide) ?_
    refine qx_invV (ci := 6) [] [(2, 145)] rfl qM_X6_failAtLast dX10_readJar_24 tw459 rfl qs145 rfl rfl rfl rfl (l2 r1 m1 p1 q1 c2) (fun r3 m3 p3 q3 => ?_)
    exact l3 r1 m1 p1 q1 c2 r3 m3 p3 q3
  · skip
    refine q_iload_n dX10_readJar_14 rfl rfl ?_
    refine qx_bipush dX10_readJar_15 rfl rfl ?_
    refine qx_icmp_le (tgt := 27) dX10_readJar_17 (by decide) (fun c4 => ?_) (fun c4 => ?_)
    · skip
      exact l4 r1 m1 p1 q1 c2 c4
    · skip
      refine q_aload_n dX10_readJar_20 rfl rfl ?_
      refine q_getR (ci := 10) (k := 0) dX10_readJar_21 rfl (by decide) rfl tw234 (by decide) qs147 qw147_0 (by decide) ?_
      refine qx_invV (ci := 6) [] [(2, 145)] rfl qM_X6_failAtLast dX10_readJar_24 tw459 rfl qs145 rfl rfl rfl rfl (l5 r1 m1 p1 q1 c2 c4) (fun r5 m5 p5 q5 => ?_)
      exact l6 r1 m1 p1 q1 c2 c4 r5 m5 p5 q5
theorem bkX10_readJar_27 {b : Int} {mem : qm} {Q : Int → qm → Prop}
    {v1 : Int}
    {P1 : Int → qm → Prop}
    (l1 : q_Ev yX6_need cX6_need 2 none 3 0 0 [(2, 145), (0, 47)] (q_sh0, q_rb b, mem) (qK (q_rb b) (P1)))
    {P2 : Int → qm → Int → qm → Prop}
    (l2 : ∀ (r1 : Int), ∀ (m1 : qm), P1 r1 m1 → q_in32 r1 → q_Ev yX6_number cX6_number 4 (some .int) 3 0 0 [(2, 145), (0, 2)] (q_sh0, q_rb b, m1) (qK (q_rb b) (P2 r1 m1)))
    (l3 : ∀ (r1 : Int), ∀ (m1 : qm), P1 r1 m1 → q_in32 r1 → ∀ (r2 : Int), ∀ (m2 : qm), P2 r1 m1 r2 m2 → q_in32 r2 → r2 ≤ v1 → q_At yX10_readJar cX10_readJar 7 none 4 0 0 (qK (q_rb b) Q) 57 [(2, 147), (0, v1), (0, r2), (4, 0), (4, 0), (4, 0), (4, 0)] [] (q_sh0, q_rb b, m2))
    {P4 : Int → qm → Int → qm → Int → qm → Prop}
    (l4 : ∀ (r1 : Int), ∀ (m1 : qm), P1 r1 m1 → q_in32 r1 → ∀ (r2 : Int), ∀ (m2 : qm), P2 r1 m1 r2 m2 → q_in32 r2 → v1 < r2 → q_Ev yX6_failAtLast cX6_failAtLast 1 none 2 0 0 [(2, 145)] (q_sh0, q_rb b, m2) (qK (q_rb b) (P4 r1 m1 r2 m2)))
    (l5 : ∀ (r1 : Int), ∀ (m1 : qm), P1 r1 m1 → q_in32 r1 → ∀ (r2 : Int), ∀ (m2 : qm), P2 r1 m1 r2 m2 → q_in32 r2 → v1 < r2 → ∀ (r4 : Int), ∀ (m4 : qm), P4 r1 m1 r2 m2 r4 m4 → q_in32 r4 → q_At yX10_readJar cX10_readJar 7 none 4 0 0 (qK (q_rb b) Q) 57 [(2, 147), (0, v1), (0, r2), (4, 0), (4, 0), (4, 0), (4, 0)] [] (q_sh0, q_rb b, m4)) :
    q_At yX10_readJar cX10_readJar 7 none 4 0 0 (qK (q_rb b) Q) 27 [(2, 147), (0, v1), (4, 0), (4, 0), (4, 0), (4, 0), (4, 0)] [] (q_sh0, q_rb b, mem) := by
  refine q_aload_n dX10_readJar_27 rfl rfl ?_
  refine q_getR (ci := 10) (k := 0) dX10_readJar_28 rfl (by decide) rfl tw234 (by decide) qs147 qw147_0 (by decide) ?_
  refine qx_bipush dX10_readJar_31 rfl rfl ?_
  refine qx_invV (ci := 6) [(0, 47)] [(0, 47), (2, 145)] rfl qM_X6_need dX10_readJar_33 tw463 rfl qs145 rfl rfl rfl rfl (l1) (fun r1 m1 p1 q1 => ?_)
  refine q_aload_n dX10_readJar_36 rfl rfl ?_
  refine q_getR (ci := 10) (k := 0) dX10_readJar_37 rfl (by decide) rfl tw234 (by decide) qs147 qw147_0 (by decide) ?_
  refine qx_iconst dX10_readJar_40 rfl rfl ?_
  refine qx_invV (ci := 6) [(0, 2)] [(0, 2), (2, 145)] rfl qM_X6_number dX10_readJar_41 tw468 rfl qs145 rfl rfl rfl rfl (l2 r1 m1 p1 q1) (fun r2 m2 p2 q2 => ?_)
  refine qx_istore_n (L' := [(2, 147), (0, v1), (0, r2), (4, 0), (4, 0), (4, 0), (4, 0)]) dX10_readJar_44 rfl rfl rfl rfl ?_
  refine q_iload_n dX10_readJar_45 rfl rfl ?_
  refine q_iload_n dX10_readJar_46 rfl rfl ?_
  refine qx_icmp_le (tgt := 57) dX10_readJar_47 (by decide) (fun c3 => ?_) (fun c3 => ?_)
  · skip
    exact l3 r1 m1 p1 q1 r2 m2 p2 q2 c3
  · skip
    refine q_aload_n dX10_readJar_50 rfl rfl ?_
    refine q_getR (ci := 10) (k := 0) dX10_readJar_51 rfl (by decide) rfl tw234 (by decide) qs147 qw147_0 (by decide) ?_
    refine qx_invV (ci := 6) [] [(2, 145)] rfl qM_X6_failAtLast dX10_readJar_54 tw459 rfl qs145 rfl rfl rfl rfl (l4 r1 m1 p1 q1 r2 m2 p2 q2 c3) (fun r4 m4 p4 q4 => ?_)
    exact l5 r1 m1 p1 q1 r2 m2 p2 q2 c3 r4 m4 p4 q4
theorem bkX10_readJar_57 {b : Int} {mem : qm} {Q : Int → qm → Prop}
    {v1 v2 : Int}
    {P1 : Int → qm → Prop}
    (l1 : q_Ev yX6_need cX6_need 2 none 3 0 0 [(2, 145), (0, 44)] (q_sh0, q_rb b, mem) (qK (q_rb b) (P1)))
    {P2 : Int → qm → Int → qm → Prop}
    (l2 : ∀ (r1 : Int), ∀ (m1 : qm), P1 r1 m1 → q_in32 r1 → q_Ev yX6_digit cX6_digit 2 (some .int) 2 0 0 [(2, 145)] (q_sh0, q_rb b, m1) (qK (q_rb b) (P2 r1 m1)))
    {P3 : Int → qm → Int → qm → Int → qm → Prop}
    (l3 : ∀ (r1 : Int), ∀ (m1 : qm), P1 r1 m1 → q_in32 r1 → ∀ (r2 : Int), ∀ (m2 : qm), P2 r1 m1 r2 m2 → q_in32 r2 → q_Ev yX6_need cX6_need 2 none 3 0 0 [(2, 145), (0, 44)] (q_sh0, q_rb b, m2) (qK (q_rb b) (P3 r1 m1 r2 m2)))
    {P4 : Int → qm → Int → qm → Int → qm → Int → qm → Prop}
    (l4 : ∀ (r1 : Int), ∀ (m1 : qm), P1 r1 m1 → q_in32 r1 → ∀ (r2 : Int), ∀ (m2 : qm), P2 r1 m1 r2 m2 → q_in32 r2 → ∀ (r3 : Int), ∀ (m3 : qm), P3 r1 m1 r2 m2 r3 m3 → q_in32 r3 → q_Ev yX10_readOwner cX10_readOwner 2 (some .int) 3 0 0 [(2, 147)] (q_sh0, q_rb b, m3) (qK (q_rb b) (P4 r1 m1 r2 m2 r3 m3)))
    {P5 : Int → qm → Int → qm → Int → qm → Int → qm → Int → qm → Prop}
    (l5 : ∀ (r1 : Int), ∀ (m1 : qm), P1 r1 m1 → q_in32 r1 → ∀ (r2 : Int), ∀ (m2 : qm), P2 r1 m1 r2 m2 → q_in32 r2 → ∀ (r3 : Int), ∀ (m3 : qm), P3 r1 m1 r2 m2 r3 m3 → q_in32 r3 → ∀ (r4 : Int), ∀ (m4 : qm), P4 r1 m1 r2 m2 r3 m3 r4 m4 → q_in32 r4 → q_Ev yX6_need cX6_need 2 none 3 0 0 [(2, 145), (0, 44)] (q_sh0, q_rb b, m4) (qK (q_rb b) (P5 r1 m1 r2 m2 r3 m3 r4 m4)))
    {P6 : Int → qm → Int → qm → Int → qm → Int → qm → Int → qm → Int → qm → Prop}
    (l6 : ∀ (r1 : Int), ∀ (m1 : qm), P1 r1 m1 → q_in32 r1 → ∀ (r2 : Int), ∀ (m2 : qm), P2 r1 m1 r2 m2 → q_in32 r2 → ∀ (r3 : Int), ∀ (m3 : qm), P3 r1 m1 r2 m2 r3 m3 → q_in32 r3 → ∀ (r4 : Int), ∀ (m4 : qm), P4 r1 m1 r2 m2 r3 m3 r4 m4 → q_in32 r4 → ∀ (r5 : Int), ∀ (m5 : qm), P5 r1 m1 r2 m2 r3 m3 r4 m4 r5 m5 → q_in32 r5 → q_Ev yX6_digit cX6_digit 2 (some .int) 2 0 0 [(2, 145)] (q_sh0, q_rb b, m5) (qK (q_rb b) (P6 r1 m1 r2 m2 r3 m3 r4 m4 r5 m5)))
    {P7 : Int → qm → Int → qm → Int → qm → Int → qm → Int → qm → Int → qm → Int → qm → Prop}
    (l7 : ∀ (r1 : Int), ∀ (m1 : qm), P1 r1 m1 → q_in32 r1 → ∀ (r2 : Int), ∀ (m2 : qm), P2 r1 m1 r2 m2 → q_in32 r2 → ∀ (r3 : Int), ∀ (m3 : qm), P3 r1 m1 r2 m2 r3 m3 → q_in32 r3 → ∀ (r4 : Int), ∀ (m4 : qm), P4 r1 m1 r2 m2 r3 m3 r4 m4 → q_in32 r4 → ∀ (r5 : Int), ∀ (m5 : qm), P5 r1 m1 r2 m2 r3 m3 r4 m4 r5 m5 → q_in32 r5 → ∀ (r6 : Int), ∀ (m6 : qm), P6 r1 m1 r2 m2 r3 m3 r4 m4 r5 m5 r6 m6 → q_in32 r6 → q_Ev yX6_skip cX6_skip 2 (some .boolean) 2 0 0 [(2, 145), (0, 62)] (q_sh0, q_rb b, m6) (qK (q_rb b) (P7 r1 m1 r2 m2 r3 m3 r4 m4 r5 m5 r6 m6)))
    (l8 : ∀ (r1 : Int), ∀ (m1 : qm), P1 r1 m1 → q_in32 r1 → ∀ (r2 : Int), ∀ (m2 : qm), P2 r1 m1 r2 m2 → q_in32 r2 → ∀ (r3 : Int), ∀ (m3 : qm), P3 r1 m1 r2 m2 r3 m3 → q_in32 r3 → ∀ (r4 : Int), ∀ (m4 : qm), P4 r1 m1 r2 m2 r3 m3 r4 m4 → q_in32 r4 → ∀ (r5 : Int), ∀ (m5 : qm), P5 r1 m1 r2 m2 r3 m3 r4 m4 r5 m5 → q_in32 r5 → ∀ (r6 : Int), ∀ (m6 : qm), P6 r1 m1 r2 m2 r3 m3 r4 m4 r5 m5 r6 m6 → q_in32 r6 → ∀ (r7 : Int), ∀ (m7 : qm), P7 r1 m1 r2 m2 r3 m3 r4 m4 r5 m5 r6 m6 r7 m7 → q_in32 r7 → r7 = 0 → q_At yX10_readJar cX10_readJar 7 none 4 0 0 (qK (q_rb b) Q) 131 [(2, 147), (0, v1), (0, v2), (0, r2), (0, r4), (0, r6), (0, (-1))] [] (q_sh0, q_rb b, m7))
    {P9 : Int → qm → Int → qm → Int → qm → Int → qm → Int → qm → Int → qm → Int → qm → Int → qm → Prop}
    (l9 : ∀ (r1 : Int), ∀ (m1 : qm), P1 r1 m1 → q_in32 r1 → ∀ (r2 : Int), ∀ (m2 : qm), P2 r1 m1 r2 m2 → q_in32 r2 → ∀ (r3 : Int), ∀ (m3 : qm), P3 r1 m1 r2 m2 r3 m3 → q_in32 r3 → ∀ (r4 : Int), ∀ (m4 : qm), P4 r1 m1 r2 m2 r3 m3 r4 m4 → q_in32 r4 → ∀ (r5 : Int), ∀ (m5 : qm), P5 r1 m1 r2 m2 r3 m3 r4 m4 r5 m5 → q_in32 r5 → ∀ (r6 : Int), ∀ (m6 : qm), P6 r1 m1 r2 m2 r3 m3 r4 m4 r5 m5 r6 m6 → q_in32 r6 → ∀ (r7 : Int), ∀ (m7 : qm), P7 r1 m1 r2 m2 r3 m3 r4 m4 r5 m5 r6 m6 r7 m7 → q_in32 r7 → r7 ≠ 0 → q_Ev yX10_readBelow cX10_readBelow 3 (some .int) 3 0 0 [(2, 147), (0, r6)] (q_sh0, q_rb b, m7) (qK (q_rb b) (P9 r1 m1 r2 m2 r3 m3 r4 m4 r5 m5 r6 m6 r7 m7)))
    (l10 : ∀ (r1 : Int), ∀ (m1 : qm), P1 r1 m1 → q_in32 r1 → ∀ (r2 : Int), ∀ (m2 : qm), P2 r1 m1 r2 m2 → q_in32 r2 → ∀ (r3 : Int), ∀ (m3 : qm), P3 r1 m1 r2 m2 r3 m3 → q_in32 r3 → ∀ (r4 : Int), ∀ (m4 : qm), P4 r1 m1 r2 m2 r3 m3 r4 m4 → q_in32 r4 → ∀ (r5 : Int), ∀ (m5 : qm), P5 r1 m1 r2 m2 r3 m3 r4 m4 r5 m5 → q_in32 r5 → ∀ (r6 : Int), ∀ (m6 : qm), P6 r1 m1 r2 m2 r3 m3 r4 m4 r5 m5 r6 m6 → q_in32 r6 → ∀ (r7 : Int), ∀ (m7 : qm), P7 r1 m1 r2 m2 r3 m3 r4 m4 r5 m5 r6 m6 r7 m7 → q_in32 r7 → r7 ≠ 0 → ∀ (r9 : Int), ∀ (m9 : qm), P9 r1 m1 r2 m2 r3 m3 r4 m4 r5 m5 r6 m6 r7 m7 r9 m9 → q_in32 r9 → q_At yX10_readJar cX10_readJar 7 none 4 0 0 (qK (q_rb b) Q) 131 [(2, 147), (0, v1), (0, v2), (0, r2), (0, r4), (0, r6), (0, r9)] [] (q_sh0, q_rb b, m9)) :
    q_At yX10_readJar cX10_readJar 7 none 4 0 0 (qK (q_rb b) Q) 57 [(2, 147), (0, v1), (0, v2), (4, 0), (4, 0), (4, 0), (4, 0)] [] (q_sh0, q_rb b, mem) := by
  refine q_aload_n dX10_readJar_57 rfl rfl ?_
  refine q_getR (ci := 10) (k := 0) dX10_readJar_58 rfl (by decide) rfl tw234 (by decide) qs147 qw147_0 (by decide) ?_
  refine qx_bipush dX10_readJar_61 rfl rfl ?_
  refine qx_invV (ci := 6) [(0, 44)] [(0, 44), (2, 145)] rfl qM_X6_need dX10_readJar_63 tw463 rfl qs145 rfl rfl rfl rfl (l1) (fun r1 m1 p1 q1 => ?_)
  refine q_aload_n dX10_readJar_66 rfl rfl ?_
  refine q_getR (ci := 10) (k := 0) dX10_readJar_67 rfl (by decide) rfl tw234 (by decide) qs147 qw147_0 (by decide) ?_
  refine qx_invV (ci := 6) [] [(2, 145)] rfl qM_X6_digit dX10_readJar_70 tw451 rfl qs145 rfl rfl rfl rfl (l2 r1 m1 p1 q1) (fun r2 m2 p2 q2 => ?_)
  refine qx_istore_n (L' := [(2, 147), (0, v1), (0, v2), (0, r2), (4, 0), (4, 0), (4, 0)]) dX10_readJar_73 rfl rfl rfl rfl ?_
  refine q_aload_n dX10_readJar_74 rfl rfl ?_
  refine q_getR (ci := 10) (k := 0) dX10_readJar_75 rfl (by decide) rfl tw234 (by decide) qs147 qw147_0 (by decide) ?_
  refine qx_bipush dX10_readJar_78 rfl rfl ?_
  refine qx_invV (ci := 6) [(0, 44)] [(0, 44), (2, 145)] rfl qM_X6_need dX10_readJar_80 tw463 rfl qs145 rfl rfl rfl rfl (l3 r1 m1 p1 q1 r2 m2 p2 q2) (fun r3 m3 p3 q3 => ?_)
  refine q_aload_n dX10_readJar_83 rfl rfl ?_
  refine qx_invV (ci := 10) [] [(2, 147)] rfl qM_X10_readOwner dX10_readJar_84 tw447 rfl qs147 rfl rfl rfl rfl (l4 r1 m1 p1 q1 r2 m2 p2 q2 r3 m3 p3 q3) (fun r4 m4 p4 q4 => ?_)
  refine qx_istore (L' := [(2, 147), (0, v1), (0, v2), (0, r2), (0, r4), (4, 0), (4, 0)]) dX10_readJar_87 rfl rfl rfl ?_
  refine q_aload_n dX10_readJar_89 rfl rfl ?_
  refine q_getR (ci := 10) (k := 0) dX10_readJar_90 rfl (by decide) rfl tw234 (by decide) qs147 qw147_0 (by decide) ?_
  refine qx_bipush dX10_readJar_93 rfl rfl ?_
  refine qx_invV (ci := 6) [(0, 44)] [(0, 44), (2, 145)] rfl qM_X6_need dX10_readJar_95 tw463 rfl qs145 rfl rfl rfl rfl (l5 r1 m1 p1 q1 r2 m2 p2 q2 r3 m3 p3 q3 r4 m4 p4 q4) (fun r5 m5 p5 q5 => ?_)
  refine q_aload_n dX10_readJar_98 rfl rfl ?_
  refine q_getR (ci := 10) (k := 0) dX10_readJar_99 rfl (by decide) rfl tw234 (by decide) qs147 qw147_0 (by decide) ?_
  refine qx_invV (ci := 6) [] [(2, 145)] rfl qM_X6_digit dX10_readJar_102 tw451 rfl qs145 rfl rfl rfl rfl (l6 r1 m1 p1 q1 r2 m2 p2 q2 r3 m3 p3 q3 r4 m4 p4 q4 r5 m5 p5 q5) (fun r6 m6 p6 q6 => ?_)
  refine qx_istore (L' := [(2, 147), (0, v1), (0, v2), (0, r2), (0, r4), (0, r6), (4, 0)]) dX10_readJar_105 rfl rfl rfl ?_
  refine q_aload_n dX10_readJar_107 rfl rfl ?_
  refine q_getR (ci := 10) (k := 0) dX10_readJar_108 rfl (by decide) rfl tw234 (by decide) qs147 qw147_0 (by decide) ?_
  refine qx_bipush dX10_readJar_111 rfl rfl ?_
  refine qx_invV (ci := 6) [(0, 62)] [(0, 62), (2, 145)] rfl qM_X6_skip dX10_readJar_113 tw435 rfl qs145 rfl rfl rfl rfl (l7 r1 m1 p1 q1 r2 m2 p2 q2 r3 m3 p3 q3 r4 m4 p4 q4 r5 m5 p5 q5 r6 m6 p6 q6) (fun r7 m7 p7 q7 => ?_)
  refine qx_if_eq (tgt := 128) dX10_readJar_116 (by decide) (fun c8 => ?_) (fun c8 => ?_)
  · skip
    refine qx_iconst dX10_readJar_128 rfl rfl ?_
    refine qx_istore (L' := [(2, 147), (0, v1), (0, v2), (0, r2), (0, r4), (0, r6), (0, (-1))]) dX10_readJar_129 rfl rfl rfl ?_
    exact l8 r1 m1 p1 q1 r2 m2 p2 q2 r3 m3 p3 q3 r4 m4 p4 q4 r5 m5 p5 q5 r6 m6 p6 q6 r7 m7 p7 q7 c8
  · skip
    refine q_aload_n dX10_readJar_119 rfl rfl ?_
    refine q_iload dX10_readJar_120 rfl ?_
    refine qx_invV (ci := 10) [(0, r6)] [(0, r6), (2, 147)] rfl qM_X10_readBelow dX10_readJar_122 tw486 rfl qs147 rfl rfl rfl rfl (l9 r1 m1 p1 q1 r2 m2 p2 q2 r3 m3 p3 q3 r4 m4 p4 q4 r5 m5 p5 q5 r6 m6 p6 q6 r7 m7 p7 q7 c8) (fun r9 m9 p9 q9 => ?_)
    refine q_goto (tgt := 129) dX10_readJar_125 (by decide) ?_
    refine qx_istore (L' := [(2, 147), (0, v1), (0, v2), (0, r2), (0, r4), (0, r6), (0, r9)]) dX10_readJar_129 rfl rfl rfl ?_
    exact l10 r1 m1 p1 q1 r2 m2 p2 q2 r3 m3 p3 q3 r4 m4 p4 q4 r5 m5 p5 q5 r6 m6 p6 q6 r7 m7 p7 q7 c8 r9 m9 p9 q9
theorem bkX10_readJar_131 {b : Int} {mem : qm} {Q : Int → qm → Prop}
    {v1 v2 v3 v4 v5 v6 : Int}
    {P1 : Int → qm → Prop}
    (l1 : q_Ev yX6_isFine cX6_isFine 1 (some .boolean) 1 0 0 [(2, 145)] (q_sh0, q_rb b, mem) (qK (q_rb b) (P1)))
    (l2 : ∀ (r1 : Int), ∀ (m1 : qm), P1 r1 m1 → q_in32 r1 → r1 = 0 → Q 0 m1)
    (o3 : ∀ (r1 : Int), ∀ (m1 : qm), P1 r1 m1 → q_in32 r1 → r1 ≠ 0 → (0 ≤ (m1 147 4) ∧ (m1 147 4) < 9))
    {P3 : Int → qm → Int → qm → Prop}
    (l4 : ∀ (r1 : Int), ∀ (m1 : qm), P1 r1 m1 → q_in32 r1 → r1 ≠ 0 → q_Ev yX10_fill cX10_fill 4 none 3 0 0 [(2, 147), (0, v2), (0, v4)] (q_sh0, q_rb b, (q_up (q_up (q_up (q_up (q_up m1 2 (m1 147 4) v1) 3 (m1 147 4) v4) 4 (m1 147 4) v5) 10 (m1 147 4) v3) 11 (m1 147 4) v6)) (qK (q_rb b) (P3 r1 m1)))
    (o5 : ∀ (r1 : Int), ∀ (m1 : qm), P1 r1 m1 → q_in32 r1 → r1 ≠ 0 → ∀ (r3 : Int), ∀ (m3 : qm), P3 r1 m1 r3 m3 → q_in32 r3 → q_in32 ((m3 147 4) + 1))
    (l6 : ∀ (r1 : Int), ∀ (m1 : qm), P1 r1 m1 → q_in32 r1 → r1 ≠ 0 → ∀ (r3 : Int), ∀ (m3 : qm), P3 r1 m1 r3 m3 → q_in32 r3 → Q 0 (q_up m3 147 4 ((m3 147 4) + 1))) :
    q_At yX10_readJar cX10_readJar 7 none 4 0 0 (qK (q_rb b) Q) 131 [(2, 147), (0, v1), (0, v2), (0, v3), (0, v4), (0, v5), (0, v6)] [] (q_sh0, q_rb b, mem) := by
  refine q_aload_n dX10_readJar_131 rfl rfl ?_
  refine q_getR (ci := 10) (k := 0) dX10_readJar_132 rfl (by decide) rfl tw234 (by decide) qs147 qw147_0 (by decide) ?_
  refine qx_invV (ci := 6) [] [(2, 145)] rfl qM_X6_isFine dX10_readJar_135 tw477 rfl qs145 rfl rfl rfl rfl (l1) (fun r1 m1 p1 q1 => ?_)
  refine qx_if_eq (tgt := 226) dX10_readJar_138 (by decide) (fun c2 => ?_) (fun c2 => ?_)
  · skip
    exact q_vret dX10_readJar_226 (qK_i (l2 r1 m1 p1 q1 c2))
  · skip
    refine q_aload_n dX10_readJar_141 rfl rfl ?_
    refine q_getR (ci := 10) (k := 1) dX10_readJar_142 rfl (by decide) rfl tw235 (by decide) qs147 qw147_1 (by decide) ?_
    refine q_getR (ci := 9) (k := 0) dX10_readJar_145 rfl (by decide) rfl tw40 (by decide) qs1 qw1_0 (by decide) ?_
    refine q_aload_n dX10_readJar_148 rfl rfl ?_
    refine qx_getI (ci := 10) (k := 4) (v := (m1 147 4)) dX10_readJar_149 rfl rfl rfl tw238 rfl qs147 rfl ?_
    refine q_iload_n dX10_readJar_152 rfl rfl ?_
    refine q_iast dX10_readJar_153 qs2 ((o3 r1 m1 p1 q1 c2)).1 ((o3 r1 m1 p1 q1 c2)).2 ?_
    refine q_aload_n dX10_readJar_154 rfl rfl ?_
    refine q_getR (ci := 10) (k := 1) dX10_readJar_155 rfl (by decide) rfl tw235 (by decide) qs147 qw147_1 (by decide) ?_
    refine q_getR (ci := 9) (k := 1) dX10_readJar_158 rfl (by decide) rfl tw45 (by decide) qs1 qw1_1 (by decide) ?_
    refine q_aload_n dX10_readJar_161 rfl rfl ?_
    refine qx_getI (ci := 10) (k := 4) (v := (m1 147 4)) dX10_readJar_162 rfl rfl rfl tw238 rfl qs147 (q_up_c (by decide)) ?_
    refine q_iload dX10_readJar_165 rfl ?_
    refine q_iast dX10_readJar_167 qs3 ((o3 r1 m1 p1 q1 c2)).1 ((o3 r1 m1 p1 q1 c2)).2 ?_
    refine q_aload_n dX10_readJar_168 rfl rfl ?_
    refine q_getR (ci := 10) (k := 1) dX10_readJar_169 rfl (by decide) rfl tw235 (by decide) qs147 qw147_1 (by decide) ?_
    refine q_getR (ci := 9) (k := 2) dX10_readJar_172 rfl (by decide) rfl tw48 (by decide) qs1 qw1_2 (by decide) ?_
    refine q_aload_n dX10_readJar_175 rfl rfl ?_
    refine qx_getI (ci := 10) (k := 4) (v := (m1 147 4)) dX10_readJar_176 rfl rfl rfl tw238 rfl qs147 ((q_up_c (by decide)).trans (q_up_c (by decide))) ?_
    refine q_iload dX10_readJar_179 rfl ?_
    refine q_iast dX10_readJar_181 qs4 ((o3 r1 m1 p1 q1 c2)).1 ((o3 r1 m1 p1 q1 c2)).2 ?_
    refine q_aload_n dX10_readJar_182 rfl rfl ?_
    refine q_getR (ci := 10) (k := 2) dX10_readJar_183 rfl (by decide) rfl tw236 (by decide) qs147 qw147_2 (by decide) ?_
    refine q_getR (ci := 7) (k := 4) dX10_readJar_186 rfl (by decide) rfl tw88 (by decide) qs5 qw5_4 (by decide) ?_
    refine q_aload_n dX10_readJar_189 rfl rfl ?_
    refine qx_getI (ci := 10) (k := 4) (v := (m1 147 4)) dX10_readJar_190 rfl rfl rfl tw238 rfl qs147 ((q_up_c (by decide)).trans ((q_up_c (by decide)).trans (q_up_c (by decide)))) ?_
    refine q_iload_n dX10_readJar_193 rfl rfl ?_
    refine q_iast dX10_readJar_194 qs10 ((o3 r1 m1 p1 q1 c2)).1 ((o3 r1 m1 p1 q1 c2)).2 ?_
    refine q_aload_n dX10_readJar_195 rfl rfl ?_
    refine q_getR (ci := 10) (k := 2) dX10_readJar_196 rfl (by decide) rfl tw236 (by decide) qs147 qw147_2 (by decide) ?_
    refine q_getR (ci := 7) (k := 5) dX10_readJar_199 rfl (by decide) rfl tw93 (by decide) qs5 qw5_5 (by decide) ?_
    refine q_aload_n dX10_readJar_202 rfl rfl ?_
    refine qx_getI (ci := 10) (k := 4) (v := (m1 147 4)) dX10_readJar_203 rfl rfl rfl tw238 rfl qs147 ((q_up_c (by decide)).trans ((q_up_c (by decide)).trans ((q_up_c (by decide)).trans (q_up_c (by decide))))) ?_
    refine q_iload dX10_readJar_206 rfl ?_
    refine q_iast dX10_readJar_208 qs11 ((o3 r1 m1 p1 q1 c2)).1 ((o3 r1 m1 p1 q1 c2)).2 ?_
    refine q_aload_n dX10_readJar_209 rfl rfl ?_
    refine q_iload_n dX10_readJar_210 rfl rfl ?_
    refine q_iload dX10_readJar_211 rfl ?_
    refine qx_invV (ci := 10) [(0, v2), (0, v4)] [(0, v4), (0, v2), (2, 147)] rfl qM_X10_fill dX10_readJar_213 tw490 rfl qs147 rfl rfl rfl rfl (l4 r1 m1 p1 q1 c2) (fun r3 m3 p3 q3 => ?_)
    refine q_aload_n dX10_readJar_216 rfl rfl ?_
    refine q_dup dX10_readJar_217 (fun h => by cases h) ?_
    refine qx_getI (ci := 10) (k := 4) (v := (m3 147 4)) dX10_readJar_218 rfl rfl rfl tw238 rfl qs147 rfl ?_
    refine qx_iconst dX10_readJar_221 rfl rfl ?_
    refine qx_iadd dX10_readJar_222 (o5 r1 m1 p1 q1 c2 r3 m3 p3 q3) ?_
    refine q_putI (ci := 10) (k := 4) (kI := 4) (ty := .int) dX10_readJar_223 rfl (by decide) rfl tw238 rfl rfl rfl (fun _ => ⟨rfl, rfl⟩) qs147 ?_
    exact q_vret dX10_readJar_226 (qK_i (l6 r1 m1 p1 q1 c2 r3 m3 p3 q3))
theorem dX10_readLine_0 : decode cX10_readLine 0 = .ok (.aload_n 0, 1) := by decide +kernel
theorem dX10_readLine_1 : decode cX10_readLine 1 = .ok (.getfield 15, 3) := by decide +kernel
theorem dX10_readLine_4 : decode cX10_readLine 4 = .ok (.bipush 100, 2) := by decide +kernel
theorem dX10_readLine_6 : decode cX10_readLine 6 = .ok (.invokevirtual 54, 3) := by decide +kernel
theorem dX10_readLine_9 : decode cX10_readLine 9 = .ok (.ifCond .eq 10, 3) := by decide +kernel
theorem dX10_readLine_12 : decode cX10_readLine 12 = .ok (.aload_n 0, 1) := by decide +kernel
theorem dX10_readLine_13 : decode cX10_readLine 13 = .ok (.invokevirtual 62, 3) := by decide +kernel
theorem dX10_readLine_16 : decode cX10_readLine 16 = .ok (.goto 36, 3) := by decide +kernel
theorem dX10_readLine_19 : decode cX10_readLine 19 = .ok (.aload_n 0, 1) := by decide +kernel
theorem dX10_readLine_20 : decode cX10_readLine 20 = .ok (.getfield 15, 3) := by decide +kernel
theorem dX10_readLine_23 : decode cX10_readLine 23 = .ok (.invokevirtual 65, 3) := by decide +kernel
theorem dX10_readLine_26 : decode cX10_readLine 26 = .ok (.ifCond .eq 19, 3) := by decide +kernel
theorem dX10_readLine_29 : decode cX10_readLine 29 = .ok (.aload_n 0, 1) := by decide +kernel
theorem dX10_readLine_30 : decode cX10_readLine 30 = .ok (.getfield 33, 3) := by decide +kernel
theorem dX10_readLine_33 : decode cX10_readLine 33 = .ok (.bipush 9, 2) := by decide +kernel
theorem dX10_readLine_35 : decode cX10_readLine 35 = .ok (.if_icmp .ge 10, 3) := by decide +kernel
theorem dX10_readLine_38 : decode cX10_readLine 38 = .ok (.aload_n 0, 1) := by decide +kernel
theorem dX10_readLine_39 : decode cX10_readLine 39 = .ok (.invokevirtual 69, 3) := by decide +kernel
theorem dX10_readLine_42 : decode cX10_readLine 42 = .ok (.goto 10, 3) := by decide +kernel
theorem dX10_readLine_45 : decode cX10_readLine 45 = .ok (.aload_n 0, 1) := by decide +kernel
theorem dX10_readLine_46 : decode cX10_readLine 46 = .ok (.getfield 15, 3) := by decide +kernel
theorem dX10_readLine_49 : decode cX10_readLine 49 = .ok (.invokevirtual 72, 3) := by decide +kernel
theorem dX10_readLine_52 : decode cX10_readLine 52 = .ok (.return_, 1) := by decide +kernel
theorem bkX10_readLine_0 {b : Int} {mem : qm} {Q : Int → qm → Prop}
    {P1 : Int → qm → Prop}
    (l1 : q_Ev yX6_skip cX6_skip 2 (some .boolean) 2 0 0 [(2, 145), (0, 100)] (q_sh0, q_rb b, mem) (qK (q_rb b) (P1)))
    {P3 : Int → qm → Int → qm → Prop}
    (l2 : ∀ (r1 : Int), ∀ (m1 : qm), P1 r1 m1 → q_in32 r1 → r1 = 0 → q_Ev yX6_seesDigit cX6_seesDigit 2 (some .boolean) 2 0 0 [(2, 145)] (q_sh0, q_rb b, m1) (qK (q_rb b) (P3 r1 m1)))
    {P5 : Int → qm → Int → qm → Int → qm → Prop}
    (l3 : ∀ (r1 : Int), ∀ (m1 : qm), P1 r1 m1 → q_in32 r1 → r1 = 0 → ∀ (r3 : Int), ∀ (m3 : qm), P3 r1 m1 r3 m3 → q_in32 r3 → r3 = 0 → q_Ev yX6_failHere cX6_failHere 1 none 2 0 0 [(2, 145)] (q_sh0, q_rb b, m3) (qK (q_rb b) (P5 r1 m1 r3 m3)))
    (l4 : ∀ (r1 : Int), ∀ (m1 : qm), P1 r1 m1 → q_in32 r1 → r1 = 0 → ∀ (r3 : Int), ∀ (m3 : qm), P3 r1 m1 r3 m3 → q_in32 r3 → r3 = 0 → ∀ (r5 : Int), ∀ (m5 : qm), P5 r1 m1 r3 m3 r5 m5 → q_in32 r5 → Q 0 m5)
    {P7 : Int → qm → Int → qm → Int → qm → Prop}
    (l5 : ∀ (r1 : Int), ∀ (m1 : qm), P1 r1 m1 → q_in32 r1 → r1 = 0 → ∀ (r3 : Int), ∀ (m3 : qm), P3 r1 m1 r3 m3 → q_in32 r3 → r3 ≠ 0 → 9 ≤ (m3 147 4) → q_Ev yX6_failHere cX6_failHere 1 none 2 0 0 [(2, 145)] (q_sh0, q_rb b, m3) (qK (q_rb b) (P7 r1 m1 r3 m3)))
    (l6 : ∀ (r1 : Int), ∀ (m1 : qm), P1 r1 m1 → q_in32 r1 → r1 = 0 → ∀ (r3 : Int), ∀ (m3 : qm), P3 r1 m1 r3 m3 → q_in32 r3 → r3 ≠ 0 → 9 ≤ (m3 147 4) → ∀ (r7 : Int), ∀ (m7 : qm), P7 r1 m1 r3 m3 r7 m7 → q_in32 r7 → Q 0 m7)
    {P8 : Int → qm → Int → qm → Int → qm → Prop}
    (l7 : ∀ (r1 : Int), ∀ (m1 : qm), P1 r1 m1 → q_in32 r1 → r1 = 0 → ∀ (r3 : Int), ∀ (m3 : qm), P3 r1 m1 r3 m3 → q_in32 r3 → r3 ≠ 0 → (m3 147 4) < 9 → q_Ev yX10_readJar cX10_readJar 7 none 4 0 0 [(2, 147)] (q_sh0, q_rb b, m3) (qK (q_rb b) (P8 r1 m1 r3 m3)))
    (l8 : ∀ (r1 : Int), ∀ (m1 : qm), P1 r1 m1 → q_in32 r1 → r1 = 0 → ∀ (r3 : Int), ∀ (m3 : qm), P3 r1 m1 r3 m3 → q_in32 r3 → r3 ≠ 0 → (m3 147 4) < 9 → ∀ (r8 : Int), ∀ (m8 : qm), P8 r1 m1 r3 m3 r8 m8 → q_in32 r8 → Q 0 m8)
    {P9 : Int → qm → Int → qm → Prop}
    (l9 : ∀ (r1 : Int), ∀ (m1 : qm), P1 r1 m1 → q_in32 r1 → r1 ≠ 0 → q_Ev yX10_readDebt cX10_readDebt 4 none 4 0 0 [(2, 147)] (q_sh0, q_rb b, m1) (qK (q_rb b) (P9 r1 m1)))
    (l10 : ∀ (r1 : Int), ∀ (m1 : qm), P1 r1 m1 → q_in32 r1 → r1 ≠ 0 → ∀ (r9 : Int), ∀ (m9 : qm), P9 r1 m1 r9 m9 → q_in32 r9 → Q 0 m9) :
    q_At yX10_readLine cX10_readLine 1 none 5 0 0 (qK (q_rb b) Q) 0 [(2, 147)] [] (q_sh0, q_rb b, mem) := by
  refine q_aload_n dX10_readLine_0 rfl rfl ?_
  refine q_getR (ci := 10) (k := 0) dX10_readLine_1 rfl (by decide) rfl tw234 (by decide) qs147 qw147_0 (by decide) ?_
  refine qx_bipush dX10_readLine_4 rfl rfl ?_
  refine qx_invV (ci := 6) [(0, 100)] [(0, 100), (2, 145)] rfl qM_X6_skip dX10_readLine_6 tw435 rfl qs145 rfl rfl rfl rfl (l1) (fun r1 m1 p1 q1 => ?_)
  refine qx_if_eq (tgt := 19) dX10_readLine_9 (by decide) (fun c2 => ?_) (fun c2 => ?_)
  · skip
    refine q_aload_n dX10_readLine_19 rfl rfl ?_
    refine q_getR (ci := 10) (k := 0) dX10_readLine_20 rfl (by decide) rfl tw234 (by decide) qs147 qw147_0 (by decide) ?_
    refine qx_invV (ci := 6) [] [(2, 145)] rfl qM_X6_seesDigit dX10_readLine_23 tw481 rfl qs145 rfl rfl rfl rfl (l2 r1 m1 p1 q1 c2) (fun r3 m3 p3 q3 => ?_)
    refine qx_if_eq (tgt := 45) dX10_readLine_26 (by decide) (fun c4 => ?_) (fun c4 => ?_)
    · skip
      refine q_aload_n dX10_readLine_45 rfl rfl ?_
      refine q_getR (ci := 10) (k := 0) dX10_readLine_46 rfl (by decide) rfl tw234 (by decide) qs147 qw147_0 (by decide) ?_
      refine qx_invV (ci := 6) [] [(2, 145)] rfl qM_X6_failHere dX10_readLine_49 tw502 rfl qs145 rfl rfl rfl rfl (l3 r1 m1 p1 q1 c2 r3 m3 p3 q3 c4) (fun r5 m5 p5 q5 => ?_)
      exact q_vret dX10_readLine_52 (qK_i (l4 r1 m1 p1 q1 c2 r3 m3 p3 q3 c4 r5 m5 p5 q5))
    · skip
      refine q_aload_n dX10_readLine_29 rfl rfl ?_
      refine qx_getI (ci := 10) (k := 4) (v := (m3 147 4)) dX10_readLine_30 rfl rfl rfl tw238 rfl qs147 rfl ?_
      refine qx_bipush dX10_readLine_33 rfl rfl ?_
      refine qx_icmp_ge (tgt := 45) dX10_readLine_35 (by decide) (fun c6 => ?_) (fun c6 => ?_)
      · skip
        refine q_aload_n dX10_readLine_45 rfl rfl ?_
        refine q_getR (ci := 10) (k := 0) dX10_readLine_46 rfl (by decide) rfl tw234 (by decide) qs147 qw147_0 (by decide) ?_
        refine qx_invV (ci := 6) [] [(2, 145)] rfl qM_X6_failHere dX10_readLine_49 tw502 rfl qs145 rfl rfl rfl rfl (l5 r1 m1 p1 q1 c2 r3 m3 p3 q3 c4 c6) (fun r7 m7 p7 q7 => ?_)
        exact q_vret dX10_readLine_52 (qK_i (l6 r1 m1 p1 q1 c2 r3 m3 p3 q3 c4 c6 r7 m7 p7 q7))
      · skip
        refine q_aload_n dX10_readLine_38 rfl rfl ?_
        refine qx_invV (ci := 10) [] [(2, 147)] rfl qM_X10_readJar dX10_readLine_39 tw482 rfl qs147 rfl rfl rfl rfl (l7 r1 m1 p1 q1 c2 r3 m3 p3 q3 c4 c6) (fun r8 m8 p8 q8 => ?_)
        refine q_goto (tgt := 52) dX10_readLine_42 (by decide) ?_
        exact q_vret dX10_readLine_52 (qK_i (l8 r1 m1 p1 q1 c2 r3 m3 p3 q3 c4 c6 r8 m8 p8 q8))
  · skip
    refine q_aload_n dX10_readLine_12 rfl rfl ?_
    refine qx_invV (ci := 10) [] [(2, 147)] rfl qM_X10_readDebt dX10_readLine_13 tw443 rfl qs147 rfl rfl rfl rfl (l9 r1 m1 p1 q1 c2) (fun r9 m9 p9 q9 => ?_)
    refine q_goto (tgt := 52) dX10_readLine_16 (by decide) ?_
    exact q_vret dX10_readLine_52 (qK_i (l10 r1 m1 p1 q1 c2 r9 m9 p9 q9))
theorem dX10_read_0 : decode cX10_read 0 = .ok (.aload_n 0, 1) := by decide +kernel
theorem dX10_read_1 : decode cX10_read 1 = .ok (.aload_n 0, 1) := by decide +kernel
theorem dX10_read_2 : decode cX10_read 2 = .ok (.getfield 19, 3) := by decide +kernel
theorem dX10_read_5 : decode cX10_read 5 = .ok (.getfield 27, 3) := by decide +kernel
theorem dX10_read_8 : decode cX10_read 8 = .ok (.putfield 33, 3) := by decide +kernel
theorem dX10_read_11 : decode cX10_read 11 = .ok (.aload_n 0, 1) := by decide +kernel
theorem dX10_read_12 : decode cX10_read 12 = .ok (.getfield 23, 3) := by decide +kernel
theorem dX10_read_15 : decode cX10_read 15 = .ok (.getfield 36, 3) := by decide +kernel
theorem dX10_read_18 : decode cX10_read 18 = .ok (.iconst 0, 1) := by decide +kernel
theorem dX10_read_19 : decode cX10_read 19 = .ok (.aload_n 0, 1) := by decide +kernel
theorem dX10_read_20 : decode cX10_read 20 = .ok (.getfield 9, 3) := by decide +kernel
theorem dX10_read_23 : decode cX10_read 23 = .ok (.iconst 0, 1) := by decide +kernel
theorem dX10_read_24 : decode cX10_read 24 = .ok (.aload_n 0, 1) := by decide +kernel
theorem dX10_read_25 : decode cX10_read 25 = .ok (.getfield 9, 3) := by decide +kernel
theorem dX10_read_28 : decode cX10_read 28 = .ok (.arraylength, 1) := by decide +kernel
theorem dX10_read_29 : decode cX10_read 29 = .ok (.invokestatic 39, 3) := by decide +kernel
theorem dX10_read_32 : decode cX10_read 32 = .ok (.aload_n 0, 1) := by decide +kernel
theorem dX10_read_33 : decode cX10_read 33 = .ok (.getfield 15, 3) := by decide +kernel
theorem dX10_read_36 : decode cX10_read 36 = .ok (.bipush 76, 2) := by decide +kernel
theorem dX10_read_38 : decode cX10_read 38 = .ok (.invokevirtual 45, 3) := by decide +kernel
theorem dX10_read_41 : decode cX10_read 41 = .ok (.iconst 0, 1) := by decide +kernel
theorem dX10_read_42 : decode cX10_read 42 = .ok (.istore_n 1, 1) := by decide +kernel
theorem dX10_read_43 : decode cX10_read 43 = .ok (.iconst 1, 1) := by decide +kernel
theorem dX10_read_44 : decode cX10_read 44 = .ok (.istore_n 2, 1) := by decide +kernel
theorem dX10_read_45 : decode cX10_read 45 = .ok (.iload_n 2, 1) := by decide +kernel
theorem dX10_read_46 : decode cX10_read 46 = .ok (.ifCond .eq 29, 3) := by decide +kernel
theorem dX10_read_49 : decode cX10_read 49 = .ok (.iload_n 1, 1) := by decide +kernel
theorem dX10_read_50 : decode cX10_read 50 = .ok (.bipush 76, 2) := by decide +kernel
theorem dX10_read_52 : decode cX10_read 52 = .ok (.if_icmp .ge 23, 3) := by decide +kernel
theorem dX10_read_55 : decode cX10_read 55 = .ok (.aload_n 0, 1) := by decide +kernel
theorem dX10_read_56 : decode cX10_read 56 = .ok (.invokevirtual 51, 3) := by decide +kernel
theorem dX10_read_59 : decode cX10_read 59 = .ok (.iinc 1 1, 3) := by decide +kernel
theorem dX10_read_62 : decode cX10_read 62 = .ok (.aload_n 0, 1) := by decide +kernel
theorem dX10_read_63 : decode cX10_read 63 = .ok (.getfield 15, 3) := by decide +kernel
theorem dX10_read_66 : decode cX10_read 66 = .ok (.bipush 59, 2) := by decide +kernel
theorem dX10_read_68 : decode cX10_read 68 = .ok (.invokevirtual 54, 3) := by decide +kernel
theorem dX10_read_71 : decode cX10_read 71 = .ok (.istore_n 2, 1) := by decide +kernel
theorem dX10_read_72 : decode cX10_read 72 = .ok (.goto (-27), 3) := by decide +kernel
theorem dX10_read_75 : decode cX10_read 75 = .ok (.aload_n 0, 1) := by decide +kernel
theorem dX10_read_76 : decode cX10_read 76 = .ok (.getfield 15, 3) := by decide +kernel
theorem dX10_read_79 : decode cX10_read 79 = .ok (.bipush 76, 2) := by decide +kernel
theorem dX10_read_81 : decode cX10_read 81 = .ok (.invokevirtual 58, 3) := by decide +kernel
theorem dX10_read_84 : decode cX10_read 84 = .ok (.istore_n 3, 1) := by decide +kernel
theorem dX10_read_85 : decode cX10_read 85 = .ok (.iload_n 3, 1) := by decide +kernel
theorem dX10_read_86 : decode cX10_read 86 = .ok (.ifCond .ge 7, 3) := by decide +kernel
theorem dX10_read_89 : decode cX10_read 89 = .ok (.iload_n 3, 1) := by decide +kernel
theorem dX10_read_90 : decode cX10_read 90 = .ok (.goto 4, 3) := by decide +kernel
theorem dX10_read_93 : decode cX10_read 93 = .ok (.iload_n 1, 1) := by decide +kernel
theorem dX10_read_94 : decode cX10_read 94 = .ok (.ireturn, 1) := by decide +kernel
theorem bkX10_read_0 {b : Int} {mem : qm} {Q : Int → qm → Prop}
    {P1 : Int → qm → Prop}
    (l1 : q_Ev yX6_open cX6_open 2 none 1 0 0 [(2, 145), (0, 76)] (q_sh0, q_rb b, (q_cp (q_up mem 147 4 (mem 1 3)) 12 0 148 0 36)) (qK (q_rb b) (P1)))
    (l2 : ∀ (r1 : Int), ∀ (m1 : qm), P1 r1 m1 → q_in32 r1 → q_At yX10_read cX10_read 4 (some .int) 6 0 0 (qK (q_rb b) Q) 45 [(2, 147), (0, 0), (0, 1), (4, 0)] [] (q_sh0, q_rb b, m1)) :
    q_At yX10_read cX10_read 4 (some .int) 6 0 0 (qK (q_rb b) Q) 0 [(2, 147), (4, 0), (4, 0), (4, 0)] [] (q_sh0, q_rb b, mem) := by
  refine q_aload_n dX10_read_0 rfl rfl ?_
  refine q_aload_n dX10_read_1 rfl rfl ?_
  refine q_getR (ci := 10) (k := 1) dX10_read_2 rfl (by decide) rfl tw235 (by decide) qs147 qw147_1 (by decide) ?_
  refine qx_getI (ci := 9) (k := 3) (v := (mem 1 3)) dX10_read_5 rfl rfl rfl tw49 rfl qs1 rfl ?_
  refine q_putI (ci := 10) (k := 4) (kI := 4) (ty := .int) dX10_read_8 rfl (by decide) rfl tw238 rfl rfl rfl (fun _ => ⟨rfl, rfl⟩) qs147 ?_
  refine q_aload_n dX10_read_11 rfl rfl ?_
  refine q_getR (ci := 10) (k := 2) dX10_read_12 rfl (by decide) rfl tw236 (by decide) qs147 qw147_2 (by decide) ?_
  refine q_getR (ci := 7) (k := 6) dX10_read_15 rfl (by decide) rfl tw95 (by decide) qs5 qw5_6 (by decide) ?_
  refine qx_iconst dX10_read_18 rfl rfl ?_
  refine q_aload_n dX10_read_19 rfl rfl ?_
  refine q_getR (ci := 10) (k := 3) dX10_read_20 rfl (by decide) rfl tw237 (by decide) qs147 qw147_3 (by decide) ?_
  refine qx_iconst dX10_read_23 rfl rfl ?_
  refine q_aload_n dX10_read_24 rfl rfl ?_
  refine q_getR (ci := 10) (k := 3) dX10_read_25 rfl (by decide) rfl tw237 (by decide) qs147 qw147_3 (by decide) ?_
  refine q_alen0 dX10_read_28 qs148 (by decide) ?_
  refine q_copy dX10_read_29 tw421 tw423 tw422 tw14 (by decide) (Nat.le_of_ble_eq_true rfl) qs12 qs148 (by decide) (by decide) (by decide) (by decide) (by decide) ?_
  refine q_aload_n dX10_read_32 rfl rfl ?_
  refine q_getR (ci := 10) (k := 0) dX10_read_33 rfl (by decide) rfl tw234 (by decide) qs147 qw147_0 (by decide) ?_
  refine qx_bipush dX10_read_36 rfl rfl ?_
  refine qx_invV (ci := 6) [(0, 76)] [(0, 76), (2, 145)] rfl qM_X6_open dX10_read_38 tw424 rfl qs145 rfl rfl rfl rfl (l1) (fun r1 m1 p1 q1 => ?_)
  refine qx_iconst dX10_read_41 rfl rfl ?_
  refine qx_istore_n (L' := [(2, 147), (0, 0), (4, 0), (4, 0)]) dX10_read_42 rfl rfl rfl rfl ?_
  refine qx_iconst dX10_read_43 rfl rfl ?_
  refine qx_istore_n (L' := [(2, 147), (0, 0), (0, 1), (4, 0)]) dX10_read_44 rfl rfl rfl rfl ?_
  exact l2 r1 m1 p1 q1
theorem bkX10_read_45 {b : Int} {mem : qm} {Q : Int → qm → Prop}
    {v1 v2 : Int}
    {P2 : Int → qm → Prop}
    (l1 : v2 = 0 → q_Ev yX6_close cX6_close 2 (some .int) 2 0 0 [(2, 145), (0, 76)] (q_sh0, q_rb b, mem) (qK (q_rb b) (P2)))
    (l2 : v2 = 0 → ∀ (r2 : Int), ∀ (m2 : qm), P2 r2 m2 → q_in32 r2 → 0 ≤ r2 → Q v1 m2)
    (l3 : v2 = 0 → ∀ (r2 : Int), ∀ (m2 : qm), P2 r2 m2 → q_in32 r2 → r2 < 0 → Q r2 m2)
    {P5 : Int → qm → Prop}
    (l4 : v2 ≠ 0 → 76 ≤ v1 → q_Ev yX6_close cX6_close 2 (some .int) 2 0 0 [(2, 145), (0, 76)] (q_sh0, q_rb b, mem) (qK (q_rb b) (P5)))
    (l5 : v2 ≠ 0 → 76 ≤ v1 → ∀ (r5 : Int), ∀ (m5 : qm), P5 r5 m5 → q_in32 r5 → 0 ≤ r5 → Q v1 m5)
    (l6 : v2 ≠ 0 → 76 ≤ v1 → ∀ (r5 : Int), ∀ (m5 : qm), P5 r5 m5 → q_in32 r5 → r5 < 0 → Q r5 m5)
    {P7 : Int → qm → Prop}
    (l7 : v2 ≠ 0 → v1 < 76 → q_Ev yX10_readLine cX10_readLine 1 none 5 0 0 [(2, 147)] (q_sh0, q_rb b, mem) (qK (q_rb b) (P7)))
    (o8 : v2 ≠ 0 → v1 < 76 → ∀ (r7 : Int), ∀ (m7 : qm), P7 r7 m7 → q_in32 r7 → q_in32 (v1 + 1))
    {P8 : Int → qm → Int → qm → Prop}
    (l9 : v2 ≠ 0 → v1 < 76 → ∀ (r7 : Int), ∀ (m7 : qm), P7 r7 m7 → q_in32 r7 → q_Ev yX6_skip cX6_skip 2 (some .boolean) 2 0 0 [(2, 145), (0, 59)] (q_sh0, q_rb b, m7) (qK (q_rb b) (P8 r7 m7)))
    (l10 : v2 ≠ 0 → v1 < 76 → ∀ (r7 : Int), ∀ (m7 : qm), P7 r7 m7 → q_in32 r7 → ∀ (r8 : Int), ∀ (m8 : qm), P8 r7 m7 r8 m8 → q_in32 r8 → q_At yX10_read cX10_read 4 (some .int) 6 0 0 (qK (q_rb b) Q) 45 [(2, 147), (0, (v1 + 1)), (0, r8), (4, 0)] [] (q_sh0, q_rb b, m8)) :
    q_At yX10_read cX10_read 4 (some .int) 6 0 0 (qK (q_rb b) Q) 45 [(2, 147), (0, v1), (0, v2), (4, 0)] [] (q_sh0, q_rb b, mem) := by
  refine q_iload_n dX10_read_45 rfl rfl ?_
  refine qx_if_eq (tgt := 75) dX10_read_46 (by decide) (fun c1 => ?_) (fun c1 => ?_)
  · skip
    refine q_aload_n dX10_read_75 rfl rfl ?_
    refine q_getR (ci := 10) (k := 0) dX10_read_76 rfl (by decide) rfl tw234 (by decide) qs147 qw147_0 (by decide) ?_
    refine qx_bipush dX10_read_79 rfl rfl ?_
    refine qx_invV (ci := 6) [(0, 76)] [(0, 76), (2, 145)] rfl qM_X6_close dX10_read_81 tw506 rfl qs145 rfl rfl rfl rfl (l1 c1) (fun r2 m2 p2 q2 => ?_)
    refine qx_istore_n (L' := [(2, 147), (0, v1), (0, v2), (0, r2)]) dX10_read_84 rfl rfl rfl rfl ?_
    refine q_iload_n dX10_read_85 rfl rfl ?_
    refine qx_if_ge (tgt := 93) dX10_read_86 (by decide) (fun c3 => ?_) (fun c3 => ?_)
    · skip
      refine q_iload_n dX10_read_93 rfl rfl ?_
      exact q_iret dX10_read_94 (qK_i (l2 c1 r2 m2 p2 q2 c3))
    · skip
      refine q_iload_n dX10_read_89 rfl rfl ?_
      refine q_goto (tgt := 94) dX10_read_90 (by decide) ?_
      exact q_iret dX10_read_94 (qK_i (l3 c1 r2 m2 p2 q2 c3))
  · skip
    refine q_iload_n dX10_read_49 rfl rfl ?_
    refine qx_bipush dX10_read_50 rfl rfl ?_
    refine qx_icmp_ge (tgt := 75) dX10_read_52 (by decide) (fun c4 => ?_) (fun c4 => ?_)
    · skip
      refine q_aload_n dX10_read_75 rfl rfl ?_
      refine q_getR (ci := 10) (k := 0) dX10_read_76 rfl (by decide) rfl tw234 (by decide) qs147 qw147_0 (by decide) ?_
      refine qx_bipush dX10_read_79 rfl rfl ?_
      refine qx_invV (ci := 6) [(0, 76)] [(0, 76), (2, 145)] rfl qM_X6_close dX10_read_81 tw506 rfl qs145 rfl rfl rfl rfl (l4 c1 c4) (fun r5 m5 p5 q5 => ?_)
      refine qx_istore_n (L' := [(2, 147), (0, v1), (0, v2), (0, r5)]) dX10_read_84 rfl rfl rfl rfl ?_
      refine q_iload_n dX10_read_85 rfl rfl ?_
      refine qx_if_ge (tgt := 93) dX10_read_86 (by decide) (fun c6 => ?_) (fun c6 => ?_)
      · skip
        refine q_iload_n dX10_read_93 rfl rfl ?_
        exact q_iret dX10_read_94 (qK_i (l5 c1 c4 r5 m5 p5 q5 c6))
      · skip
        refine q_iload_n dX10_read_89 rfl rfl ?_
        refine q_goto (tgt := 94) dX10_read_90 (by decide) ?_
        exact q_iret dX10_read_94 (qK_i (l6 c1 c4 r5 m5 p5 q5 c6))
    · skip
      refine q_aload_n dX10_read_55 rfl rfl ?_
      refine qx_invV (ci := 10) [] [(2, 147)] rfl qM_X10_readLine dX10_read_56 tw431 rfl qs147 rfl rfl rfl rfl (l7 c1 c4) (fun r7 m7 p7 q7 => ?_)
      refine qx_iinc (L' := [(2, 147), (0, (v1 + 1)), (0, v2), (4, 0)]) dX10_read_59 rfl rfl rfl (o8 c1 c4 r7 m7 p7 q7) rfl ?_
      refine q_aload_n dX10_read_62 rfl rfl ?_
      refine q_getR (ci := 10) (k := 0) dX10_read_63 rfl (by decide) rfl tw234 (by decide) qs147 qw147_0 (by decide) ?_
      refine qx_bipush dX10_read_66 rfl rfl ?_
      refine qx_invV (ci := 6) [(0, 59)] [(0, 59), (2, 145)] rfl qM_X6_skip dX10_read_68 tw435 rfl qs145 rfl rfl rfl rfl (l9 c1 c4 r7 m7 p7 q7) (fun r8 m8 p8 q8 => ?_)
      refine qx_istore_n (L' := [(2, 147), (0, (v1 + 1)), (0, r8), (4, 0)]) dX10_read_71 rfl rfl rfl rfl ?_
      refine q_goto (tgt := 45) dX10_read_72 (by decide) ?_
      exact l10 c1 c4 r7 m7 p7 q7 r8 m8 p8 q8
theorem dX10_letIn_0 : decode cX10_letIn 0 = .ok (.aload_n 0, 1) := by decide +kernel
theorem dX10_letIn_1 : decode cX10_letIn 1 = .ok (.getfield 19, 3) := by decide +kernel
theorem dX10_letIn_4 : decode cX10_letIn 4 = .ok (.aload_n 0, 1) := by decide +kernel
theorem dX10_letIn_5 : decode cX10_letIn 5 = .ok (.getfield 33, 3) := by decide +kernel
theorem dX10_letIn_8 : decode cX10_letIn 8 = .ok (.putfield 27, 3) := by decide +kernel
theorem dX10_letIn_11 : decode cX10_letIn 11 = .ok (.aload_n 0, 1) := by decide +kernel
theorem dX10_letIn_12 : decode cX10_letIn 12 = .ok (.getfield 9, 3) := by decide +kernel
theorem dX10_letIn_15 : decode cX10_letIn 15 = .ok (.iconst 0, 1) := by decide +kernel
theorem dX10_letIn_16 : decode cX10_letIn 16 = .ok (.aload_n 0, 1) := by decide +kernel
theorem dX10_letIn_17 : decode cX10_letIn 17 = .ok (.getfield 23, 3) := by decide +kernel
theorem dX10_letIn_20 : decode cX10_letIn 20 = .ok (.getfield 36, 3) := by decide +kernel
theorem dX10_letIn_23 : decode cX10_letIn 23 = .ok (.iconst 0, 1) := by decide +kernel
theorem dX10_letIn_24 : decode cX10_letIn 24 = .ok (.aload_n 0, 1) := by decide +kernel
theorem dX10_letIn_25 : decode cX10_letIn 25 = .ok (.getfield 9, 3) := by decide +kernel
theorem dX10_letIn_28 : decode cX10_letIn 28 = .ok (.arraylength, 1) := by decide +kernel
theorem dX10_letIn_29 : decode cX10_letIn 29 = .ok (.invokestatic 39, 3) := by decide +kernel
theorem dX10_letIn_32 : decode cX10_letIn 32 = .ok (.return_, 1) := by decide +kernel
theorem bkX10_letIn_0 {b : Int} {mem : qm} {Q : Int → qm → Prop}
    (l1 : Q 0 (q_cp (q_up mem 1 3 (mem 147 4)) 148 0 12 0 36)) :
    q_At yX10_letIn cX10_letIn 1 none 1 0 0 (qK (q_rb b) Q) 0 [(2, 147)] [] (q_sh0, q_rb b, mem) := by
  refine q_aload_n dX10_letIn_0 rfl rfl ?_
  refine q_getR (ci := 10) (k := 1) dX10_letIn_1 rfl (by decide) rfl tw235 (by decide) qs147 qw147_1 (by decide) ?_
  refine q_aload_n dX10_letIn_4 rfl rfl ?_
  refine qx_getI (ci := 10) (k := 4) (v := (mem 147 4)) dX10_letIn_5 rfl rfl rfl tw238 rfl qs147 rfl ?_
  refine q_putI (ci := 9) (k := 3) (kI := 3) (ty := .int) dX10_letIn_8 rfl (by decide) rfl tw49 rfl rfl rfl (fun _ => ⟨rfl, rfl⟩) qs1 ?_
  refine q_aload_n dX10_letIn_11 rfl rfl ?_
  refine q_getR (ci := 10) (k := 3) dX10_letIn_12 rfl (by decide) rfl tw237 (by decide) qs147 qw147_3 (by decide) ?_
  refine qx_iconst dX10_letIn_15 rfl rfl ?_
  refine q_aload_n dX10_letIn_16 rfl rfl ?_
  refine q_getR (ci := 10) (k := 2) dX10_letIn_17 rfl (by decide) rfl tw236 (by decide) qs147 qw147_2 (by decide) ?_
  refine q_getR (ci := 7) (k := 6) dX10_letIn_20 rfl (by decide) rfl tw95 (by decide) qs5 qw5_6 (by decide) ?_
  refine qx_iconst dX10_letIn_23 rfl rfl ?_
  refine q_aload_n dX10_letIn_24 rfl rfl ?_
  refine q_getR (ci := 10) (k := 3) dX10_letIn_25 rfl (by decide) rfl tw237 (by decide) qs147 qw147_3 (by decide) ?_
  refine q_alen0 dX10_letIn_28 qs148 (by decide) ?_
  refine q_copy dX10_letIn_29 tw421 tw423 tw422 tw14 (by decide) (Nat.le_of_ble_eq_true rfl) qs148 qs12 (by decide) (by decide) (by decide) (by decide) (by decide) ?_
  exact q_vret dX10_letIn_32 (qK_i (l1))
theorem dX11_town_0 : decode cX11_town 0 = .ok (.aload_n 0, 1) := by decide +kernel
theorem dX11_town_1 : decode cX11_town 1 = .ok (.getfield 60, 3) := by decide +kernel
theorem dX11_town_4 : decode cX11_town 4 = .ok (.getfield 107, 3) := by decide +kernel
theorem dX11_town_7 : decode cX11_town 7 = .ok (.ifCond .ne 7, 3) := by decide +kernel
theorem dX11_town_10 : decode cX11_town 10 = .ok (.iconst 1, 1) := by decide +kernel
theorem dX11_town_11 : decode cX11_town 11 = .ok (.goto 4, 3) := by decide +kernel
theorem dX11_town_14 : decode cX11_town 14 = .ok (.iconst 0, 1) := by decide +kernel
theorem dX11_town_15 : decode cX11_town 15 = .ok (.istore_n 1, 1) := by decide +kernel
theorem dX11_town_16 : decode cX11_town 16 = .ok (.iload_n 1, 1) := by decide +kernel
theorem dX11_town_17 : decode cX11_town 17 = .ok (.ifCond .eq 7, 3) := by decide +kernel
theorem dX11_town_20 : decode cX11_town 20 = .ok (.iconst 0, 1) := by decide +kernel
theorem dX11_town_21 : decode cX11_town 21 = .ok (.goto 10, 3) := by decide +kernel
theorem dX11_town_24 : decode cX11_town 24 = .ok (.aload_n 0, 1) := by decide +kernel
theorem dX11_town_25 : decode cX11_town 25 = .ok (.getfield 69, 3) := by decide +kernel
theorem dX11_town_28 : decode cX11_town 28 = .ok (.invokevirtual 115, 3) := by decide +kernel
theorem dX11_town_31 : decode cX11_town 31 = .ok (.istore_n 2, 1) := by decide +kernel
theorem dX11_town_32 : decode cX11_town 32 = .ok (.aload_n 0, 1) := by decide +kernel
theorem dX11_town_33 : decode cX11_town 33 = .ok (.getfield 60, 3) := by decide +kernel
theorem dX11_town_36 : decode cX11_town 36 = .ok (.iconst 0, 1) := by decide +kernel
theorem dX11_town_37 : decode cX11_town 37 = .ok (.putfield 107, 3) := by decide +kernel
theorem dX11_town_40 : decode cX11_town 40 = .ok (.iload_n 1, 1) := by decide +kernel
theorem dX11_town_41 : decode cX11_town 41 = .ok (.ifCond .ne 22, 3) := by decide +kernel
theorem dX11_town_44 : decode cX11_town 44 = .ok (.iload_n 2, 1) := by decide +kernel
theorem dX11_town_45 : decode cX11_town 45 = .ok (.ifCond .lt 18, 3) := by decide +kernel
theorem dX11_town_48 : decode cX11_town 48 = .ok (.aload_n 0, 1) := by decide +kernel
theorem dX11_town_49 : decode cX11_town 49 = .ok (.getfield 69, 3) := by decide +kernel
theorem dX11_town_52 : decode cX11_town 52 = .ok (.invokevirtual 119, 3) := by decide +kernel
theorem dX11_town_55 : decode cX11_town 55 = .ok (.aload_n 0, 1) := by decide +kernel
theorem dX11_town_56 : decode cX11_town 56 = .ok (.getfield 45, 3) := by decide +kernel
theorem dX11_town_59 : decode cX11_town 59 = .ok (.iconst 0, 1) := by decide +kernel
theorem dX11_town_60 : decode cX11_town 60 = .ok (.putfield 122, 3) := by decide +kernel
theorem dX11_town_63 : decode cX11_town 63 = .ok (.iload_n 2, 1) := by decide +kernel
theorem dX11_town_64 : decode cX11_town 64 = .ok (.ireturn, 1) := by decide +kernel
theorem bkX11_town_0 {b : Int} {mem : qm} {Q : Int → qm → Prop}
    {P2 : Int → qm → Prop}
    (l1 : (mem 145 1) ≠ 0 → q_Ev yX10_read cX10_read 4 (some .int) 6 0 0 [(2, 147)] (q_sh0, q_rb b, mem) (qK (q_rb b) (P2)))
    (l2 : (mem 145 1) ≠ 0 → ∀ (r2 : Int), ∀ (m2 : qm), P2 r2 m2 → q_in32 r2 → r2 < 0 → Q r2 (q_up m2 145 1 0))
    {P4 : Int → qm → Int → qm → Prop}
    (l3 : (mem 145 1) ≠ 0 → ∀ (r2 : Int), ∀ (m2 : qm), P2 r2 m2 → q_in32 r2 → 0 ≤ r2 → q_Ev yX10_letIn cX10_letIn 1 none 1 0 0 [(2, 147)] (q_sh0, q_rb b, (q_up m2 145 1 0)) (qK (q_rb b) (P4 r2 m2)))
    (l4 : (mem 145 1) ≠ 0 → ∀ (r2 : Int), ∀ (m2 : qm), P2 r2 m2 → q_in32 r2 → 0 ≤ r2 → ∀ (r4 : Int), ∀ (m4 : qm), P4 r2 m2 r4 m4 → q_in32 r4 → Q r2 (q_up m4 33 2 0))
    (l5 : (mem 145 1) = 0 → Q 0 (q_up mem 145 1 0)) :
    q_At yX11_town cX11_town 3 (some .int) 7 0 0 (qK (q_rb b) Q) 0 [(2, 0), (4, 0), (4, 0)] [] (q_sh0, q_rb b, mem) := by
  refine q_aload_n dX11_town_0 rfl rfl ?_
  refine q_getR (ci := 11) (k := 8) dX11_town_1 rfl (by decide) rfl tw357 (by decide) qs0 qw0_8 (by decide) ?_
  refine qx_getI (ci := 6) (k := 1) (v := (mem 145 1)) dX11_town_4 rfl rfl rfl tw211 rfl qs145 rfl ?_
  refine qx_if_ne (tgt := 14) dX11_town_7 (by decide) (fun c1 => ?_) (fun c1 => ?_)
  · skip
    refine qx_iconst dX11_town_14 rfl rfl ?_
    refine qx_istore_n (L' := [(2, 0), (0, 0), (4, 0)]) dX11_town_15 rfl rfl rfl rfl ?_
    refine q_iload_n dX11_town_16 rfl rfl ?_
    refine qx_if_eq (tgt := 24) dX11_town_17 (by decide) (fun _ => ?_) (fun z => absurd z (by decide))
    refine q_aload_n dX11_town_24 rfl rfl ?_
    refine q_getR (ci := 11) (k := 9) dX11_town_25 rfl (by decide) rfl tw358 (by decide) qs0 qw0_9 (by decide) ?_
    refine qx_invV (ci := 10) [] [(2, 147)] rfl qM_X10_read dX11_town_28 tw417 rfl qs147 rfl rfl rfl rfl (l1 c1) (fun r2 m2 p2 q2 => ?_)
    refine qx_istore_n (L' := [(2, 0), (0, 0), (0, r2)]) dX11_town_31 rfl rfl rfl rfl ?_
    refine q_aload_n dX11_town_32 rfl rfl ?_
    refine q_getR (ci := 11) (k := 8) dX11_town_33 rfl (by decide) rfl tw357 (by decide) qs0 qw0_8 (by decide) ?_
    refine qx_iconst dX11_town_36 rfl rfl ?_
    refine q_putI (ci := 6) (k := 1) (kI := 1) (ty := .int) dX11_town_37 rfl (by decide) rfl tw211 rfl rfl rfl (fun _ => ⟨rfl, rfl⟩) qs145 ?_
    refine q_iload_n dX11_town_40 rfl rfl ?_
    refine qx_if_ne (tgt := 63) dX11_town_41 (by decide) (fun z => absurd z (by decide)) (fun _ => ?_)
    refine q_iload_n dX11_town_44 rfl rfl ?_
    refine qx_if_lt (tgt := 63) dX11_town_45 (by decide) (fun c3 => ?_) (fun c3 => ?_)
    · skip
      refine q_iload_n dX11_town_63 rfl rfl ?_
      exact q_iret dX11_town_64 (qK_i (l2 c1 r2 m2 p2 q2 c3))
    · skip
      refine q_aload_n dX11_town_48 rfl rfl ?_
      refine q_getR (ci := 11) (k := 9) dX11_town_49 rfl (by decide) rfl tw358 (by decide) qs0 qw0_9 (by decide) ?_
      refine qx_invV (ci := 10) [] [(2, 147)] rfl qM_X10_letIn dX11_town_52 tw510 rfl qs147 rfl rfl rfl rfl (l3 c1 r2 m2 p2 q2 c3) (fun r4 m4 p4 q4 => ?_)
      refine q_aload_n dX11_town_55 rfl rfl ?_
      refine q_getR (ci := 11) (k := 5) dX11_town_56 rfl (by decide) rfl tw354 (by decide) qs0 qw0_5 (by decide) ?_
      refine qx_iconst dX11_town_59 rfl rfl ?_
      refine q_putI (ci := 3) (k := 2) (kI := 2) (ty := .int) dX11_town_60 rfl (by decide) rfl tw195 rfl rfl rfl (fun _ => ⟨rfl, rfl⟩) qs33 ?_
      refine q_iload_n dX11_town_63 rfl rfl ?_
      exact q_iret dX11_town_64 (qK_i (l4 c1 r2 m2 p2 q2 c3 r4 m4 p4 q4))
  · skip
    refine qx_iconst dX11_town_10 rfl rfl ?_
    refine q_goto (tgt := 15) dX11_town_11 (by decide) ?_
    refine qx_istore_n (L' := [(2, 0), (0, 1), (4, 0)]) dX11_town_15 rfl rfl rfl rfl ?_
    refine q_iload_n dX11_town_16 rfl rfl ?_
    refine qx_if_eq (tgt := 24) dX11_town_17 (by decide) (fun z => absurd z (by decide)) (fun _ => ?_)
    refine qx_iconst dX11_town_20 rfl rfl ?_
    refine q_goto (tgt := 31) dX11_town_21 (by decide) ?_
    refine qx_istore_n (L' := [(2, 0), (0, 1), (0, 0)]) dX11_town_31 rfl rfl rfl rfl ?_
    refine q_aload_n dX11_town_32 rfl rfl ?_
    refine q_getR (ci := 11) (k := 8) dX11_town_33 rfl (by decide) rfl tw357 (by decide) qs0 qw0_8 (by decide) ?_
    refine qx_iconst dX11_town_36 rfl rfl ?_
    refine q_putI (ci := 6) (k := 1) (kI := 1) (ty := .int) dX11_town_37 rfl (by decide) rfl tw211 rfl rfl rfl (fun _ => ⟨rfl, rfl⟩) qs145 ?_
    refine q_iload_n dX11_town_40 rfl rfl ?_
    refine qx_if_ne (tgt := 63) dX11_town_41 (by decide) (fun _ => ?_) (fun z => absurd z (by decide))
    refine q_iload_n dX11_town_63 rfl rfl ?_
    exact q_iret dX11_town_64 (qK_i (l5 c1))
theorem dX12_readJar_0 : decode cX12_readJar 0 = .ok (.aload_n 0, 1) := by decide +kernel
theorem dX12_readJar_1 : decode cX12_readJar 1 = .ok (.getfield 9, 3) := by decide +kernel
theorem dX12_readJar_4 : decode cX12_readJar 4 = .ok (.iload_n 1, 1) := by decide +kernel
theorem dX12_readJar_5 : decode cX12_readJar 5 = .ok (.aload_n 0, 1) := by decide +kernel
theorem dX12_readJar_6 : decode cX12_readJar 6 = .ok (.iconst 2, 1) := by decide +kernel
theorem dX12_readJar_7 : decode cX12_readJar 7 = .ok (.iconst 1, 1) := by decide +kernel
theorem dX12_readJar_8 : decode cX12_readJar 8 = .ok (.bipush 60, 2) := by decide +kernel
theorem dX12_readJar_10 : decode cX12_readJar 10 = .ok (.invokevirtual 183, 3) := by decide +kernel
theorem dX12_readJar_13 : decode cX12_readJar 13 = .ok (.iastore, 1) := by decide +kernel
theorem dX12_readJar_14 : decode cX12_readJar 14 = .ok (.aload_n 0, 1) := by decide +kernel
theorem dX12_readJar_15 : decode cX12_readJar 15 = .ok (.bipush 47, 2) := by decide +kernel
theorem dX12_readJar_17 : decode cX12_readJar 17 = .ok (.invokevirtual 187, 3) := by decide +kernel
theorem dX12_readJar_20 : decode cX12_readJar 20 = .ok (.aload_n 0, 1) := by decide +kernel
theorem dX12_readJar_21 : decode cX12_readJar 21 = .ok (.getfield 13, 3) := by decide +kernel
theorem dX12_readJar_24 : decode cX12_readJar 24 = .ok (.iload_n 1, 1) := by decide +kernel
theorem dX12_readJar_25 : decode cX12_readJar 25 = .ok (.aload_n 0, 1) := by decide +kernel
theorem dX12_readJar_26 : decode cX12_readJar 26 = .ok (.iconst 2, 1) := by decide +kernel
theorem dX12_readJar_27 : decode cX12_readJar 27 = .ok (.iconst 0, 1) := by decide +kernel
theorem dX12_readJar_28 : decode cX12_readJar 28 = .ok (.aload_n 0, 1) := by decide +kernel
theorem dX12_readJar_29 : decode cX12_readJar 29 = .ok (.getfield 9, 3) := by decide +kernel
theorem dX12_readJar_32 : decode cX12_readJar 32 = .ok (.iload_n 1, 1) := by decide +kernel
theorem dX12_readJar_33 : decode cX12_readJar 33 = .ok (.iaload, 1) := by decide +kernel
theorem dX12_readJar_34 : decode cX12_readJar 34 = .ok (.invokevirtual 183, 3) := by decide +kernel
theorem dX12_readJar_37 : decode cX12_readJar 37 = .ok (.iastore, 1) := by decide +kernel
theorem dX12_readJar_38 : decode cX12_readJar 38 = .ok (.aload_n 0, 1) := by decide +kernel
theorem dX12_readJar_39 : decode cX12_readJar 39 = .ok (.bipush 44, 2) := by decide +kernel
theorem dX12_readJar_41 : decode cX12_readJar 41 = .ok (.invokevirtual 187, 3) := by decide +kernel
theorem dX12_readJar_44 : decode cX12_readJar 44 = .ok (.aload_n 0, 1) := by decide +kernel
theorem dX12_readJar_45 : decode cX12_readJar 45 = .ok (.getfield 16, 3) := by decide +kernel
theorem dX12_readJar_48 : decode cX12_readJar 48 = .ok (.iload_n 1, 1) := by decide +kernel
theorem dX12_readJar_49 : decode cX12_readJar 49 = .ok (.aload_n 0, 1) := by decide +kernel
theorem dX12_readJar_50 : decode cX12_readJar 50 = .ok (.iconst 1, 1) := by decide +kernel
theorem dX12_readJar_51 : decode cX12_readJar 51 = .ok (.iconst 0, 1) := by decide +kernel
theorem dX12_readJar_52 : decode cX12_readJar 52 = .ok (.bipush 9, 2) := by decide +kernel
theorem dX12_readJar_54 : decode cX12_readJar 54 = .ok (.invokevirtual 183, 3) := by decide +kernel
theorem dX12_readJar_57 : decode cX12_readJar 57 = .ok (.iastore, 1) := by decide +kernel
theorem dX12_readJar_58 : decode cX12_readJar 58 = .ok (.aload_n 0, 1) := by decide +kernel
theorem dX12_readJar_59 : decode cX12_readJar 59 = .ok (.bipush 44, 2) := by decide +kernel
theorem dX12_readJar_61 : decode cX12_readJar 61 = .ok (.invokevirtual 187, 3) := by decide +kernel
theorem dX12_readJar_64 : decode cX12_readJar 64 = .ok (.aload_n 0, 1) := by decide +kernel
theorem dX12_readJar_65 : decode cX12_readJar 65 = .ok (.getfield 19, 3) := by decide +kernel
theorem dX12_readJar_68 : decode cX12_readJar 68 = .ok (.iload_n 1, 1) := by decide +kernel
theorem dX12_readJar_69 : decode cX12_readJar 69 = .ok (.aload_n 0, 1) := by decide +kernel
theorem dX12_readJar_70 : decode cX12_readJar 70 = .ok (.iconst 1, 1) := by decide +kernel
theorem dX12_readJar_71 : decode cX12_readJar 71 = .ok (.iconst 0, 1) := by decide +kernel
theorem dX12_readJar_72 : decode cX12_readJar 72 = .ok (.iconst 5, 1) := by decide +kernel
theorem dX12_readJar_73 : decode cX12_readJar 73 = .ok (.invokevirtual 183, 3) := by decide +kernel
theorem dX12_readJar_76 : decode cX12_readJar 76 = .ok (.iastore, 1) := by decide +kernel
theorem dX12_readJar_77 : decode cX12_readJar 77 = .ok (.aload_n 0, 1) := by decide +kernel
theorem dX12_readJar_78 : decode cX12_readJar 78 = .ok (.bipush 44, 2) := by decide +kernel
theorem dX12_readJar_80 : decode cX12_readJar 80 = .ok (.invokevirtual 187, 3) := by decide +kernel
theorem dX12_readJar_83 : decode cX12_readJar 83 = .ok (.aload_n 0, 1) := by decide +kernel
theorem dX12_readJar_84 : decode cX12_readJar 84 = .ok (.getfield 22, 3) := by decide +kernel
theorem dX12_readJar_87 : decode cX12_readJar 87 = .ok (.iload_n 1, 1) := by decide +kernel
theorem dX12_readJar_88 : decode cX12_readJar 88 = .ok (.aload_n 0, 1) := by decide +kernel
theorem dX12_readJar_89 : decode cX12_readJar 89 = .ok (.iconst 1, 1) := by decide +kernel
theorem dX12_readJar_90 : decode cX12_readJar 90 = .ok (.iconst 0, 1) := by decide +kernel
theorem dX12_readJar_91 : decode cX12_readJar 91 = .ok (.bipush 9, 2) := by decide +kernel
theorem dX12_readJar_93 : decode cX12_readJar 93 = .ok (.invokevirtual 183, 3) := by decide +kernel
theorem dX12_readJar_96 : decode cX12_readJar 96 = .ok (.iastore, 1) := by decide +kernel
theorem dX12_readJar_97 : decode cX12_readJar 97 = .ok (.aload_n 0, 1) := by decide +kernel
theorem dX12_readJar_98 : decode cX12_readJar 98 = .ok (.getfield 25, 3) := by decide +kernel
theorem dX12_readJar_101 : decode cX12_readJar 101 = .ok (.iload_n 1, 1) := by decide +kernel
theorem dX12_readJar_102 : decode cX12_readJar 102 = .ok (.iconst (-1), 1) := by decide +kernel
theorem dX12_readJar_103 : decode cX12_readJar 103 = .ok (.iastore, 1) := by decide +kernel
theorem dX12_readJar_104 : decode cX12_readJar 104 = .ok (.aload_n 0, 1) := by decide +kernel
theorem dX12_readJar_105 : decode cX12_readJar 105 = .ok (.bipush 62, 2) := by decide +kernel
theorem dX12_readJar_107 : decode cX12_readJar 107 = .ok (.invokevirtual 171, 3) := by decide +kernel
theorem dX12_readJar_110 : decode cX12_readJar 110 = .ok (.ifCond .ne 4, 3) := by decide +kernel
theorem dX12_readJar_113 : decode cX12_readJar 113 = .ok (.return_, 1) := by decide +kernel
theorem dX12_readJar_114 : decode cX12_readJar 114 = .ok (.aload_n 0, 1) := by decide +kernel
theorem dX12_readJar_115 : decode cX12_readJar 115 = .ok (.iconst 1, 1) := by decide +kernel
theorem dX12_readJar_116 : decode cX12_readJar 116 = .ok (.iconst 0, 1) := by decide +kernel
theorem dX12_readJar_117 : decode cX12_readJar 117 = .ok (.bipush 9, 2) := by decide +kernel
theorem dX12_readJar_119 : decode cX12_readJar 119 = .ok (.invokevirtual 183, 3) := by decide +kernel
theorem dX12_readJar_122 : decode cX12_readJar 122 = .ok (.istore_n 2, 1) := by decide +kernel
theorem dX12_readJar_123 : decode cX12_readJar 123 = .ok (.aload_n 0, 1) := by decide +kernel
theorem dX12_readJar_124 : decode cX12_readJar 124 = .ok (.invokevirtual 163, 3) := by decide +kernel
theorem dX12_readJar_127 : decode cX12_readJar 127 = .ok (.ifCond .eq 33, 3) := by decide +kernel
theorem dX12_readJar_130 : decode cX12_readJar 130 = .ok (.iload_n 2, 1) := by decide +kernel
theorem dX12_readJar_131 : decode cX12_readJar 131 = .ok (.iload_n 1, 1) := by decide +kernel
theorem dX12_readJar_132 : decode cX12_readJar 132 = .ok (.if_icmp .ge 18, 3) := by decide +kernel
theorem dX12_readJar_135 : decode cX12_readJar 135 = .ok (.aload_n 0, 1) := by decide +kernel
theorem dX12_readJar_136 : decode cX12_readJar 136 = .ok (.getfield 22, 3) := by decide +kernel
theorem dX12_readJar_139 : decode cX12_readJar 139 = .ok (.iload_n 2, 1) := by decide +kernel
theorem dX12_readJar_140 : decode cX12_readJar 140 = .ok (.iaload, 1) := by decide +kernel
theorem dX12_readJar_141 : decode cX12_readJar 141 = .ok (.aload_n 0, 1) := by decide +kernel
theorem dX12_readJar_142 : decode cX12_readJar 142 = .ok (.getfield 22, 3) := by decide +kernel
theorem dX12_readJar_145 : decode cX12_readJar 145 = .ok (.iload_n 1, 1) := by decide +kernel
theorem dX12_readJar_146 : decode cX12_readJar 146 = .ok (.iaload, 1) := by decide +kernel
theorem dX12_readJar_147 : decode cX12_readJar 147 = .ok (.if_icmp .lt 13, 3) := by decide +kernel
theorem dX12_readJar_150 : decode cX12_readJar 150 = .ok (.aload_n 0, 1) := by decide +kernel
theorem dX12_readJar_151 : decode cX12_readJar 151 = .ok (.aload_n 0, 1) := by decide +kernel
theorem dX12_readJar_152 : decode cX12_readJar 152 = .ok (.getfield 157, 3) := by decide +kernel
theorem dX12_readJar_155 : decode cX12_readJar 155 = .ok (.iconst 1, 1) := by decide +kernel
theorem dX12_readJar_156 : decode cX12_readJar 156 = .ok (.isub, 1) := by decide +kernel
theorem dX12_readJar_157 : decode cX12_readJar 157 = .ok (.invokevirtual 175, 3) := by decide +kernel
theorem dX12_readJar_160 : decode cX12_readJar 160 = .ok (.aload_n 0, 1) := by decide +kernel
theorem dX12_readJar_161 : decode cX12_readJar 161 = .ok (.getfield 25, 3) := by decide +kernel
theorem dX12_readJar_164 : decode cX12_readJar 164 = .ok (.iload_n 1, 1) := by decide +kernel
theorem dX12_readJar_165 : decode cX12_readJar 165 = .ok (.iload_n 2, 1) := by decide +kernel
theorem dX12_readJar_166 : decode cX12_readJar 166 = .ok (.iastore, 1) := by decide +kernel
theorem dX12_readJar_167 : decode cX12_readJar 167 = .ok (.return_, 1) := by decide +kernel
theorem bkX12_readJar_0 {b : Int} {mem : qm} {Q : Int → qm → Prop}
    {j : Int}
    {P1 : Int → qm → Prop}
    (l1 : q_Ev yX12_number cX12_number 6 (some .int) 3 0 0 [(2, 188), (0, 2), (0, 1), (0, 60)] (q_sh0, q_rb b, mem) (qK (q_rb b) (P1)))
    (o2 : ∀ (r1 : Int), ∀ (m1 : qm), P1 r1 m1 → q_in32 r1 → (0 ≤ j ∧ j < 9))
    {P2 : Int → qm → Int → qm → Prop}
    (l3 : ∀ (r1 : Int), ∀ (m1 : qm), P1 r1 m1 → q_in32 r1 → q_Ev yX12_need cX12_need 2 none 3 0 0 [(2, 188), (0, 47)] (q_sh0, q_rb b, (q_up m1 189 j r1)) (qK (q_rb b) (P2 r1 m1)))
    {P3 : Int → qm → Int → qm → Int → qm → Prop}
    (l4 : ∀ (r1 : Int), ∀ (m1 : qm), P1 r1 m1 → q_in32 r1 → ∀ (r2 : Int), ∀ (m2 : qm), P2 r1 m1 r2 m2 → q_in32 r2 → q_Ev yX12_number cX12_number 6 (some .int) 3 0 0 [(2, 188), (0, 2), (0, 0), (0, (m2 189 j))] (q_sh0, q_rb b, m2) (qK (q_rb b) (P3 r1 m1 r2 m2)))
    {P4 : Int → qm → Int → qm → Int → qm → Int → qm → Prop}
    (l5 : ∀ (r1 : Int), ∀ (m1 : qm), P1 r1 m1 → q_in32 r1 → ∀ (r2 : Int), ∀ (m2 : qm), P2 r1 m1 r2 m2 → q_in32 r2 → ∀ (r3 : Int), ∀ (m3 : qm), P3 r1 m1 r2 m2 r3 m3 → q_in32 r3 → q_Ev yX12_need cX12_need 2 none 3 0 0 [(2, 188), (0, 44)] (q_sh0, q_rb b, (q_up m3 190 j r3)) (qK (q_rb b) (P4 r1 m1 r2 m2 r3 m3)))
    {P5 : Int → qm → Int → qm → Int → qm → Int → qm → Int → qm → Prop}
    (l6 : ∀ (r1 : Int), ∀ (m1 : qm), P1 r1 m1 → q_in32 r1 → ∀ (r2 : Int), ∀ (m2 : qm), P2 r1 m1 r2 m2 → q_in32 r2 → ∀ (r3 : Int), ∀ (m3 : qm), P3 r1 m1 r2 m2 r3 m3 → q_in32 r3 → ∀ (r4 : Int), ∀ (m4 : qm), P4 r1 m1 r2 m2 r3 m3 r4 m4 → q_in32 r4 → q_Ev yX12_number cX12_number 6 (some .int) 3 0 0 [(2, 188), (0, 1), (0, 0), (0, 9)] (q_sh0, q_rb b, m4) (qK (q_rb b) (P5 r1 m1 r2 m2 r3 m3 r4 m4)))
    {P6 : Int → qm → Int → qm → Int → qm → Int → qm → Int → qm → Int → qm → Prop}
    (l7 : ∀ (r1 : Int), ∀ (m1 : qm), P1 r1 m1 → q_in32 r1 → ∀ (r2 : Int), ∀ (m2 : qm), P2 r1 m1 r2 m2 → q_in32 r2 → ∀ (r3 : Int), ∀ (m3 : qm), P3 r1 m1 r2 m2 r3 m3 → q_in32 r3 → ∀ (r4 : Int), ∀ (m4 : qm), P4 r1 m1 r2 m2 r3 m3 r4 m4 → q_in32 r4 → ∀ (r5 : Int), ∀ (m5 : qm), P5 r1 m1 r2 m2 r3 m3 r4 m4 r5 m5 → q_in32 r5 → q_Ev yX12_need cX12_need 2 none 3 0 0 [(2, 188), (0, 44)] (q_sh0, q_rb b, (q_up m5 191 j r5)) (qK (q_rb b) (P6 r1 m1 r2 m2 r3 m3 r4 m4 r5 m5)))
    {P7 : Int → qm → Int → qm → Int → qm → Int → qm → Int → qm → Int → qm → Int → qm → Prop}
    (l8 : ∀ (r1 : Int), ∀ (m1 : qm), P1 r1 m1 → q_in32 r1 → ∀ (r2 : Int), ∀ (m2 : qm), P2 r1 m1 r2 m2 → q_in32 r2 → ∀ (r3 : Int), ∀ (m3 : qm), P3 r1 m1 r2 m2 r3 m3 → q_in32 r3 → ∀ (r4 : Int), ∀ (m4 : qm), P4 r1 m1 r2 m2 r3 m3 r4 m4 → q_in32 r4 → ∀ (r5 : Int), ∀ (m5 : qm), P5 r1 m1 r2 m2 r3 m3 r4 m4 r5 m5 → q_in32 r5 → ∀ (r6 : Int), ∀ (m6 : qm), P6 r1 m1 r2 m2 r3 m3 r4 m4 r5 m5 r6 m6 → q_in32 r6 → q_Ev yX12_number cX12_number 6 (some .int) 3 0 0 [(2, 188), (0, 1), (0, 0), (0, 5)] (q_sh0, q_rb b, m6) (qK (q_rb b) (P7 r1 m1 r2 m2 r3 m3 r4 m4 r5 m5 r6 m6)))
    {P8 : Int → qm → Int → qm → Int → qm → Int → qm → Int → qm → Int → qm → Int → qm → Int → qm → Prop}
    (l9 : ∀ (r1 : Int), ∀ (m1 : qm), P1 r1 m1 → q_in32 r1 → ∀ (r2 : Int), ∀ (m2 : qm), P2 r1 m1 r2 m2 → q_in32 r2 → ∀ (r3 : Int), ∀ (m3 : qm), P3 r1 m1 r2 m2 r3 m3 → q_in32 r3 → ∀ (r4 : Int), ∀ (m4 : qm), P4 r1 m1 r2 m2 r3 m3 r4 m4 → q_in32 r4 → ∀ (r5 : Int), ∀ (m5 : qm), P5 r1 m1 r2 m2 r3 m3 r4 m4 r5 m5 → q_in32 r5 → ∀ (r6 : Int), ∀ (m6 : qm), P6 r1 m1 r2 m2 r3 m3 r4 m4 r5 m5 r6 m6 → q_in32 r6 → ∀ (r7 : Int), ∀ (m7 : qm), P7 r1 m1 r2 m2 r3 m3 r4 m4 r5 m5 r6 m6 r7 m7 → q_in32 r7 → q_Ev yX12_need cX12_need 2 none 3 0 0 [(2, 188), (0, 44)] (q_sh0, q_rb b, (q_up m7 192 j r7)) (qK (q_rb b) (P8 r1 m1 r2 m2 r3 m3 r4 m4 r5 m5 r6 m6 r7 m7)))
    {P9 : Int → qm → Int → qm → Int → qm → Int → qm → Int → qm → Int → qm → Int → qm → Int → qm → Int → qm → Prop}
    (l10 : ∀ (r1 : Int), ∀ (m1 : qm), P1 r1 m1 → q_in32 r1 → ∀ (r2 : Int), ∀ (m2 : qm), P2 r1 m1 r2 m2 → q_in32 r2 → ∀ (r3 : Int), ∀ (m3 : qm), P3 r1 m1 r2 m2 r3 m3 → q_in32 r3 → ∀ (r4 : Int), ∀ (m4 : qm), P4 r1 m1 r2 m2 r3 m3 r4 m4 → q_in32 r4 → ∀ (r5 : Int), ∀ (m5 : qm), P5 r1 m1 r2 m2 r3 m3 r4 m4 r5 m5 → q_in32 r5 → ∀ (r6 : Int), ∀ (m6 : qm), P6 r1 m1 r2 m2 r3 m3 r4 m4 r5 m5 r6 m6 → q_in32 r6 → ∀ (r7 : Int), ∀ (m7 : qm), P7 r1 m1 r2 m2 r3 m3 r4 m4 r5 m5 r6 m6 r7 m7 → q_in32 r7 → ∀ (r8 : Int), ∀ (m8 : qm), P8 r1 m1 r2 m2 r3 m3 r4 m4 r5 m5 r6 m6 r7 m7 r8 m8 → q_in32 r8 → q_Ev yX12_number cX12_number 6 (some .int) 3 0 0 [(2, 188), (0, 1), (0, 0), (0, 9)] (q_sh0, q_rb b, m8) (qK (q_rb b) (P9 r1 m1 r2 m2 r3 m3 r4 m4 r5 m5 r6 m6 r7 m7 r8 m8)))
    {P10 : Int → qm → Int → qm → Int → qm → Int → qm → Int → qm → Int → qm → Int → qm → Int → qm → Int → qm → Int → qm → Prop}
    (l11 : ∀ (r1 : Int), ∀ (m1 : qm), P1 r1 m1 → q_in32 r1 → ∀ (r2 : Int), ∀ (m2 : qm), P2 r1 m1 r2 m2 → q_in32 r2 → ∀ (r3 : Int), ∀ (m3 : qm), P3 r1 m1 r2 m2 r3 m3 → q_in32 r3 → ∀ (r4 : Int), ∀ (m4 : qm), P4 r1 m1 r2 m2 r3 m3 r4 m4 → q_in32 r4 → ∀ (r5 : Int), ∀ (m5 : qm), P5 r1 m1 r2 m2 r3 m3 r4 m4 r5 m5 → q_in32 r5 → ∀ (r6 : Int), ∀ (m6 : qm), P6 r1 m1 r2 m2 r3 m3 r4 m4 r5 m5 r6 m6 → q_in32 r6 → ∀ (r7 : Int), ∀ (m7 : qm), P7 r1 m1 r2 m2 r3 m3 r4 m4 r5 m5 r6 m6 r7 m7 → q_in32 r7 → ∀ (r8 : Int), ∀ (m8 : qm), P8 r1 m1 r2 m2 r3 m3 r4 m4 r5 m5 r6 m6 r7 m7 r8 m8 → q_in32 r8 → ∀ (r9 : Int), ∀ (m9 : qm), P9 r1 m1 r2 m2 r3 m3 r4 m4 r5 m5 r6 m6 r7 m7 r8 m8 r9 m9 → q_in32 r9 → q_Ev yX12_passes cX12_passes 2 (some .boolean) 2 0 0 [(2, 188), (0, 62)] (q_sh0, q_rb b, (q_up (q_up m9 193 j r9) 194 j (-1))) (qK (q_rb b) (P10 r1 m1 r2 m2 r3 m3 r4 m4 r5 m5 r6 m6 r7 m7 r8 m8 r9 m9)))
    {P12 : Int → qm → Int → qm → Int → qm → Int → qm → Int → qm → Int → qm → Int → qm → Int → qm → Int → qm → Int → qm → Int → qm → Prop}
    (l12 : ∀ (r1 : Int), ∀ (m1 : qm), P1 r1 m1 → q_in32 r1 → ∀ (r2 : Int), ∀ (m2 : qm), P2 r1 m1 r2 m2 → q_in32 r2 → ∀ (r3 : Int), ∀ (m3 : qm), P3 r1 m1 r2 m2 r3 m3 → q_in32 r3 → ∀ (r4 : Int), ∀ (m4 : qm), P4 r1 m1 r2 m2 r3 m3 r4 m4 → q_in32 r4 → ∀ (r5 : Int), ∀ (m5 : qm), P5 r1 m1 r2 m2 r3 m3 r4 m4 r5 m5 → q_in32 r5 → ∀ (r6 : Int), ∀ (m6 : qm), P6 r1 m1 r2 m2 r3 m3 r4 m4 r5 m5 r6 m6 → q_in32 r6 → ∀ (r7 : Int), ∀ (m7 : qm), P7 r1 m1 r2 m2 r3 m3 r4 m4 r5 m5 r6 m6 r7 m7 → q_in32 r7 → ∀ (r8 : Int), ∀ (m8 : qm), P8 r1 m1 r2 m2 r3 m3 r4 m4 r5 m5 r6 m6 r7 m7 r8 m8 → q_in32 r8 → ∀ (r9 : Int), ∀ (m9 : qm), P9 r1 m1 r2 m2 r3 m3 r4 m4 r5 m5 r6 m6 r7 m7 r8 m8 r9 m9 → q_in32 r9 → ∀ (r10 : Int), ∀ (m10 : qm), P10 r1 m1 r2 m2 r3 m3 r4 m4 r5 m5 r6 m6 r7 m7 r8 m8 r9 m9 r10 m10 → q_in32 r10 → r10 ≠ 0 → q_Ev yX12_number cX12_number 6 (some .int) 3 0 0 [(2, 188), (0, 1), (0, 0), (0, 9)] (q_sh0, q_rb b, m10) (qK (q_rb b) (P12 r1 m1 r2 m2 r3 m3 r4 m4 r5 m5 r6 m6 r7 m7 r8 m8 r9 m9 r10 m10)))
    (o13 : ∀ (r1 : Int), ∀ (m1 : qm), P1 r1 m1 → q_in32 r1 → ∀ (r2 : Int), ∀ (m2 : qm), P2 r1 m1 r2 m2 → q_in32 r2 → ∀ (r3 : Int), ∀ (m3 : qm), P3 r1 m1 r2 m2 r3 m3 → q_in32 r3 → ∀ (r4 : Int), ∀ (m4 : qm), P4 r1 m1 r2 m2 r3 m3 r4 m4 → q_in32 r4 → ∀ (r5 : Int), ∀ (m5 : qm), P5 r1 m1 r2 m2 r3 m3 r4 m4 r5 m5 → q_in32 r5 → ∀ (r6 : Int), ∀ (m6 : qm), P6 r1 m1 r2 m2 r3 m3 r4 m4 r5 m5 r6 m6 → q_in32 r6 → ∀ (r7 : Int), ∀ (m7 : qm), P7 r1 m1 r2 m2 r3 m3 r4 m4 r5 m5 r6 m6 r7 m7 → q_in32 r7 → ∀ (r8 : Int), ∀ (m8 : qm), P8 r1 m1 r2 m2 r3 m3 r4 m4 r5 m5 r6 m6 r7 m7 r8 m8 → q_in32 r8 → ∀ (r9 : Int), ∀ (m9 : qm), P9 r1 m1 r2 m2 r3 m3 r4 m4 r5 m5 r6 m6 r7 m7 r8 m8 r9 m9 → q_in32 r9 → ∀ (r10 : Int), ∀ (m10 : qm), P10 r1 m1 r2 m2 r3 m3 r4 m4 r5 m5 r6 m6 r7 m7 r8 m8 r9 m9 r10 m10 → q_in32 r10 → r10 ≠ 0 → ∀ (r12 : Int), ∀ (m12 : qm), P12 r1 m1 r2 m2 r3 m3 r4 m4 r5 m5 r6 m6 r7 m7 r8 m8 r9 m9 r10 m10 r12 m12 → q_in32 r12 → ((m12 188 22) = -1) → j ≤ r12 → q_in32 ((m12 188 21) - 1))
    {P15 : Int → qm → Int → qm → Int → qm → Int → qm → Int → qm → Int → qm → Int → qm → Int → qm → Int → qm → Int → qm → Int → qm → Int → qm → Prop}
    (l14 : ∀ (r1 : Int), ∀ (m1 : qm), P1 r1 m1 → q_in32 r1 → ∀ (r2 : Int), ∀ (m2 : qm), P2 r1 m1 r2 m2 → q_in32 r2 → ∀ (r3 : Int), ∀ (m3 : qm), P3 r1 m1 r2 m2 r3 m3 → q_in32 r3 → ∀ (r4 : Int), ∀ (m4 : qm), P4 r1 m1 r2 m2 r3 m3 r4 m4 → q_in32 r4 → ∀ (r5 : Int), ∀ (m5 : qm), P5 r1 m1 r2 m2 r3 m3 r4 m4 r5 m5 → q_in32 r5 → ∀ (r6 : Int), ∀ (m6 : qm), P6 r1 m1 r2 m2 r3 m3 r4 m4 r5 m5 r6 m6 → q_in32 r6 → ∀ (r7 : Int), ∀ (m7 : qm), P7 r1 m1 r2 m2 r3 m3 r4 m4 r5 m5 r6 m6 r7 m7 → q_in32 r7 → ∀ (r8 : Int), ∀ (m8 : qm), P8 r1 m1 r2 m2 r3 m3 r4 m4 r5 m5 r6 m6 r7 m7 r8 m8 → q_in32 r8 → ∀ (r9 : Int), ∀ (m9 : qm), P9 r1 m1 r2 m2 r3 m3 r4 m4 r5 m5 r6 m6 r7 m7 r8 m8 r9 m9 → q_in32 r9 → ∀ (r10 : Int), ∀ (m10 : qm), P10 r1 m1 r2 m2 r3 m3 r4 m4 r5 m5 r6 m6 r7 m7 r8 m8 r9 m9 r10 m10 → q_in32 r10 → r10 ≠ 0 → ∀ (r12 : Int), ∀ (m12 : qm), P12 r1 m1 r2 m2 r3 m3 r4 m4 r5 m5 r6 m6 r7 m7 r8 m8 r9 m9 r10 m10 r12 m12 → q_in32 r12 → ((m12 188 22) = -1) → j ≤ r12 → q_Ev yX12_fault cX12_fault 2 none 2 0 0 [(2, 188), (0, ((m12 188 21) - 1))] (q_sh0, q_rb b, m12) (qK (q_rb b) (P15 r1 m1 r2 m2 r3 m3 r4 m4 r5 m5 r6 m6 r7 m7 r8 m8 r9 m9 r10 m10 r12 m12)))
    (l15 : ∀ (r1 : Int), ∀ (m1 : qm), P1 r1 m1 → q_in32 r1 → ∀ (r2 : Int), ∀ (m2 : qm), P2 r1 m1 r2 m2 → q_in32 r2 → ∀ (r3 : Int), ∀ (m3 : qm), P3 r1 m1 r2 m2 r3 m3 → q_in32 r3 → ∀ (r4 : Int), ∀ (m4 : qm), P4 r1 m1 r2 m2 r3 m3 r4 m4 → q_in32 r4 → ∀ (r5 : Int), ∀ (m5 : qm), P5 r1 m1 r2 m2 r3 m3 r4 m4 r5 m5 → q_in32 r5 → ∀ (r6 : Int), ∀ (m6 : qm), P6 r1 m1 r2 m2 r3 m3 r4 m4 r5 m5 r6 m6 → q_in32 r6 → ∀ (r7 : Int), ∀ (m7 : qm), P7 r1 m1 r2 m2 r3 m3 r4 m4 r5 m5 r6 m6 r7 m7 → q_in32 r7 → ∀ (r8 : Int), ∀ (m8 : qm), P8 r1 m1 r2 m2 r3 m3 r4 m4 r5 m5 r6 m6 r7 m7 r8 m8 → q_in32 r8 → ∀ (r9 : Int), ∀ (m9 : qm), P9 r1 m1 r2 m2 r3 m3 r4 m4 r5 m5 r6 m6 r7 m7 r8 m8 r9 m9 → q_in32 r9 → ∀ (r10 : Int), ∀ (m10 : qm), P10 r1 m1 r2 m2 r3 m3 r4 m4 r5 m5 r6 m6 r7 m7 r8 m8 r9 m9 r10 m10 → q_in32 r10 → r10 ≠ 0 → ∀ (r12 : Int), ∀ (m12 : qm), P12 r1 m1 r2 m2 r3 m3 r4 m4 r5 m5 r6 m6 r7 m7 r8 m8 r9 m9 r10 m10 r12 m12 → q_in32 r12 → ((m12 188 22) = -1) → j ≤ r12 → ∀ (r15 : Int), ∀ (m15 : qm), P15 r1 m1 r2 m2 r3 m3 r4 m4 r5 m5 r6 m6 r7 m7 r8 m8 r9 m9 r10 m10 r12 m12 r15 m15 → q_in32 r15 → Q 0 (q_up m15 194 j r12))
    (o16 : ∀ (r1 : Int), ∀ (m1 : qm), P1 r1 m1 → q_in32 r1 → ∀ (r2 : Int), ∀ (m2 : qm), P2 r1 m1 r2 m2 → q_in32 r2 → ∀ (r3 : Int), ∀ (m3 : qm), P3 r1 m1 r2 m2 r3 m3 → q_in32 r3 → ∀ (r4 : Int), ∀ (m4 : qm), P4 r1 m1 r2 m2 r3 m3 r4 m4 → q_in32 r4 → ∀ (r5 : Int), ∀ (m5 : qm), P5 r1 m1 r2 m2 r3 m3 r4 m4 r5 m5 → q_in32 r5 → ∀ (r6 : Int), ∀ (m6 : qm), P6 r1 m1 r2 m2 r3 m3 r4 m4 r5 m5 r6 m6 → q_in32 r6 → ∀ (r7 : Int), ∀ (m7 : qm), P7 r1 m1 r2 m2 r3 m3 r4 m4 r5 m5 r6 m6 r7 m7 → q_in32 r7 → ∀ (r8 : Int), ∀ (m8 : qm), P8 r1 m1 r2 m2 r3 m3 r4 m4 r5 m5 r6 m6 r7 m7 r8 m8 → q_in32 r8 → ∀ (r9 : Int), ∀ (m9 : qm), P9 r1 m1 r2 m2 r3 m3 r4 m4 r5 m5 r6 m6 r7 m7 r8 m8 r9 m9 → q_in32 r9 → ∀ (r10 : Int), ∀ (m10 : qm), P10 r1 m1 r2 m2 r3 m3 r4 m4 r5 m5 r6 m6 r7 m7 r8 m8 r9 m9 r10 m10 → q_in32 r10 → r10 ≠ 0 → ∀ (r12 : Int), ∀ (m12 : qm), P12 r1 m1 r2 m2 r3 m3 r4 m4 r5 m5 r6 m6 r7 m7 r8 m8 r9 m9 r10 m10 r12 m12 → q_in32 r12 → ((m12 188 22) = -1) → r12 < j → (0 ≤ r12 ∧ r12 < 9))
    (l17 : ∀ (r1 : Int), ∀ (m1 : qm), P1 r1 m1 → q_in32 r1 → ∀ (r2 : Int), ∀ (m2 : qm), P2 r1 m1 r2 m2 → q_in32 r2 → ∀ (r3 : Int), ∀ (m3 : qm), P3 r1 m1 r2 m2 r3 m3 → q_in32 r3 → ∀ (r4 : Int), ∀ (m4 : qm), P4 r1 m1 r2 m2 r3 m3 r4 m4 → q_in32 r4 → ∀ (r5 : Int), ∀ (m5 : qm), P5 r1 m1 r2 m2 r3 m3 r4 m4 r5 m5 → q_in32 r5 → ∀ (r6 : Int), ∀ (m6 : qm), P6 r1 m1 r2 m2 r3 m3 r4 m4 r5 m5 r6 m6 → q_in32 r6 → ∀ (r7 : Int), ∀ (m7 : qm), P7 r1 m1 r2 m2 r3 m3 r4 m4 r5 m5 r6 m6 r7 m7 → q_in32 r7 → ∀ (r8 : Int), ∀ (m8 : qm), P8 r1 m1 r2 m2 r3 m3 r4 m4 r5 m5 r6 m6 r7 m7 r8 m8 → q_in32 r8 → ∀ (r9 : Int), ∀ (m9 : qm), P9 r1 m1 r2 m2 r3 m3 r4 m4 r5 m5 r6 m6 r7 m7 r8 m8 r9 m9 → q_in32 r9 → ∀ (r10 : Int), ∀ (m10 : qm), P10 r1 m1 r2 m2 r3 m3 r4 m4 r5 m5 r6 m6 r7 m7 r8 m8 r9 m9 r10 m10 → q_in32 r10 → r10 ≠ 0 → ∀ (r12 : Int), ∀ (m12 : qm), P12 r1 m1 r2 m2 r3 m3 r4 m4 r5 m5 r6 m6 r7 m7 r8 m8 r9 m9 r10 m10 r12 m12 → q_in32 r12 → ((m12 188 22) = -1) → r12 < j → (m12 193 r12) < (m12 193 j) → Q 0 (q_up m12 194 j r12))
    (o18 : ∀ (r1 : Int), ∀ (m1 : qm), P1 r1 m1 → q_in32 r1 → ∀ (r2 : Int), ∀ (m2 : qm), P2 r1 m1 r2 m2 → q_in32 r2 → ∀ (r3 : Int), ∀ (m3 : qm), P3 r1 m1 r2 m2 r3 m3 → q_in32 r3 → ∀ (r4 : Int), ∀ (m4 : qm), P4 r1 m1 r2 m2 r3 m3 r4 m4 → q_in32 r4 → ∀ (r5 : Int), ∀ (m5 : qm), P5 r1 m1 r2 m2 r3 m3 r4 m4 r5 m5 → q_in32 r5 → ∀ (r6 : Int), ∀ (m6 : qm), P6 r1 m1 r2 m2 r3 m3 r4 m4 r5 m5 r6 m6 → q_in32 r6 → ∀ (r7 : Int), ∀ (m7 : qm), P7 r1 m1 r2 m2 r3 m3 r4 m4 r5 m5 r6 m6 r7 m7 → q_in32 r7 → ∀ (r8 : Int), ∀ (m8 : qm), P8 r1 m1 r2 m2 r3 m3 r4 m4 r5 m5 r6 m6 r7 m7 r8 m8 → q_in32 r8 → ∀ (r9 : Int), ∀ (m9 : qm), P9 r1 m1 r2 m2 r3 m3 r4 m4 r5 m5 r6 m6 r7 m7 r8 m8 r9 m9 → q_in32 r9 → ∀ (r10 : Int), ∀ (m10 : qm), P10 r1 m1 r2 m2 r3 m3 r4 m4 r5 m5 r6 m6 r7 m7 r8 m8 r9 m9 r10 m10 → q_in32 r10 → r10 ≠ 0 → ∀ (r12 : Int), ∀ (m12 : qm), P12 r1 m1 r2 m2 r3 m3 r4 m4 r5 m5 r6 m6 r7 m7 r8 m8 r9 m9 r10 m10 r12 m12 → q_in32 r12 → ((m12 188 22) = -1) → r12 < j → (m12 193 j) ≤ (m12 193 r12) → q_in32 ((m12 188 21) - 1))
    {P17 : Int → qm → Int → qm → Int → qm → Int → qm → Int → qm → Int → qm → Int → qm → Int → qm → Int → qm → Int → qm → Int → qm → Int → qm → Prop}
    (l19 : ∀ (r1 : Int), ∀ (m1 : qm), P1 r1 m1 → q_in32 r1 → ∀ (r2 : Int), ∀ (m2 : qm), P2 r1 m1 r2 m2 → q_in32 r2 → ∀ (r3 : Int), ∀ (m3 : qm), P3 r1 m1 r2 m2 r3 m3 → q_in32 r3 → ∀ (r4 : Int), ∀ (m4 : qm), P4 r1 m1 r2 m2 r3 m3 r4 m4 → q_in32 r4 → ∀ (r5 : Int), ∀ (m5 : qm), P5 r1 m1 r2 m2 r3 m3 r4 m4 r5 m5 → q_in32 r5 → ∀ (r6 : Int), ∀ (m6 : qm), P6 r1 m1 r2 m2 r3 m3 r4 m4 r5 m5 r6 m6 → q_in32 r6 → ∀ (r7 : Int), ∀ (m7 : qm), P7 r1 m1 r2 m2 r3 m3 r4 m4 r5 m5 r6 m6 r7 m7 → q_in32 r7 → ∀ (r8 : Int), ∀ (m8 : qm), P8 r1 m1 r2 m2 r3 m3 r4 m4 r5 m5 r6 m6 r7 m7 r8 m8 → q_in32 r8 → ∀ (r9 : Int), ∀ (m9 : qm), P9 r1 m1 r2 m2 r3 m3 r4 m4 r5 m5 r6 m6 r7 m7 r8 m8 r9 m9 → q_in32 r9 → ∀ (r10 : Int), ∀ (m10 : qm), P10 r1 m1 r2 m2 r3 m3 r4 m4 r5 m5 r6 m6 r7 m7 r8 m8 r9 m9 r10 m10 → q_in32 r10 → r10 ≠ 0 → ∀ (r12 : Int), ∀ (m12 : qm), P12 r1 m1 r2 m2 r3 m3 r4 m4 r5 m5 r6 m6 r7 m7 r8 m8 r9 m9 r10 m10 r12 m12 → q_in32 r12 → ((m12 188 22) = -1) → r12 < j → (m12 193 j) ≤ (m12 193 r12) → q_Ev yX12_fault cX12_fault 2 none 2 0 0 [(2, 188), (0, ((m12 188 21) - 1))] (q_sh0, q_rb b, m12) (qK (q_rb b) (P17 r1 m1 r2 m2 r3 m3 r4 m4 r5 m5 r6 m6 r7 m7 r8 m8 r9 m9 r10 m10 r12 m12)))
    (l20 : ∀ (r1 : Int), ∀ (m1 : qm), P1 r1 m1 → q_in32 r1 → ∀ (r2 : Int), ∀ (m2 : qm), P2 r1 m1 r2 m2 → q_in32 r2 → ∀ (r3 : Int), ∀ (m3 : qm), P3 r1 m1 r2 m2 r3 m3 → q_in32 r3 → ∀ (r4 : Int), ∀ (m4 : qm), P4 r1 m1 r2 m2 r3 m3 r4 m4 → q_in32 r4 → ∀ (r5 : Int), ∀ (m5 : qm), P5 r1 m1 r2 m2 r3 m3 r4 m4 r5 m5 → q_in32 r5 → ∀ (r6 : Int), ∀ (m6 : qm), P6 r1 m1 r2 m2 r3 m3 r4 m4 r5 m5 r6 m6 → q_in32 r6 → ∀ (r7 : Int), ∀ (m7 : qm), P7 r1 m1 r2 m2 r3 m3 r4 m4 r5 m5 r6 m6 r7 m7 → q_in32 r7 → ∀ (r8 : Int), ∀ (m8 : qm), P8 r1 m1 r2 m2 r3 m3 r4 m4 r5 m5 r6 m6 r7 m7 r8 m8 → q_in32 r8 → ∀ (r9 : Int), ∀ (m9 : qm), P9 r1 m1 r2 m2 r3 m3 r4 m4 r5 m5 r6 m6 r7 m7 r8 m8 r9 m9 → q_in32 r9 → ∀ (r10 : Int), ∀ (m10 : qm), P10 r1 m1 r2 m2 r3 m3 r4 m4 r5 m5 r6 m6 r7 m7 r8 m8 r9 m9 r10 m10 → q_in32 r10 → r10 ≠ 0 → ∀ (r12 : Int), ∀ (m12 : qm), P12 r1 m1 r2 m2 r3 m3 r4 m4 r5 m5 r6 m6 r7 m7 r8 m8 r9 m9 r10 m10 r12 m12 → q_in32 r12 → ((m12 188 22) = -1) → r12 < j → (m12 193 j) ≤ (m12 193 r12) → ∀ (r17 : Int), ∀ (m17 : qm), P17 r1 m1 r2 m2 r3 m3 r4 m4 r5 m5 r6 m6 r7 m7 r8 m8 r9 m9 r10 m10 r12 m12 r17 m17 → q_in32 r17 → Q 0 (q_up m17 194 j r12))
    (l21 : ∀ (r1 : Int), ∀ (m1 : qm), P1 r1 m1 → q_in32 r1 → ∀ (r2 : Int), ∀ (m2 : qm), P2 r1 m1 r2 m2 → q_in32 r2 → ∀ (r3 : Int), ∀ (m3 : qm), P3 r1 m1 r2 m2 r3 m3 → q_in32 r3 → ∀ (r4 : Int), ∀ (m4 : qm), P4 r1 m1 r2 m2 r3 m3 r4 m4 → q_in32 r4 → ∀ (r5 : Int), ∀ (m5 : qm), P5 r1 m1 r2 m2 r3 m3 r4 m4 r5 m5 → q_in32 r5 → ∀ (r6 : Int), ∀ (m6 : qm), P6 r1 m1 r2 m2 r3 m3 r4 m4 r5 m5 r6 m6 → q_in32 r6 → ∀ (r7 : Int), ∀ (m7 : qm), P7 r1 m1 r2 m2 r3 m3 r4 m4 r5 m5 r6 m6 r7 m7 → q_in32 r7 → ∀ (r8 : Int), ∀ (m8 : qm), P8 r1 m1 r2 m2 r3 m3 r4 m4 r5 m5 r6 m6 r7 m7 r8 m8 → q_in32 r8 → ∀ (r9 : Int), ∀ (m9 : qm), P9 r1 m1 r2 m2 r3 m3 r4 m4 r5 m5 r6 m6 r7 m7 r8 m8 r9 m9 → q_in32 r9 → ∀ (r10 : Int), ∀ (m10 : qm), P10 r1 m1 r2 m2 r3 m3 r4 m4 r5 m5 r6 m6 r7 m7 r8 m8 r9 m9 r10 m10 → q_in32 r10 → r10 ≠ 0 → ∀ (r12 : Int), ∀ (m12 : qm), P12 r1 m1 r2 m2 r3 m3 r4 m4 r5 m5 r6 m6 r7 m7 r8 m8 r9 m9 r10 m10 r12 m12 → q_in32 r12 → ¬ ((m12 188 22) = -1) → Q 0 (q_up m12 194 j r12))
    (l22 : ∀ (r1 : Int), ∀ (m1 : qm), P1 r1 m1 → q_in32 r1 → ∀ (r2 : Int), ∀ (m2 : qm), P2 r1 m1 r2 m2 → q_in32 r2 → ∀ (r3 : Int), ∀ (m3 : qm), P3 r1 m1 r2 m2 r3 m3 → q_in32 r3 → ∀ (r4 : Int), ∀ (m4 : qm), P4 r1 m1 r2 m2 r3 m3 r4 m4 → q_in32 r4 → ∀ (r5 : Int), ∀ (m5 : qm), P5 r1 m1 r2 m2 r3 m3 r4 m4 r5 m5 → q_in32 r5 → ∀ (r6 : Int), ∀ (m6 : qm), P6 r1 m1 r2 m2 r3 m3 r4 m4 r5 m5 r6 m6 → q_in32 r6 → ∀ (r7 : Int), ∀ (m7 : qm), P7 r1 m1 r2 m2 r3 m3 r4 m4 r5 m5 r6 m6 r7 m7 → q_in32 r7 → ∀ (r8 : Int), ∀ (m8 : qm), P8 r1 m1 r2 m2 r3 m3 r4 m4 r5 m5 r6 m6 r7 m7 r8 m8 → q_in32 r8 → ∀ (r9 : Int), ∀ (m9 : qm), P9 r1 m1 r2 m2 r3 m3 r4 m4 r5 m5 r6 m6 r7 m7 r8 m8 r9 m9 → q_in32 r9 → ∀ (r10 : Int), ∀ (m10 : qm), P10 r1 m1 r2 m2 r3 m3 r4 m4 r5 m5 r6 m6 r7 m7 r8 m8 r9 m9 r10 m10 → q_in32 r10 → r10 = 0 → Q 0 m10) :
    q_At yX12_readJar cX12_readJar 3 none 4 0 0 (qK (q_rb b) Q) 0 [(2, 188), (0, j), (4, 0)] [] (q_sh0, q_rb b, mem) := by
  refine q_aload_n dX12_readJar_0 rfl rfl ?_
  refine q_getR (ci := 12) (k := 1) dX12_readJar_1 rfl (by decide) rfl tw1184 (by decide) qs188 qw188_1 (by decide) ?_
  refine q_iload_n dX12_readJar_4 rfl rfl ?_
  refine q_aload_n dX12_readJar_5 rfl rfl ?_
  refine qx_iconst dX12_readJar_6 rfl rfl ?_
  refine qx_iconst dX12_readJar_7 rfl rfl ?_
  refine qx_bipush dX12_readJar_8 rfl rfl ?_
  refine qx_invV (ci := 12) [(0, 2), (0, 1), (0, 60)] [(0, 60), (0, 1), (0, 2), (2, 188), (0, j), (2, 189)] rfl qM_X12_number dX12_readJar_10 tw1385 rfl qs188 rfl rfl rfl rfl (l1) (fun r1 m1 p1 q1 => ?_)
  refine q_iast dX12_readJar_13 qs189 ((o2 r1 m1 p1 q1)).1 ((o2 r1 m1 p1 q1)).2 ?_
  refine q_aload_n dX12_readJar_14 rfl rfl ?_
  refine qx_bipush dX12_readJar_15 rfl rfl ?_
  refine qx_invV (ci := 12) [(0, 47)] [(0, 47), (2, 188)] rfl qM_X12_need dX12_readJar_17 tw1393 rfl qs188 rfl rfl rfl rfl (l3 r1 m1 p1 q1) (fun r2 m2 p2 q2 => ?_)
  refine q_aload_n dX12_readJar_20 rfl rfl ?_
  refine q_getR (ci := 12) (k := 2) dX12_readJar_21 rfl (by decide) rfl tw1185 (by decide) qs188 qw188_2 (by decide) ?_
  refine q_iload_n dX12_readJar_24 rfl rfl ?_
  refine q_aload_n dX12_readJar_25 rfl rfl ?_
  refine qx_iconst dX12_readJar_26 rfl rfl ?_
  refine qx_iconst dX12_readJar_27 rfl rfl ?_
  refine q_aload_n dX12_readJar_28 rfl rfl ?_
  refine q_getR (ci := 12) (k := 1) dX12_readJar_29 rfl (by decide) rfl tw1184 (by decide) qs188 qw188_1 (by decide) ?_
  refine q_iload_n dX12_readJar_32 rfl rfl ?_
  refine qx_iald (v := (m2 189 j)) dX12_readJar_33 qs189 (o2 r1 m1 p1 q1) rfl ?_
  refine qx_invV (ci := 12) [(0, 2), (0, 0), (0, (m2 189 j))] [(0, (m2 189 j)), (0, 0), (0, 2), (2, 188), (0, j), (2, 190)] rfl qM_X12_number dX12_readJar_34 tw1385 rfl qs188 rfl rfl rfl rfl (l4 r1 m1 p1 q1 r2 m2 p2 q2) (fun r3 m3 p3 q3 => ?_)
  refine q_iast dX12_readJar_37 qs190 ((o2 r1 m1 p1 q1)).1 ((o2 r1 m1 p1 q1)).2 ?_
  refine q_aload_n dX12_readJar_38 rfl rfl ?_
  refine qx_bipush dX12_readJar_39 rfl rfl ?_
  refine qx_invV (ci := 12) [(0, 44)] [(0, 44), (2, 188)] rfl qM_X12_need dX12_readJar_41 tw1393 rfl qs188 rfl rfl rfl rfl (l5 r1 m1 p1 q1 r2 m2 p2 q2 r3 m3 p3 q3) (fun r4 m4 p4 q4 => ?_)
  refine q_aload_n dX12_readJar_44 rfl rfl ?_
  refine q_getR (ci := 12) (k := 3) dX12_readJar_45 rfl (by decide) rfl tw1186 (by decide) qs188 qw188_3 (by decide) ?_
  refine q_iload_n dX12_readJar_48 rfl rfl ?_
  refine q_aload_n dX12_readJar_49 rfl rfl ?_
  refine qx_iconst dX12_readJar_50 rfl rfl ?_
  refine qx_iconst dX12_readJar_51 rfl rfl ?_
  refine qx_bipush dX12_readJar_52 rfl rfl ?_
  refine qx_invV (ci := 12) [(0, 1), (0, 0), (0, 9)] [(0, 9), (0, 0), (0, 1), (2, 188), (0, j), (2, 191)] rfl qM_X12_number dX12_readJar_54 tw1385 rfl qs188 rfl rfl rfl rfl (l6 r1 m1 p1 q1 r2 m2 p2 q2 r3 m3 p3 q3 r4 m4 p4 q4) (fun r5 m5 p5 q5 => ?_)
  refine q_iast dX12_readJar_57 qs191 ((o2 r1 m1 p1 q1)).1 ((o2 r1 m1 p1 q1)).2 ?_
  refine q_aload_n dX12_readJar_58 rfl rfl ?_
  refine qx_bipush dX12_readJar_59 rfl rfl ?_
  refine qx_invV (ci := 12) [(0, 44)] [(0, 44), (2, 188)] rfl qM_X12_need dX12_readJar_61 tw1393 rfl qs188 rfl rfl rfl rfl (l7 r1 m1 p1 q1 r2 m2 p2 q2 r3 m3 p3 q3 r4 m4 p4 q4 r5 m5 p5 q5) (fun r6 m6 p6 q6 => ?_)
  refine q_aload_n dX12_readJar_64 rfl rfl ?_
  refine q_getR (ci := 12) (k := 4) dX12_readJar_65 rfl (by decide) rfl tw1187 (by decide) qs188 qw188_4 (by decide) ?_
  refine q_iload_n dX12_readJar_68 rfl rfl ?_
  refine q_aload_n dX12_readJar_69 rfl rfl ?_
  refine qx_iconst dX12_readJar_70 rfl rfl ?_
  refine qx_iconst dX12_readJar_71 rfl rfl ?_
  refine qx_iconst dX12_readJar_72 rfl rfl ?_
  refine qx_invV (ci := 12) [(0, 1), (0, 0), (0, 5)] [(0, 5), (0, 0), (0, 1), (2, 188), (0, j), (2, 192)] rfl qM_X12_number dX12_readJar_73 tw1385 rfl qs188 rfl rfl rfl rfl (l8 r1 m1 p1 q1 r2 m2 p2 q2 r3 m3 p3 q3 r4 m4 p4 q4 r5 m5 p5 q5 r6 m6 p6 q6) (fun r7 m7 p7 q7 => ?_)
  refine q_iast dX12_readJar_76 qs192 ((o2 r1 m1 p1 q1)).1 ((o2 r1 m1 p1 q1)).2 ?_
  refine q_aload_n dX12_readJar_77 rfl rfl ?_
  refine qx_bipush dX12_readJar_78 rfl rfl ?_
  refine qx_invV (ci := 12) [(0, 44)] [(0, 44), (2, 188)] rfl qM_X12_need dX12_readJar_80 tw1393 rfl qs188 rfl rfl rfl rfl (l9 r1 m1 p1 q1 r2 m2 p2 q2 r3 m3 p3 q3 r4 m4 p4 q4 r5 m5 p5 q5 r6 m6 p6 q6 r7 m7 p7 q7) (fun r8 m8 p8 q8 => ?_)
  refine q_aload_n dX12_readJar_83 rfl rfl ?_
  refine q_getR (ci := 12) (k := 5) dX12_readJar_84 rfl (by decide) rfl tw1188 (by decide) qs188 qw188_5 (by decide) ?_
  refine q_iload_n dX12_readJar_87 rfl rfl ?_
  refine q_aload_n dX12_readJar_88 rfl rfl ?_
  refine qx_iconst dX12_readJar_89 rfl rfl ?_
  refine qx_iconst dX12_readJar_90 rfl rfl ?_
  refine qx_bipush dX12_readJar_91 rfl rfl ?_
  refine qx_invV (ci := 12) [(0, 1), (0, 0), (0, 9)] [(0, 9), (0, 0), (0, 1), (2, 188), (0, j), (2, 193)] rfl qM_X12_number dX12_readJar_93 tw1385 rfl qs188 rfl rfl rfl rfl (l10 r1 m1 p1 q1 r2 m2 p2 q2 r3 m3 p3 q3 r4 m4 p4 q4 r5 m5 p5 q5 r6 m6 p6 q6 r7 m7 p7 q7 r8 m8 p8 q8) (fun r9 m9 p9 q9 => ?_)
  refine q_iast dX12_readJar_96 qs193 ((o2 r1 m1 p1 q1)).1 ((o2 r1 m1 p1 q1)).2 ?_
  refine q_aload_n dX12_readJar_97 rfl rfl ?_
  refine q_getR (ci := 12) (k := 6) dX12_readJar_98 rfl (by decide) rfl tw1189 (by decide) qs188 qw188_6 (by decide) ?_
  refine q_iload_n dX12_readJar_101 rfl rfl ?_
  refine qx_iconst dX12_readJar_102 rfl rfl ?_
  refine q_iast dX12_readJar_103 qs194 ((o2 r1 m1 p1 q1)).1 ((o2 r1 m1 p1 q1)).2 ?_
  refine q_aload_n dX12_readJar_104 rfl rfl ?_
  refine qx_bipush dX12_readJar_105 rfl rfl ?_
  refine qx_invV (ci := 12) [(0, 62)] [(0, 62), (2, 188)] rfl qM_X12_passes dX12_readJar_107 tw1377 rfl qs188 rfl rfl rfl rfl (l11 r1 m1 p1 q1 r2 m2 p2 q2 r3 m3 p3 q3 r4 m4 p4 q4 r5 m5 p5 q5 r6 m6 p6 q6 r7 m7 p7 q7 r8 m8 p8 q8 r9 m9 p9 q9) (fun r10 m10 p10 q10 => ?_)
  refine qx_if_ne (tgt := 114) dX12_readJar_110 (by decide) (fun c11 => ?_) (fun c11 => ?_)
  · skip
    refine q_aload_n dX12_readJar_114 rfl rfl ?_
    refine qx_iconst dX12_readJar_115 rfl rfl ?_
    refine qx_iconst dX12_readJar_116 rfl rfl ?_
    refine qx_bipush dX12_readJar_117 rfl rfl ?_
    refine qx_invV (ci := 12) [(0, 1), (0, 0), (0, 9)] [(0, 9), (0, 0), (0, 1), (2, 188)] rfl qM_X12_number dX12_readJar_119 tw1385 rfl qs188 rfl rfl rfl rfl (l12 r1 m1 p1 q1 r2 m2 p2 q2 r3 m3 p3 q3 r4 m4 p4 q4 r5 m5 p5 q5 r6 m6 p6 q6 r7 m7 p7 q7 r8 m8 p8 q8 r9 m9 p9 q9 r10 m10 p10 q10 c11) (fun r12 m12 p12 q12 => ?_)
    refine qx_istore_n (L' := [(2, 188), (0, j), (0, r12)]) dX12_readJar_122 rfl rfl rfl rfl ?_
    refine q_aload_n dX12_readJar_123 rfl rfl ?_
    refine qx_invV (ci := 12) [] [(2, 188)] rfl qM_X12_fine dX12_readJar_124 tw1373 rfl qs188 rfl rfl rfl rfl (spX12_fine) (fun r13 m13 p13 q13 => ?_)
    obtain ⟨p13e, ⟨p13f, p13⟩ | ⟨p13f, p13⟩⟩ := p13
    · rw [p13e, p13f]
      refine qx_if_eq (tgt := 160) dX12_readJar_127 (by decide) (fun z => absurd z (by decide)) (fun _ => ?_)
      refine q_iload_n dX12_readJar_130 rfl rfl ?_
      refine q_iload_n dX12_readJar_131 rfl rfl ?_
      refine qx_icmp_ge (tgt := 150) dX12_readJar_132 (by decide) (fun c14 => ?_) (fun c14 => ?_)
      · skip
        refine q_aload_n dX12_readJar_150 rfl rfl ?_
        refine q_aload_n dX12_readJar_151 rfl rfl ?_
        refine qx_getI (ci := 12) (k := 21) (v := (m12 188 21)) dX12_readJar_152 rfl rfl rfl tw1204 rfl qs188 rfl ?_
        refine qx_iconst dX12_readJar_155 rfl rfl ?_
        refine qx_isub dX12_readJar_156 (o13 r1 m1 p1 q1 r2 m2 p2 q2 r3 m3 p3 q3 r4 m4 p4 q4 r5 m5 p5 q5 r6 m6 p6 q6 r7 m7 p7 q7 r8 m8 p8 q8 r9 m9 p9 q9 r10 m10 p10 q10 c11 r12 m12 p12 q12 p13 c14) ?_
        refine qx_invV (ci := 12) [(0, ((m12 188 21) - 1))] [(0, ((m12 188 21) - 1)), (2, 188)] rfl qM_X12_fault dX12_readJar_157 tw1389 rfl qs188 rfl rfl rfl rfl (l14 r1 m1 p1 q1 r2 m2 p2 q2 r3 m3 p3 q3 r4 m4 p4 q4 r5 m5 p5 q5 r6 m6 p6 q6 r7 m7 p7 q7 r8 m8 p8 q8 r9 m9 p9 q9 r10 m10 p10 q10 c11 r12 m12 p12 q12 p13 c14) (fun r15 m15 p15 q15 => ?_)
        refine q_aload_n dX12_readJar_160 rfl rfl ?_
        refine q_getR (ci := 12) (k := 6) dX12_readJar_161 rfl (by decide) rfl tw1189 (by decide) qs188 qw188_6 (by decide) ?_
        refine q_iload_n dX12_readJar_164 rfl rfl ?_
        refine q_iload_n dX12_readJar_165 rfl rfl ?_
        refine q_iast dX12_readJar_166 qs194 ((o2 r1 m1 p1 q1)).1 ((o2 r1 m1 p1 q1)).2 ?_
        exact q_vret dX12_readJar_167 (qK_i (l15 r1 m1 p1 q1 r2 m2 p2 q2 r3 m3 p3 q3 r4 m4 p4 q4 r5 m5 p5 q5 r6 m6 p6 q6 r7 m7 p7 q7 r8 m8 p8 q8 r9 m9 p9 q9 r10 m10 p10 q10 c11 r12 m12 p12 q12 p13 c14 r15 m15 p15 q15))
      · skip
        refine q_aload_n dX12_readJar_135 rfl rfl ?_
        refine q_getR (ci := 12) (k := 5) dX12_readJar_136 rfl (by decide) rfl tw1188 (by decide) qs188 qw188_5 (by decide) ?_
        refine q_iload_n dX12_readJar_139 rfl rfl ?_
        refine qx_iald (v := (m12 193 r12)) dX12_readJar_140 qs193 (o16 r1 m1 p1 q1 r2 m2 p2 q2 r3 m3 p3 q3 r4 m4 p4 q4 r5 m5 p5 q5 r6 m6 p6 q6 r7 m7 p7 q7 r8 m8 p8 q8 r9 m9 p9 q9 r10 m10 p10 q10 c11 r12 m12 p12 q12 p13 c14) rfl ?_
        refine q_aload_n dX12_readJar_141 rfl rfl ?_
        refine q_getR (ci := 12) (k := 5) dX12_readJar_142 rfl (by decide) rfl tw1188 (by decide) qs188 qw188_5 (by decide) ?_
        refine q_iload_n dX12_readJar_145 rfl rfl ?_
        refine qx_iald (v := (m12 193 j)) dX12_readJar_146 qs193 (o2 r1 m1 p1 q1) rfl ?_
        refine qx_icmp_lt (tgt := 160) dX12_readJar_147 (by decide) (fun c16 => ?_) (fun c16 => ?_)
        · skip
          refine q_aload_n dX12_readJar_160 rfl rfl ?_
          refine q_getR (ci := 12) (k := 6) dX12_readJar_161 rfl (by decide) rfl tw1189 (by decide) qs188 qw188_6 (by decide) ?_
          refine q_iload_n dX12_readJar_164 rfl rfl ?_
          refine q_iload_n dX12_readJar_165 rfl rfl ?_
          refine q_iast dX12_readJar_166 qs194 ((o2 r1 m1 p1 q1)).1 ((o2 r1 m1 p1 q1)).2 ?_
          exact q_vret dX12_readJar_167 (qK_i (l17 r1 m1 p1 q1 r2 m2 p2 q2 r3 m3 p3 q3 r4 m4 p4 q4 r5 m5 p5 q5 r6 m6 p6 q6 r7 m7 p7 q7 r8 m8 p8 q8 r9 m9 p9 q9 r10 m10 p10 q10 c11 r12 m12 p12 q12 p13 c14 c16))
        · skip
          refine q_aload_n dX12_readJar_150 rfl rfl ?_
          refine q_aload_n dX12_readJar_151 rfl rfl ?_
          refine qx_getI (ci := 12) (k := 21) (v := (m12 188 21)) dX12_readJar_152 rfl rfl rfl tw1204 rfl qs188 rfl ?_
          refine qx_iconst dX12_readJar_155 rfl rfl ?_
          refine qx_isub dX12_readJar_156 (o18 r1 m1 p1 q1 r2 m2 p2 q2 r3 m3 p3 q3 r4 m4 p4 q4 r5 m5 p5 q5 r6 m6 p6 q6 r7 m7 p7 q7 r8 m8 p8 q8 r9 m9 p9 q9 r10 m10 p10 q10 c11 r12 m12 p12 q12 p13 c14 c16) ?_
          refine qx_invV (ci := 12) [(0, ((m12 188 21) - 1))] [(0, ((m12 188 21) - 1)), (2, 188)] rfl qM_X12_fault dX12_readJar_157 tw1389 rfl qs188 rfl rfl rfl rfl (l19 r1 m1 p1 q1 r2 m2 p2 q2 r3 m3 p3 q3 r4 m4 p4 q4 r5 m5 p5 q5 r6 m6 p6 q6 r7 m7 p7 q7 r8 m8 p8 q8 r9 m9 p9 q9 r10 m10 p10 q10 c11 r12 m12 p12 q12 p13 c14 c16) (fun r17 m17 p17 q17 => ?_)
          refine q_aload_n dX12_readJar_160 rfl rfl ?_
          refine q_getR (ci := 12) (k := 6) dX12_readJar_161 rfl (by decide) rfl tw1189 (by decide) qs188 qw188_6 (by decide) ?_
          refine q_iload_n dX12_readJar_164 rfl rfl ?_
          refine q_iload_n dX12_readJar_165 rfl rfl ?_
          refine q_iast dX12_readJar_166 qs194 ((o2 r1 m1 p1 q1)).1 ((o2 r1 m1 p1 q1)).2 ?_
          exact q_vret dX12_readJar_167 (qK_i (l20 r1 m1 p1 q1 r2 m2 p2 q2 r3 m3 p3 q3 r4 m4 p4 q4 r5 m5 p5 q5 r6 m6 p6 q6 r7 m7 p7 q7 r8 m8 p8 q8 r9 m9 p9 q9 r10 m10 p10 q10 c11 r12 m12 p12 q12 p13 c14 c16 r17 m17 p17 q17))
    · rw [p13e, p13f]
      refine qx_if_eq (tgt := 160) dX12_readJar_127 (by decide) (fun _ => ?_) (fun z => absurd z (by decide))
      refine q_aload_n dX12_readJar_160 rfl rfl ?_
      refine q_getR (ci := 12) (k := 6) dX12_readJar_161 rfl (by decide) rfl tw1189 (by decide) qs188 qw188_6 (by decide) ?_
      refine q_iload_n dX12_readJar_164 rfl rfl ?_
      refine q_iload_n dX12_readJar_165 rfl rfl ?_
      refine q_iast dX12_readJar_166 qs194 ((o2 r1 m1 p1 q1)).1 ((o2 r1 m1 p1 q1)).2 ?_
      exact q_vret dX12_readJar_167 (qK_i (l21 r1 m1 p1 q1 r2 m2 p2 q2 r3 m3 p3 q3 r4 m4 p4 q4 r5 m5 p5 q5 r6 m6 p6 q6 r7 m7 p7 q7 r8 m8 p8 q8 r9 m9 p9 q9 r10 m10 p10 q10 c11 r12 m12 p12 q12 p13))
  · skip
    exact q_vret dX12_readJar_113 (qK_i (l22 r1 m1 p1 q1 r2 m2 p2 q2 r3 m3 p3 q3 r4 m4 p4 q4 r5 m5 p5 q5 r6 m6 p6 q6 r7 m7 p7 q7 r8 m8 p8 q8 r9 m9 p9 q9 r10 m10 p10 q10 c11))
theorem dX12_town_0 : decode cX12_town 0 = .ok (.aload_n 0, 1) := by decide +kernel
theorem dX12_town_1 : decode cX12_town 1 = .ok (.iconst 0, 1) := by decide +kernel
theorem dX12_town_2 : decode cX12_town 2 = .ok (.putfield 128, 3) := by decide +kernel
theorem dX12_town_5 : decode cX12_town 5 = .ok (.aload_n 0, 1) := by decide +kernel
theorem dX12_town_6 : decode cX12_town 6 = .ok (.aload_n 0, 1) := by decide +kernel
theorem dX12_town_7 : decode cX12_town 7 = .ok (.getfield 41, 3) := by decide +kernel
theorem dX12_town_10 : decode cX12_town 10 = .ok (.aload_n 0, 1) := by decide +kernel
theorem dX12_town_11 : decode cX12_town 11 = .ok (.getfield 145, 3) := by decide +kernel
theorem dX12_town_14 : decode cX12_town 14 = .ok (.bipush 76, 2) := by decide +kernel
theorem dX12_town_16 : decode cX12_town 16 = .ok (.invokevirtual 179, 3) := by decide +kernel
theorem dX12_town_19 : decode cX12_town 19 = .ok (.aload_n 0, 1) := by decide +kernel
theorem dX12_town_20 : decode cX12_town 20 = .ok (.iconst 0, 1) := by decide +kernel
theorem dX12_town_21 : decode cX12_town 21 = .ok (.putfield 145, 3) := by decide +kernel
theorem dX12_town_24 : decode cX12_town 24 = .ok (.aload_n 0, 1) := by decide +kernel
theorem dX12_town_25 : decode cX12_town 25 = .ok (.getfield 151, 3) := by decide +kernel
theorem dX12_town_28 : decode cX12_town 28 = .ok (.ifCond .ne 5, 3) := by decide +kernel
theorem dX12_town_31 : decode cX12_town 31 = .ok (.iconst 0, 1) := by decide +kernel
theorem dX12_town_32 : decode cX12_town 32 = .ok (.ireturn, 1) := by decide +kernel
theorem dX12_town_33 : decode cX12_town 33 = .ok (.aload_n 0, 1) := by decide +kernel
theorem dX12_town_34 : decode cX12_town 34 = .ok (.getfield 134, 3) := by decide +kernel
theorem dX12_town_37 : decode cX12_town 37 = .ok (.istore_n 1, 1) := by decide +kernel
theorem dX12_town_38 : decode cX12_town 38 = .ok (.iconst 0, 1) := by decide +kernel
theorem dX12_town_39 : decode cX12_town 39 = .ok (.istore_n 2, 1) := by decide +kernel
theorem dX12_town_40 : decode cX12_town 40 = .ok (.iconst 0, 1) := by decide +kernel
theorem dX12_town_41 : decode cX12_town 41 = .ok (.istore_n 3, 1) := by decide +kernel
theorem dX12_town_42 : decode cX12_town 42 = .ok (.iconst 1, 1) := by decide +kernel
theorem dX12_town_43 : decode cX12_town 43 = .ok (.istore 4, 2) := by decide +kernel
theorem dX12_town_45 : decode cX12_town 45 = .ok (.iload 4, 2) := by decide +kernel
theorem dX12_town_47 : decode cX12_town 47 = .ok (.ifCond .eq 159, 3) := by decide +kernel
theorem dX12_town_50 : decode cX12_town 50 = .ok (.aload_n 0, 1) := by decide +kernel
theorem dX12_town_51 : decode cX12_town 51 = .ok (.invokevirtual 163, 3) := by decide +kernel
theorem dX12_town_54 : decode cX12_town 54 = .ok (.ifCond .eq 152, 3) := by decide +kernel
theorem dX12_town_57 : decode cX12_town 57 = .ok (.aload_n 0, 1) := by decide +kernel
theorem dX12_town_58 : decode cX12_town 58 = .ok (.bipush 100, 2) := by decide +kernel
theorem dX12_town_60 : decode cX12_town 60 = .ok (.invokevirtual 171, 3) := by decide +kernel
theorem dX12_town_63 : decode cX12_town 63 = .ok (.ifCond .eq 104, 3) := by decide +kernel
theorem dX12_town_66 : decode cX12_town 66 = .ok (.aload_n 0, 1) := by decide +kernel
theorem dX12_town_67 : decode cX12_town 67 = .ok (.iconst 1, 1) := by decide +kernel
theorem dX12_town_68 : decode cX12_town 68 = .ok (.iconst 0, 1) := by decide +kernel
theorem dX12_town_69 : decode cX12_town 69 = .ok (.iconst 5, 1) := by decide +kernel
theorem dX12_town_70 : decode cX12_town 70 = .ok (.invokevirtual 183, 3) := by decide +kernel
theorem dX12_town_73 : decode cX12_town 73 = .ok (.istore 5, 2) := by decide +kernel
theorem dX12_town_75 : decode cX12_town 75 = .ok (.aload_n 0, 1) := by decide +kernel
theorem dX12_town_76 : decode cX12_town 76 = .ok (.bipush 62, 2) := by decide +kernel
theorem dX12_town_78 : decode cX12_town 78 = .ok (.invokevirtual 187, 3) := by decide +kernel
theorem dX12_town_81 : decode cX12_town 81 = .ok (.aload_n 0, 1) := by decide +kernel
theorem dX12_town_82 : decode cX12_town 82 = .ok (.iconst 1, 1) := by decide +kernel
theorem dX12_town_83 : decode cX12_town 83 = .ok (.iconst 0, 1) := by decide +kernel
theorem dX12_town_84 : decode cX12_town 84 = .ok (.iconst 5, 1) := by decide +kernel
theorem dX12_town_85 : decode cX12_town 85 = .ok (.invokevirtual 183, 3) := by decide +kernel
theorem dX12_town_88 : decode cX12_town 88 = .ok (.istore 6, 2) := by decide +kernel
theorem dX12_town_90 : decode cX12_town 90 = .ok (.aload_n 0, 1) := by decide +kernel
theorem dX12_town_91 : decode cX12_town 91 = .ok (.invokevirtual 163, 3) := by decide +kernel
theorem dX12_town_94 : decode cX12_town 94 = .ok (.ifCond .eq 20, 3) := by decide +kernel
theorem dX12_town_97 : decode cX12_town 97 = .ok (.iload 5, 2) := by decide +kernel
theorem dX12_town_99 : decode cX12_town 99 = .ok (.iload 6, 2) := by decide +kernel
theorem dX12_town_101 : decode cX12_town 101 = .ok (.if_icmp .ne 13, 3) := by decide +kernel
theorem dX12_town_104 : decode cX12_town 104 = .ok (.aload_n 0, 1) := by decide +kernel
theorem dX12_town_105 : decode cX12_town 105 = .ok (.aload_n 0, 1) := by decide +kernel
theorem dX12_town_106 : decode cX12_town 106 = .ok (.getfield 157, 3) := by decide +kernel
theorem dX12_town_109 : decode cX12_town 109 = .ok (.iconst 1, 1) := by decide +kernel
theorem dX12_town_110 : decode cX12_town 110 = .ok (.isub, 1) := by decide +kernel
theorem dX12_town_111 : decode cX12_town 111 = .ok (.invokevirtual 175, 3) := by decide +kernel
theorem dX12_town_114 : decode cX12_town 114 = .ok (.aload_n 0, 1) := by decide +kernel
theorem dX12_town_115 : decode cX12_town 115 = .ok (.bipush 42, 2) := by decide +kernel
theorem dX12_town_117 : decode cX12_town 117 = .ok (.invokevirtual 187, 3) := by decide +kernel
theorem dX12_town_120 : decode cX12_town 120 = .ok (.aload_n 0, 1) := by decide +kernel
theorem dX12_town_121 : decode cX12_town 121 = .ok (.getfield 48, 3) := by decide +kernel
theorem dX12_town_124 : decode cX12_town 124 = .ok (.iconst 3, 1) := by decide +kernel
theorem dX12_town_125 : decode cX12_town 125 = .ok (.iload_n 2, 1) := by decide +kernel
theorem dX12_town_126 : decode cX12_town 126 = .ok (.imul, 1) := by decide +kernel
theorem dX12_town_127 : decode cX12_town 127 = .ok (.iload 5, 2) := by decide +kernel
theorem dX12_town_129 : decode cX12_town 129 = .ok (.iastore, 1) := by decide +kernel
theorem dX12_town_130 : decode cX12_town 130 = .ok (.aload_n 0, 1) := by decide +kernel
theorem dX12_town_131 : decode cX12_town 131 = .ok (.getfield 48, 3) := by decide +kernel
theorem dX12_town_134 : decode cX12_town 134 = .ok (.iconst 3, 1) := by decide +kernel
theorem dX12_town_135 : decode cX12_town 135 = .ok (.iload_n 2, 1) := by decide +kernel
theorem dX12_town_136 : decode cX12_town 136 = .ok (.imul, 1) := by decide +kernel
theorem dX12_town_137 : decode cX12_town 137 = .ok (.iconst 1, 1) := by decide +kernel
theorem dX12_town_138 : decode cX12_town 138 = .ok (.iadd, 1) := by decide +kernel
theorem dX12_town_139 : decode cX12_town 139 = .ok (.iload 6, 2) := by decide +kernel
theorem dX12_town_141 : decode cX12_town 141 = .ok (.iastore, 1) := by decide +kernel
theorem dX12_town_142 : decode cX12_town 142 = .ok (.aload_n 0, 1) := by decide +kernel
theorem dX12_town_143 : decode cX12_town 143 = .ok (.getfield 48, 3) := by decide +kernel
theorem dX12_town_146 : decode cX12_town 146 = .ok (.iconst 3, 1) := by decide +kernel
theorem dX12_town_147 : decode cX12_town 147 = .ok (.iload_n 2, 1) := by decide +kernel
theorem dX12_town_148 : decode cX12_town 148 = .ok (.imul, 1) := by decide +kernel
theorem dX12_town_149 : decode cX12_town 149 = .ok (.iconst 2, 1) := by decide +kernel
theorem dX12_town_150 : decode cX12_town 150 = .ok (.iadd, 1) := by decide +kernel
theorem dX12_town_151 : decode cX12_town 151 = .ok (.aload_n 0, 1) := by decide +kernel
theorem dX12_town_152 : decode cX12_town 152 = .ok (.iconst 3, 1) := by decide +kernel
theorem dX12_town_153 : decode cX12_town 153 = .ok (.iconst 0, 1) := by decide +kernel
theorem dX12_town_154 : decode cX12_town 154 = .ok (.sipush 999, 3) := by decide +kernel
theorem dX12_town_157 : decode cX12_town 157 = .ok (.invokevirtual 183, 3) := by decide +kernel
theorem dX12_town_160 : decode cX12_town 160 = .ok (.iastore, 1) := by decide +kernel
theorem dX12_town_161 : decode cX12_town 161 = .ok (.iinc 2 1, 3) := by decide +kernel
theorem dX12_town_164 : decode cX12_town 164 = .ok (.goto 28, 3) := by decide +kernel
theorem dX12_town_167 : decode cX12_town 167 = .ok (.iload_n 1, 1) := by decide +kernel
theorem dX12_town_168 : decode cX12_town 168 = .ok (.bipush 9, 2) := by decide +kernel
theorem dX12_town_170 : decode cX12_town 170 = .ok (.if_icmp .ne 14, 3) := by decide +kernel
theorem dX12_town_173 : decode cX12_town 173 = .ok (.aload_n 0, 1) := by decide +kernel
theorem dX12_town_174 : decode cX12_town 174 = .ok (.aload_n 0, 1) := by decide +kernel
theorem dX12_town_175 : decode cX12_town 175 = .ok (.getfield 157, 3) := by decide +kernel
theorem dX12_town_178 : decode cX12_town 178 = .ok (.invokevirtual 175, 3) := by decide +kernel
theorem dX12_town_181 : decode cX12_town 181 = .ok (.goto 11, 3) := by decide +kernel
theorem dX12_town_184 : decode cX12_town 184 = .ok (.aload_n 0, 1) := by decide +kernel
theorem dX12_town_185 : decode cX12_town 185 = .ok (.iload_n 1, 1) := by decide +kernel
theorem dX12_town_186 : decode cX12_town 186 = .ok (.invokevirtual 191, 3) := by decide +kernel
theorem dX12_town_189 : decode cX12_town 189 = .ok (.iinc 1 1, 3) := by decide +kernel
theorem dX12_town_192 : decode cX12_town 192 = .ok (.iinc 3 1, 3) := by decide +kernel
theorem dX12_town_195 : decode cX12_town 195 = .ok (.aload_n 0, 1) := by decide +kernel
theorem dX12_town_196 : decode cX12_town 196 = .ok (.bipush 59, 2) := by decide +kernel
theorem dX12_town_198 : decode cX12_town 198 = .ok (.invokevirtual 171, 3) := by decide +kernel
theorem dX12_town_201 : decode cX12_town 201 = .ok (.istore 4, 2) := by decide +kernel
theorem dX12_town_203 : decode cX12_town 203 = .ok (.goto (-158), 3) := by decide +kernel
theorem dX12_town_206 : decode cX12_town 206 = .ok (.aload_n 0, 1) := by decide +kernel
theorem dX12_town_207 : decode cX12_town 207 = .ok (.getfield 157, 3) := by decide +kernel
theorem dX12_town_210 : decode cX12_town 210 = .ok (.aload_n 0, 1) := by decide +kernel
theorem dX12_town_211 : decode cX12_town 211 = .ok (.getfield 151, 3) := by decide +kernel
theorem dX12_town_214 : decode cX12_town 214 = .ok (.if_icmp .ge 11, 3) := by decide +kernel
theorem dX12_town_217 : decode cX12_town 217 = .ok (.aload_n 0, 1) := by decide +kernel
theorem dX12_town_218 : decode cX12_town 218 = .ok (.aload_n 0, 1) := by decide +kernel
theorem dX12_town_219 : decode cX12_town 219 = .ok (.getfield 157, 3) := by decide +kernel
theorem dX12_town_222 : decode cX12_town 222 = .ok (.invokevirtual 175, 3) := by decide +kernel
theorem dX12_town_225 : decode cX12_town 225 = .ok (.aload_n 0, 1) := by decide +kernel
theorem dX12_town_226 : decode cX12_town 226 = .ok (.invokevirtual 163, 3) := by decide +kernel
theorem dX12_town_229 : decode cX12_town 229 = .ok (.ifCond .ne 10, 3) := by decide +kernel
theorem dX12_town_232 : decode cX12_town 232 = .ok (.iconst (-1), 1) := by decide +kernel
theorem dX12_town_233 : decode cX12_town 233 = .ok (.aload_n 0, 1) := by decide +kernel
theorem dX12_town_234 : decode cX12_town 234 = .ok (.getfield 160, 3) := by decide +kernel
theorem dX12_town_237 : decode cX12_town 237 = .ok (.isub, 1) := by decide +kernel
theorem dX12_town_238 : decode cX12_town 238 = .ok (.ireturn, 1) := by decide +kernel
theorem dX12_town_239 : decode cX12_town 239 = .ok (.aload_n 0, 1) := by decide +kernel
theorem dX12_town_240 : decode cX12_town 240 = .ok (.getfield 134, 3) := by decide +kernel
theorem dX12_town_243 : decode cX12_town 243 = .ok (.istore 5, 2) := by decide +kernel
theorem dX12_town_245 : decode cX12_town 245 = .ok (.iload 5, 2) := by decide +kernel
theorem dX12_town_247 : decode cX12_town 247 = .ok (.iload_n 1, 1) := by decide +kernel
theorem dX12_town_248 : decode cX12_town 248 = .ok (.if_icmp .ge 53, 3) := by decide +kernel
theorem dX12_town_251 : decode cX12_town 251 = .ok (.aload_n 0, 1) := by decide +kernel
theorem dX12_town_252 : decode cX12_town 252 = .ok (.getfield 28, 3) := by decide +kernel
theorem dX12_town_255 : decode cX12_town 255 = .ok (.iload 5, 2) := by decide +kernel
theorem dX12_town_257 : decode cX12_town 257 = .ok (.iconst 0, 1) := by decide +kernel
theorem dX12_town_258 : decode cX12_town 258 = .ok (.iastore, 1) := by decide +kernel
theorem dX12_town_259 : decode cX12_town 259 = .ok (.iconst 0, 1) := by decide +kernel
theorem dX12_town_260 : decode cX12_town 260 = .ok (.istore 6, 2) := by decide +kernel
theorem dX12_town_262 : decode cX12_town 262 = .ok (.iload 6, 2) := by decide +kernel
theorem dX12_town_264 : decode cX12_town 264 = .ok (.bipush 60, 2) := by decide +kernel
theorem dX12_town_266 : decode cX12_town 266 = .ok (.if_icmp .ge 29, 3) := by decide +kernel
theorem dX12_town_269 : decode cX12_town 269 = .ok (.aload_n 0, 1) := by decide +kernel
theorem dX12_town_270 : decode cX12_town 270 = .ok (.getfield 31, 3) := by decide +kernel
theorem dX12_town_273 : decode cX12_town 273 = .ok (.bipush 60, 2) := by decide +kernel
theorem dX12_town_275 : decode cX12_town 275 = .ok (.iload 5, 2) := by decide +kernel
theorem dX12_town_277 : decode cX12_town 277 = .ok (.imul, 1) := by decide +kernel
theorem dX12_town_278 : decode cX12_town 278 = .ok (.iload 6, 2) := by decide +kernel
theorem dX12_town_280 : decode cX12_town 280 = .ok (.iadd, 1) := by decide +kernel
theorem dX12_town_281 : decode cX12_town 281 = .ok (.aload_n 0, 1) := by decide +kernel
theorem dX12_town_282 : decode cX12_town 282 = .ok (.getfield 19, 3) := by decide +kernel
theorem dX12_town_285 : decode cX12_town 285 = .ok (.iload 5, 2) := by decide +kernel
theorem dX12_town_287 : decode cX12_town 287 = .ok (.iaload, 1) := by decide +kernel
theorem dX12_town_288 : decode cX12_town 288 = .ok (.iastore, 1) := by decide +kernel
theorem dX12_town_289 : decode cX12_town 289 = .ok (.iinc 6 1, 3) := by decide +kernel
theorem dX12_town_292 : decode cX12_town 292 = .ok (.goto (-30), 3) := by decide +kernel
theorem dX12_town_295 : decode cX12_town 295 = .ok (.iinc 5 1, 3) := by decide +kernel
theorem dX12_town_298 : decode cX12_town 298 = .ok (.goto (-53), 3) := by decide +kernel
theorem dX12_town_301 : decode cX12_town 301 = .ok (.iload_n 1, 1) := by decide +kernel
theorem dX12_town_302 : decode cX12_town 302 = .ok (.aload_n 0, 1) := by decide +kernel
theorem dX12_town_303 : decode cX12_town 303 = .ok (.getfield 134, 3) := by decide +kernel
theorem dX12_town_306 : decode cX12_town 306 = .ok (.if_icmp .le 13, 3) := by decide +kernel
theorem dX12_town_309 : decode cX12_town 309 = .ok (.aload_n 0, 1) := by decide +kernel
theorem dX12_town_310 : decode cX12_town 310 = .ok (.dup, 1) := by decide +kernel
theorem dX12_town_311 : decode cX12_town 311 = .ok (.getfield 194, 3) := by decide +kernel
theorem dX12_town_314 : decode cX12_town 314 = .ok (.iconst 1, 1) := by decide +kernel
theorem dX12_town_315 : decode cX12_town 315 = .ok (.iadd, 1) := by decide +kernel
theorem dX12_town_316 : decode cX12_town 316 = .ok (.putfield 194, 3) := by decide +kernel
theorem dX12_town_319 : decode cX12_town 319 = .ok (.aload_n 0, 1) := by decide +kernel
theorem dX12_town_320 : decode cX12_town 320 = .ok (.iload_n 1, 1) := by decide +kernel
theorem dX12_town_321 : decode cX12_town 321 = .ok (.putfield 134, 3) := by decide +kernel
theorem dX12_town_324 : decode cX12_town 324 = .ok (.iconst 0, 1) := by decide +kernel
theorem dX12_town_325 : decode cX12_town 325 = .ok (.istore 5, 2) := by decide +kernel
theorem dX12_town_327 : decode cX12_town 327 = .ok (.iload 5, 2) := by decide +kernel
theorem dX12_town_329 : decode cX12_town 329 = .ok (.iload_n 2, 1) := by decide +kernel
theorem dX12_town_330 : decode cX12_town 330 = .ok (.if_icmp .ge 49, 3) := by decide +kernel
theorem dX12_town_333 : decode cX12_town 333 = .ok (.aload_n 0, 1) := by decide +kernel
theorem dX12_town_334 : decode cX12_town 334 = .ok (.getfield 34, 3) := by decide +kernel
theorem dX12_town_337 : decode cX12_town 337 = .ok (.bipush 6, 2) := by decide +kernel
theorem dX12_town_339 : decode cX12_town 339 = .ok (.aload_n 0, 1) := by decide +kernel
theorem dX12_town_340 : decode cX12_town 340 = .ok (.getfield 48, 3) := by decide +kernel
theorem dX12_town_343 : decode cX12_town 343 = .ok (.iconst 3, 1) := by decide +kernel
theorem dX12_town_344 : decode cX12_town 344 = .ok (.iload 5, 2) := by decide +kernel
theorem dX12_town_346 : decode cX12_town 346 = .ok (.imul, 1) := by decide +kernel
theorem dX12_town_347 : decode cX12_town 347 = .ok (.iaload, 1) := by decide +kernel
theorem dX12_town_348 : decode cX12_town 348 = .ok (.imul, 1) := by decide +kernel
theorem dX12_town_349 : decode cX12_town 349 = .ok (.aload_n 0, 1) := by decide +kernel
theorem dX12_town_350 : decode cX12_town 350 = .ok (.getfield 48, 3) := by decide +kernel
theorem dX12_town_353 : decode cX12_town 353 = .ok (.iconst 3, 1) := by decide +kernel
theorem dX12_town_354 : decode cX12_town 354 = .ok (.iload 5, 2) := by decide +kernel
theorem dX12_town_356 : decode cX12_town 356 = .ok (.imul, 1) := by decide +kernel
theorem dX12_town_357 : decode cX12_town 357 = .ok (.iconst 1, 1) := by decide +kernel
theorem dX12_town_358 : decode cX12_town 358 = .ok (.iadd, 1) := by decide +kernel
theorem dX12_town_359 : decode cX12_town 359 = .ok (.iaload, 1) := by decide +kernel
theorem dX12_town_360 : decode cX12_town 360 = .ok (.iadd, 1) := by decide +kernel
theorem dX12_town_361 : decode cX12_town 361 = .ok (.aload_n 0, 1) := by decide +kernel
theorem dX12_town_362 : decode cX12_town 362 = .ok (.getfield 48, 3) := by decide +kernel
theorem dX12_town_365 : decode cX12_town 365 = .ok (.iconst 3, 1) := by decide +kernel
theorem dX12_town_366 : decode cX12_town 366 = .ok (.iload 5, 2) := by decide +kernel
theorem dX12_town_368 : decode cX12_town 368 = .ok (.imul, 1) := by decide +kernel
theorem dX12_town_369 : decode cX12_town 369 = .ok (.iconst 2, 1) := by decide +kernel
theorem dX12_town_370 : decode cX12_town 370 = .ok (.iadd, 1) := by decide +kernel
theorem dX12_town_371 : decode cX12_town 371 = .ok (.iaload, 1) := by decide +kernel
theorem dX12_town_372 : decode cX12_town 372 = .ok (.iastore, 1) := by decide +kernel
theorem dX12_town_373 : decode cX12_town 373 = .ok (.iinc 5 1, 3) := by decide +kernel
theorem dX12_town_376 : decode cX12_town 376 = .ok (.goto (-49), 3) := by decide +kernel
theorem dX12_town_379 : decode cX12_town 379 = .ok (.aload_n 0, 1) := by decide +kernel
theorem dX12_town_380 : decode cX12_town 380 = .ok (.iconst 0, 1) := by decide +kernel
theorem dX12_town_381 : decode cX12_town 381 = .ok (.putfield 197, 3) := by decide +kernel
theorem dX12_town_384 : decode cX12_town 384 = .ok (.iload_n 3, 1) := by decide +kernel
theorem dX12_town_385 : decode cX12_town 385 = .ok (.ireturn, 1) := by decide +kernel
theorem bkX12_town_0 {b : Int} {mem : qm} {Q : Int → qm → Prop}
    {P1 : Int → qm → Prop}
    (l1 : q_Ev yX12_begin cX12_begin 4 none 1 0 0 [(2, 188), (2, 198), (0, (mem 188 14)), (0, 76)] (q_sh0, q_rb b, (q_up mem 188 17 0)) (qK (q_rb 198) (P1)))
    (l2 : ∀ (r1 : Int), ∀ (m1 : qm), P1 r1 m1 → q_in32 r1 → (m1 188 19) ≠ 0 → q_At yX12_town cX12_town 7 (some .int) 5 0 0 (qK (q_rb 198) Q) 45 [(2, 188), (0, (m1 188 0)), (0, 0), (0, 0), (0, 1), (4, 0), (4, 0)] [] (q_sh0, q_rb 198, (q_up m1 188 14 0)))
    (l3 : ∀ (r1 : Int), ∀ (m1 : qm), P1 r1 m1 → q_in32 r1 → (m1 188 19) = 0 → Q 0 (q_up m1 188 14 0)) :
    q_At yX12_town cX12_town 7 (some .int) 5 0 0 (qK (q_rb 198) Q) 0 [(2, 188), (4, 0), (4, 0), (4, 0), (4, 0), (4, 0), (4, 0)] [] (q_sh0, q_rb b, mem) := by
  refine q_aload_n dX12_town_0 rfl rfl ?_
  refine qx_iconst dX12_town_1 rfl rfl ?_
  refine q_putI (ci := 12) (k := 17) (kI := 17) (ty := .int) dX12_town_2 rfl (by decide) rfl tw1200 rfl rfl rfl (fun _ => ⟨rfl, rfl⟩) qs188 ?_
  refine q_aload_n dX12_town_5 rfl rfl ?_
  refine q_aload_n dX12_town_6 rfl rfl ?_
  refine q_getR (ci := 12) (k := 13) dX12_town_7 rfl (by decide) rfl tw1196 (by decide) qs188 qw188_13 (by decide) ?_
  refine q_aload_n dX12_town_10 rfl rfl ?_
  refine qx_getI (ci := 12) (k := 14) (v := (mem 188 14)) dX12_town_11 rfl rfl rfl tw1197 rfl qs188 (q_up_i (by decide)) ?_
  refine qx_bipush dX12_town_14 rfl rfl ?_
  refine qx_invV (ci := 12) [(2, 198), (0, (mem 188 14)), (0, 76)] [(0, 76), (0, (mem 188 14)), (2, 198), (2, 188)] rfl qM_X12_begin dX12_town_16 tw1369 rfl qs188 rfl rfl rfl rfl (l1) (fun r1 m1 p1 q1 => ?_)
  refine q_aload_n dX12_town_19 rfl rfl ?_
  refine qx_iconst dX12_town_20 rfl rfl ?_
  refine q_putI (ci := 12) (k := 14) (kI := 14) (ty := .int) dX12_town_21 rfl (by decide) rfl tw1197 rfl rfl rfl (fun _ => ⟨rfl, rfl⟩) qs188 ?_
  refine q_aload_n dX12_town_24 rfl rfl ?_
  refine qx_getI (ci := 12) (k := 19) (v := (m1 188 19)) dX12_town_25 rfl rfl rfl tw1202 rfl qs188 (q_up_i (by decide)) ?_
  refine qx_if_ne (tgt := 33) dX12_town_28 (by decide) (fun c2 => ?_) (fun c2 => ?_)
  · skip
    refine q_aload_n dX12_town_33 rfl rfl ?_
    refine qx_getI (ci := 12) (k := 0) (v := (m1 188 0)) dX12_town_34 rfl rfl rfl tw1183 rfl qs188 (q_up_i (by decide)) ?_
    refine qx_istore_n (L' := [(2, 188), (0, (m1 188 0)), (4, 0), (4, 0), (4, 0), (4, 0), (4, 0)]) dX12_town_37 rfl rfl rfl rfl ?_
    refine qx_iconst dX12_town_38 rfl rfl ?_
    refine qx_istore_n (L' := [(2, 188), (0, (m1 188 0)), (0, 0), (4, 0), (4, 0), (4, 0), (4, 0)]) dX12_town_39 rfl rfl rfl rfl ?_
    refine qx_iconst dX12_town_40 rfl rfl ?_
    refine qx_istore_n (L' := [(2, 188), (0, (m1 188 0)), (0, 0), (0, 0), (4, 0), (4, 0), (4, 0)]) dX12_town_41 rfl rfl rfl rfl ?_
    refine qx_iconst dX12_town_42 rfl rfl ?_
    refine qx_istore (L' := [(2, 188), (0, (m1 188 0)), (0, 0), (0, 0), (0, 1), (4, 0), (4, 0)]) dX12_town_43 rfl rfl rfl ?_
    exact l2 r1 m1 p1 q1 c2
  · skip
    refine qx_iconst dX12_town_31 rfl rfl ?_
    exact q_iret dX12_town_32 (qK_i (l3 r1 m1 p1 q1 c2))
theorem bkX12_town_45 {b : Int} {mem : qm} {Q : Int → qm → Prop}
    {v1 v2 v3 v4 : Int}
    (l1 : v4 = 0 → q_At yX12_town cX12_town 7 (some .int) 5 0 0 (qK (q_rb 198) Q) 206 [(2, 188), (0, v1), (0, v2), (0, v3), (0, v4), (4, 0), (4, 0)] [] (q_sh0, q_rb 198, mem))
    {P3 : Int → qm → Prop}
    (l2 : v4 ≠ 0 → ((mem 188 22) = -1) → q_Ev yX12_passes cX12_passes 2 (some .boolean) 2 0 0 [(2, 188), (0, 100)] (q_sh0, q_rb 198, mem) (qK (q_rb 198) (P3)))
    {P6 : Int → qm → Int → qm → Prop}
    (l3 : v4 ≠ 0 → ((mem 188 22) = -1) → ∀ (r3 : Int), ∀ (m3 : qm), P3 r3 m3 → q_in32 r3 → r3 = 0 → v1 ≠ 9 → q_Ev yX12_readJar cX12_readJar 3 none 4 0 0 [(2, 188), (0, v1)] (q_sh0, q_rb 198, m3) (qK (q_rb 198) (P6 r3 m3)))
    (o4 : v4 ≠ 0 → ((mem 188 22) = -1) → ∀ (r3 : Int), ∀ (m3 : qm), P3 r3 m3 → q_in32 r3 → r3 = 0 → v1 ≠ 9 → ∀ (r6 : Int), ∀ (m6 : qm), P6 r3 m3 r6 m6 → q_in32 r6 → q_in32 (v1 + 1))
    (l5 : v4 ≠ 0 → ((mem 188 22) = -1) → ∀ (r3 : Int), ∀ (m3 : qm), P3 r3 m3 → q_in32 r3 → r3 = 0 → v1 ≠ 9 → ∀ (r6 : Int), ∀ (m6 : qm), P6 r3 m3 r6 m6 → q_in32 r6 → q_At yX12_town cX12_town 7 (some .int) 5 0 0 (qK (q_rb 198) Q) 192 [(2, 188), (0, (v1 + 1)), (0, v2), (0, v3), (0, v4), (4, 0), (4, 0)] [] (q_sh0, q_rb 198, m6))
    {P7 : Int → qm → Int → qm → Prop}
    (l6 : v4 ≠ 0 → ((mem 188 22) = -1) → ∀ (r3 : Int), ∀ (m3 : qm), P3 r3 m3 → q_in32 r3 → r3 = 0 → v1 = 9 → q_Ev yX12_fault cX12_fault 2 none 2 0 0 [(2, 188), (0, (m3 188 21))] (q_sh0, q_rb 198, m3) (qK (q_rb 198) (P7 r3 m3)))
    (l7 : v4 ≠ 0 → ((mem 188 22) = -1) → ∀ (r3 : Int), ∀ (m3 : qm), P3 r3 m3 → q_in32 r3 → r3 = 0 → v1 = 9 → ∀ (r7 : Int), ∀ (m7 : qm), P7 r3 m3 r7 m7 → q_in32 r7 → q_At yX12_town cX12_town 7 (some .int) 5 0 0 (qK (q_rb 198) Q) 192 [(2, 188), (0, v1), (0, v2), (0, v3), (0, v4), (4, 0), (4, 0)] [] (q_sh0, q_rb 198, m7))
    {P8 : Int → qm → Int → qm → Prop}
    (l8 : v4 ≠ 0 → ((mem 188 22) = -1) → ∀ (r3 : Int), ∀ (m3 : qm), P3 r3 m3 → q_in32 r3 → r3 ≠ 0 → q_Ev yX12_number cX12_number 6 (some .int) 3 0 0 [(2, 188), (0, 1), (0, 0), (0, 5)] (q_sh0, q_rb 198, m3) (qK (q_rb 198) (P8 r3 m3)))
    {P9 : Int → qm → Int → qm → Int → qm → Prop}
    (l9 : v4 ≠ 0 → ((mem 188 22) = -1) → ∀ (r3 : Int), ∀ (m3 : qm), P3 r3 m3 → q_in32 r3 → r3 ≠ 0 → ∀ (r8 : Int), ∀ (m8 : qm), P8 r3 m3 r8 m8 → q_in32 r8 → q_Ev yX12_need cX12_need 2 none 3 0 0 [(2, 188), (0, 62)] (q_sh0, q_rb 198, m8) (qK (q_rb 198) (P9 r3 m3 r8 m8)))
    {P10 : Int → qm → Int → qm → Int → qm → Int → qm → Prop}
    (l10 : v4 ≠ 0 → ((mem 188 22) = -1) → ∀ (r3 : Int), ∀ (m3 : qm), P3 r3 m3 → q_in32 r3 → r3 ≠ 0 → ∀ (r8 : Int), ∀ (m8 : qm), P8 r3 m3 r8 m8 → q_in32 r8 → ∀ (r9 : Int), ∀ (m9 : qm), P9 r3 m3 r8 m8 r9 m9 → q_in32 r9 → q_Ev yX12_number cX12_number 6 (some .int) 3 0 0 [(2, 188), (0, 1), (0, 0), (0, 5)] (q_sh0, q_rb 198, m9) (qK (q_rb 198) (P10 r3 m3 r8 m8 r9 m9)))
    (l11 : v4 ≠ 0 → ((mem 188 22) = -1) → ∀ (r3 : Int), ∀ (m3 : qm), P3 r3 m3 → q_in32 r3 → r3 ≠ 0 → ∀ (r8 : Int), ∀ (m8 : qm), P8 r3 m3 r8 m8 → q_in32 r8 → ∀ (r9 : Int), ∀ (m9 : qm), P9 r3 m3 r8 m8 r9 m9 → q_in32 r9 → ∀ (r10 : Int), ∀ (m10 : qm), P10 r3 m3 r8 m8 r9 m9 r10 m10 → q_in32 r10 → ((m10 188 22) = -1) → r8 ≠ r10 → q_At yX12_town cX12_town 7 (some .int) 5 0 0 (qK (q_rb 198) Q) 114 [(2, 188), (0, v1), (0, v2), (0, v3), (0, v4), (0, r8), (0, r10)] [] (q_sh0, q_rb 198, m10))
    (o12 : v4 ≠ 0 → ((mem 188 22) = -1) → ∀ (r3 : Int), ∀ (m3 : qm), P3 r3 m3 → q_in32 r3 → r3 ≠ 0 → ∀ (r8 : Int), ∀ (m8 : qm), P8 r3 m3 r8 m8 → q_in32 r8 → ∀ (r9 : Int), ∀ (m9 : qm), P9 r3 m3 r8 m8 r9 m9 → q_in32 r9 → ∀ (r10 : Int), ∀ (m10 : qm), P10 r3 m3 r8 m8 r9 m9 r10 m10 → q_in32 r10 → ((m10 188 22) = -1) → r8 = r10 → q_in32 ((m10 188 21) - 1))
    {P13 : Int → qm → Int → qm → Int → qm → Int → qm → Int → qm → Prop}
    (l13 : v4 ≠ 0 → ((mem 188 22) = -1) → ∀ (r3 : Int), ∀ (m3 : qm), P3 r3 m3 → q_in32 r3 → r3 ≠ 0 → ∀ (r8 : Int), ∀ (m8 : qm), P8 r3 m3 r8 m8 → q_in32 r8 → ∀ (r9 : Int), ∀ (m9 : qm), P9 r3 m3 r8 m8 r9 m9 → q_in32 r9 → ∀ (r10 : Int), ∀ (m10 : qm), P10 r3 m3 r8 m8 r9 m9 r10 m10 → q_in32 r10 → ((m10 188 22) = -1) → r8 = r10 → q_Ev yX12_fault cX12_fault 2 none 2 0 0 [(2, 188), (0, ((m10 188 21) - 1))] (q_sh0, q_rb 198, m10) (qK (q_rb 198) (P13 r3 m3 r8 m8 r9 m9 r10 m10)))
    (l14 : v4 ≠ 0 → ((mem 188 22) = -1) → ∀ (r3 : Int), ∀ (m3 : qm), P3 r3 m3 → q_in32 r3 → r3 ≠ 0 → ∀ (r8 : Int), ∀ (m8 : qm), P8 r3 m3 r8 m8 → q_in32 r8 → ∀ (r9 : Int), ∀ (m9 : qm), P9 r3 m3 r8 m8 r9 m9 → q_in32 r9 → ∀ (r10 : Int), ∀ (m10 : qm), P10 r3 m3 r8 m8 r9 m9 r10 m10 → q_in32 r10 → ((m10 188 22) = -1) → r8 = r10 → ∀ (r13 : Int), ∀ (m13 : qm), P13 r3 m3 r8 m8 r9 m9 r10 m10 r13 m13 → q_in32 r13 → q_At yX12_town cX12_town 7 (some .int) 5 0 0 (qK (q_rb 198) Q) 114 [(2, 188), (0, v1), (0, v2), (0, v3), (0, v4), (0, r8), (0, r10)] [] (q_sh0, q_rb 198, m13))
    (l15 : v4 ≠ 0 → ((mem 188 22) = -1) → ∀ (r3 : Int), ∀ (m3 : qm), P3 r3 m3 → q_in32 r3 → r3 ≠ 0 → ∀ (r8 : Int), ∀ (m8 : qm), P8 r3 m3 r8 m8 → q_in32 r8 → ∀ (r9 : Int), ∀ (m9 : qm), P9 r3 m3 r8 m8 r9 m9 → q_in32 r9 → ∀ (r10 : Int), ∀ (m10 : qm), P10 r3 m3 r8 m8 r9 m9 r10 m10 → q_in32 r10 → ¬ ((m10 188 22) = -1) → q_At yX12_town cX12_town 7 (some .int) 5 0 0 (qK (q_rb 198) Q) 114 [(2, 188), (0, v1), (0, v2), (0, v3), (0, v4), (0, r8), (0, r10)] [] (q_sh0, q_rb 198, m10))
    (l16 : v4 ≠ 0 → ¬ ((mem 188 22) = -1) → q_At yX12_town cX12_town 7 (some .int) 5 0 0 (qK (q_rb 198) Q) 206 [(2, 188), (0, v1), (0, v2), (0, v3), (0, v4), (4, 0), (4, 0)] [] (q_sh0, q_rb 198, mem)) :
    q_At yX12_town cX12_town 7 (some .int) 5 0 0 (qK (q_rb 198) Q) 45 [(2, 188), (0, v1), (0, v2), (0, v3), (0, v4), (4, 0), (4, 0)] [] (q_sh0, q_rb 198, mem) := by
  refine q_iload dX12_town_45 rfl ?_
  refine qx_if_eq (tgt := 206) dX12_town_47 (by decide) (fun c1 => ?_) (fun c1 => ?_)
  · skip
    exact l1 c1
  · skip
    refine q_aload_n dX12_town_50 rfl rfl ?_
    refine qx_invV (ci := 12) [] [(2, 188)] rfl qM_X12_fine dX12_town_51 tw1373 rfl qs188 rfl rfl rfl rfl (spX12_fine) (fun r2 m2 p2 q2 => ?_)
    obtain ⟨p2e, ⟨p2f, p2⟩ | ⟨p2f, p2⟩⟩ := p2
    · rw [p2e, p2f]
      refine qx_if_eq (tgt := 206) dX12_town_54 (by decide) (fun z => absurd z (by decide)) (fun _ => ?_)
      refine q_aload_n dX12_town_57 rfl rfl ?_
      refine qx_bipush dX12_town_58 rfl rfl ?_
      refine qx_invV (ci := 12) [(0, 100)] [(0, 100), (2, 188)] rfl qM_X12_passes dX12_town_60 tw1377 rfl qs188 rfl rfl rfl rfl (l2 c1 p2) (fun r3 m3 p3 q3 => ?_)
      refine qx_if_eq (tgt := 167) dX12_town_63 (by decide) (fun c4 => ?_) (fun c4 => ?_)
      · skip
        refine q_iload_n dX12_town_167 rfl rfl ?_
        refine qx_bipush dX12_town_168 rfl rfl ?_
        refine qx_icmp_ne (tgt := 184) dX12_town_170 (by decide) (fun c5 => ?_) (fun c5 => ?_)
        · skip
          refine q_aload_n dX12_town_184 rfl rfl ?_
          refine q_iload_n dX12_town_185 rfl rfl ?_
          refine qx_invV (ci := 12) [(0, v1)] [(0, v1), (2, 188)] rfl qM_X12_readJar dX12_town_186 tw1397 rfl qs188 rfl rfl rfl rfl (l3 c1 p2 r3 m3 p3 q3 c4 c5) (fun r6 m6 p6 q6 => ?_)
          refine qx_iinc (L' := [(2, 188), (0, (v1 + 1)), (0, v2), (0, v3), (0, v4), (4, 0), (4, 0)]) dX12_town_189 rfl rfl rfl (o4 c1 p2 r3 m3 p3 q3 c4 c5 r6 m6 p6 q6) rfl ?_
          exact l5 c1 p2 r3 m3 p3 q3 c4 c5 r6 m6 p6 q6
        · skip
          refine q_aload_n dX12_town_173 rfl rfl ?_
          refine q_aload_n dX12_town_174 rfl rfl ?_
          refine qx_getI (ci := 12) (k := 21) (v := (m3 188 21)) dX12_town_175 rfl rfl rfl tw1204 rfl qs188 rfl ?_
          refine qx_invV (ci := 12) [(0, (m3 188 21))] [(0, (m3 188 21)), (2, 188)] rfl qM_X12_fault dX12_town_178 tw1389 rfl qs188 rfl rfl rfl rfl (l6 c1 p2 r3 m3 p3 q3 c4 c5) (fun r7 m7 p7 q7 => ?_)
          refine q_goto (tgt := 192) dX12_town_181 (by decide) ?_
          exact l7 c1 p2 r3 m3 p3 q3 c4 c5 r7 m7 p7 q7
      · skip
        refine q_aload_n dX12_town_66 rfl rfl ?_
        refine qx_iconst dX12_town_67 rfl rfl ?_
        refine qx_iconst dX12_town_68 rfl rfl ?_
        refine qx_iconst dX12_town_69 rfl rfl ?_
        refine qx_invV (ci := 12) [(0, 1), (0, 0), (0, 5)] [(0, 5), (0, 0), (0, 1), (2, 188)] rfl qM_X12_number dX12_town_70 tw1385 rfl qs188 rfl rfl rfl rfl (l8 c1 p2 r3 m3 p3 q3 c4) (fun r8 m8 p8 q8 => ?_)
        refine qx_istore (L' := [(2, 188), (0, v1), (0, v2), (0, v3), (0, v4), (0, r8), (4, 0)]) dX12_town_73 rfl rfl rfl ?_
        refine q_aload_n dX12_town_75 rfl rfl ?_
        refine qx_bipush dX12_town_76 rfl rfl ?_
        refine qx_invV (ci := 12) [(0, 62)] [(0, 62), (2, 188)] rfl qM_X12_need dX12_town_78 tw1393 rfl qs188 rfl rfl rfl rfl (l9 c1 p2 r3 m3 p3 q3 c4 r8 m8 p8 q8) (fun r9 m9 p9 q9 => ?_)
        refine q_aload_n dX12_town_81 rfl rfl ?_
        refine qx_iconst dX12_town_82 rfl rfl ?_
        refine qx_iconst dX12_town_83 rfl rfl ?_
        refine qx_iconst dX12_town_84 rfl rfl ?_
        refine qx_invV (ci := 12) [(0, 1), (0, 0), (0, 5)] [(0, 5), (0, 0), (0, 1), (2, 188)] rfl qM_X12_number dX12_town_85 tw1385 rfl qs188 rfl rfl rfl rfl (l10 c1 p2 r3 m3 p3 q3 c4 r8 m8 p8 q8 r9 m9 p9 q9) (fun r10 m10 p10 q10 => ?_)
        refine qx_istore (L' := [(2, 188), (0, v1), (0, v2), (0, v3), (0, v4), (0, r8), (0, r10)]) dX12_town_88 rfl rfl rfl ?_
        refine q_aload_n dX12_town_90 rfl rfl ?_
        refine qx_invV (ci := 12) [] [(2, 188)] rfl qM_X12_fine dX12_town_91 tw1373 rfl qs188 rfl rfl rfl rfl (spX12_fine) (fun r11 m11 p11 q11 => ?_)
        obtain ⟨p11e, ⟨p11f, p11⟩ | ⟨p11f, p11⟩⟩ := p11
        · rw [p11e, p11f]
          refine qx_if_eq (tgt := 114) dX12_town_94 (by decide) (fun z => absurd z (by decide)) (fun _ => ?_)
          refine q_iload dX12_town_97 rfl ?_
          refine q_iload dX12_town_99 rfl ?_
          refine qx_icmp_ne (tgt := 114) dX12_town_101 (by decide) (fun c12 => ?_) (fun c12 => ?_)
          · skip
            exact l11 c1 p2 r3 m3 p3 q3 c4 r8 m8 p8 q8 r9 m9 p9 q9 r10 m10 p10 q10 p11 c12
          · skip
            refine q_aload_n dX12_town_104 rfl rfl ?_
            refine q_aload_n dX12_town_105 rfl rfl ?_
            refine qx_getI (ci := 12) (k := 21) (v := (m10 188 21)) dX12_town_106 rfl rfl rfl tw1204 rfl qs188 rfl ?_
            refine qx_iconst dX12_town_109 rfl rfl ?_
            refine qx_isub dX12_town_110 (o12 c1 p2 r3 m3 p3 q3 c4 r8 m8 p8 q8 r9 m9 p9 q9 r10 m10 p10 q10 p11 c12) ?_
            refine qx_invV (ci := 12) [(0, ((m10 188 21) - 1))] [(0, ((m10 188 21) - 1)), (2, 188)] rfl qM_X12_fault dX12_town_111 tw1389 rfl qs188 rfl rfl rfl rfl (l13 c1 p2 r3 m3 p3 q3 c4 r8 m8 p8 q8 r9 m9 p9 q9 r10 m10 p10 q10 p11 c12) (fun r13 m13 p13 q13 => ?_)
            exact l14 c1 p2 r3 m3 p3 q3 c4 r8 m8 p8 q8 r9 m9 p9 q9 r10 m10 p10 q10 p11 c12 r13 m13 p13 q13
        · rw [p11e, p11f]
          refine qx_if_eq (tgt := 114) dX12_town_94 (by decide) (fun _ => ?_) (fun z => absurd z (by decide))
          exact l15 c1 p2 r3 m3 p3 q3 c4 r8 m8 p8 q8 r9 m9 p9 q9 r10 m10 p10 q10 p11
    · rw [p2e, p2f]
      refine qx_if_eq (tgt := 206) dX12_town_54 (by decide) (fun _ => ?_) (fun z => absurd z (by decide))
      exact l16 c1 p2
theorem bkX12_town_114 {b : Int} {mem : qm} {Q : Int → qm → Prop}
    {v1 v2 v3 v4 v5 v6 : Int}
    {P1 : Int → qm → Prop}
    (l1 : q_Ev yX12_need cX12_need 2 none 3 0 0 [(2, 188), (0, 42)] (q_sh0, q_rb 198, mem) (qK (q_rb 198) (P1)))
    (o2 : ∀ (r1 : Int), ∀ (m1 : qm), P1 r1 m1 → q_in32 r1 → q_in32 (3 * v2) ∧ (0 ≤ (3 * v2) ∧ (3 * v2) < 240) ∧ q_in32 ((3 * v2) + 1) ∧ (0 ≤ ((3 * v2) + 1) ∧ ((3 * v2) + 1) < 240) ∧ q_in32 ((3 * v2) + 2))
    {P2 : Int → qm → Int → qm → Prop}
    (l3 : ∀ (r1 : Int), ∀ (m1 : qm), P1 r1 m1 → q_in32 r1 → q_Ev yX12_number cX12_number 6 (some .int) 3 0 0 [(2, 188), (0, 3), (0, 0), (0, 999)] (q_sh0, q_rb 198, (q_up (q_up m1 200 (3 * v2) v5) 200 ((3 * v2) + 1) v6)) (qK (q_rb 198) (P2 r1 m1)))
    (o4 : ∀ (r1 : Int), ∀ (m1 : qm), P1 r1 m1 → q_in32 r1 → ∀ (r2 : Int), ∀ (m2 : qm), P2 r1 m1 r2 m2 → q_in32 r2 → (0 ≤ ((3 * v2) + 2) ∧ ((3 * v2) + 2) < 240) ∧ q_in32 (v2 + 1))
    (l5 : ∀ (r1 : Int), ∀ (m1 : qm), P1 r1 m1 → q_in32 r1 → ∀ (r2 : Int), ∀ (m2 : qm), P2 r1 m1 r2 m2 → q_in32 r2 → q_At yX12_town cX12_town 7 (some .int) 5 0 0 (qK (q_rb 198) Q) 192 [(2, 188), (0, v1), (0, (v2 + 1)), (0, v3), (0, v4), (4, 0), (4, 0)] [] (q_sh0, q_rb 198, (q_up m2 200 ((3 * v2) + 2) r2))) :
    q_At yX12_town cX12_town 7 (some .int) 5 0 0 (qK (q_rb 198) Q) 114 [(2, 188), (0, v1), (0, v2), (0, v3), (0, v4), (0, v5), (0, v6)] [] (q_sh0, q_rb 198, mem) := by
  refine q_aload_n dX12_town_114 rfl rfl ?_
  refine qx_bipush dX12_town_115 rfl rfl ?_
  refine qx_invV (ci := 12) [(0, 42)] [(0, 42), (2, 188)] rfl qM_X12_need dX12_town_117 tw1393 rfl qs188 rfl rfl rfl rfl (l1) (fun r1 m1 p1 q1 => ?_)
  refine q_aload_n dX12_town_120 rfl rfl ?_
  refine q_getR (ci := 12) (k := 23) dX12_town_121 rfl (by decide) rfl tw1206 (by decide) qs188 qw188_23 (by decide) ?_
  refine qx_iconst dX12_town_124 rfl rfl ?_
  refine q_iload_n dX12_town_125 rfl rfl ?_
  refine qx_imul dX12_town_126 (o2 r1 m1 p1 q1).1 ?_
  refine q_iload dX12_town_127 rfl ?_
  refine q_iast dX12_town_129 qs200 ((o2 r1 m1 p1 q1).2.1).1 ((o2 r1 m1 p1 q1).2.1).2 ?_
  refine q_aload_n dX12_town_130 rfl rfl ?_
  refine q_getR (ci := 12) (k := 23) dX12_town_131 rfl (by decide) rfl tw1206 (by decide) qs188 qw188_23 (by decide) ?_
  refine qx_iconst dX12_town_134 rfl rfl ?_
  refine q_iload_n dX12_town_135 rfl rfl ?_
  refine qx_imul dX12_town_136 (o2 r1 m1 p1 q1).1 ?_
  refine qx_iconst dX12_town_137 rfl rfl ?_
  refine qx_iadd dX12_town_138 (o2 r1 m1 p1 q1).2.2.1 ?_
  refine q_iload dX12_town_139 rfl ?_
  refine q_iast dX12_town_141 qs200 ((o2 r1 m1 p1 q1).2.2.2.1).1 ((o2 r1 m1 p1 q1).2.2.2.1).2 ?_
  refine q_aload_n dX12_town_142 rfl rfl ?_
  refine q_getR (ci := 12) (k := 23) dX12_town_143 rfl (by decide) rfl tw1206 (by decide) qs188 qw188_23 (by decide) ?_
  refine qx_iconst dX12_town_146 rfl rfl ?_
  refine q_iload_n dX12_town_147 rfl rfl ?_
  refine qx_imul dX12_town_148 (o2 r1 m1 p1 q1).1 ?_
  refine qx_iconst dX12_town_149 rfl rfl ?_
  refine qx_iadd dX12_town_150 (o2 r1 m1 p1 q1).2.2.2.2 ?_
  refine q_aload_n dX12_town_151 rfl rfl ?_
  refine qx_iconst dX12_town_152 rfl rfl ?_
  refine qx_iconst dX12_town_153 rfl rfl ?_
  refine qx_sipush dX12_town_154 rfl rfl ?_
  refine qx_invV (ci := 12) [(0, 3), (0, 0), (0, 999)] [(0, 999), (0, 0), (0, 3), (2, 188), (0, ((3 * v2) + 2)), (2, 200)] rfl qM_X12_number dX12_town_157 tw1385 rfl qs188 rfl rfl rfl rfl (l3 r1 m1 p1 q1) (fun r2 m2 p2 q2 => ?_)
  refine q_iast dX12_town_160 qs200 ((o4 r1 m1 p1 q1 r2 m2 p2 q2).1).1 ((o4 r1 m1 p1 q1 r2 m2 p2 q2).1).2 ?_
  refine qx_iinc (L' := [(2, 188), (0, v1), (0, (v2 + 1)), (0, v3), (0, v4), (0, v5), (0, v6)]) dX12_town_161 rfl rfl rfl (o4 r1 m1 p1 q1 r2 m2 p2 q2).2 rfl ?_
  refine q_goto (tgt := 192) dX12_town_164 (by decide) ?_
  refine q_kill (L' := [(2, 188), (0, v1), (0, (v2 + 1)), (0, v3), (0, v4), (4, 0), (0, v6)]) 5 rfl ?_
  refine q_kill (L' := [(2, 188), (0, v1), (0, (v2 + 1)), (0, v3), (0, v4), (4, 0), (4, 0)]) 6 rfl ?_
  exact l5 r1 m1 p1 q1 r2 m2 p2 q2
theorem bkX12_town_192 {b : Int} {mem : qm} {Q : Int → qm → Prop}
    {v1 v2 v3 v4 : Int}
    (o1 : q_in32 (v3 + 1))
    {P1 : Int → qm → Prop}
    (l2 : q_Ev yX12_passes cX12_passes 2 (some .boolean) 2 0 0 [(2, 188), (0, 59)] (q_sh0, q_rb 198, mem) (qK (q_rb 198) (P1)))
    (l3 : ∀ (r1 : Int), ∀ (m1 : qm), P1 r1 m1 → q_in32 r1 → q_At yX12_town cX12_town 7 (some .int) 5 0 0 (qK (q_rb 198) Q) 45 [(2, 188), (0, v1), (0, v2), (0, (v3 + 1)), (0, r1), (4, 0), (4, 0)] [] (q_sh0, q_rb 198, m1)) :
    q_At yX12_town cX12_town 7 (some .int) 5 0 0 (qK (q_rb 198) Q) 192 [(2, 188), (0, v1), (0, v2), (0, v3), (0, v4), (4, 0), (4, 0)] [] (q_sh0, q_rb 198, mem) := by
  refine qx_iinc (L' := [(2, 188), (0, v1), (0, v2), (0, (v3 + 1)), (0, v4), (4, 0), (4, 0)]) dX12_town_192 rfl rfl rfl (o1) rfl ?_
  refine q_aload_n dX12_town_195 rfl rfl ?_
  refine qx_bipush dX12_town_196 rfl rfl ?_
  refine qx_invV (ci := 12) [(0, 59)] [(0, 59), (2, 188)] rfl qM_X12_passes dX12_town_198 tw1377 rfl qs188 rfl rfl rfl rfl (l2) (fun r1 m1 p1 q1 => ?_)
  refine qx_istore (L' := [(2, 188), (0, v1), (0, v2), (0, (v3 + 1)), (0, r1), (4, 0), (4, 0)]) dX12_town_201 rfl rfl rfl ?_
  refine q_goto (tgt := 45) dX12_town_203 (by decide) ?_
  exact l3 r1 m1 p1 q1
theorem bkX12_town_206 {b : Int} {mem : qm} {Q : Int → qm → Prop}
    {v1 v2 v3 v4 : Int}
    (l1 : (mem 188 19) ≤ (mem 188 21) → q_At yX12_town cX12_town 7 (some .int) 5 0 0 (qK (q_rb 198) Q) 225 [(2, 188), (0, v1), (0, v2), (0, v3), (0, v4), (4, 0), (4, 0)] [] (q_sh0, q_rb 198, mem))
    {P2 : Int → qm → Prop}
    (l2 : (mem 188 21) < (mem 188 19) → q_Ev yX12_fault cX12_fault 2 none 2 0 0 [(2, 188), (0, (mem 188 21))] (q_sh0, q_rb 198, mem) (qK (q_rb 198) (P2)))
    (l3 : (mem 188 21) < (mem 188 19) → ∀ (r2 : Int), ∀ (m2 : qm), P2 r2 m2 → q_in32 r2 → q_At yX12_town cX12_town 7 (some .int) 5 0 0 (qK (q_rb 198) Q) 225 [(2, 188), (0, v1), (0, v2), (0, v3), (0, v4), (4, 0), (4, 0)] [] (q_sh0, q_rb 198, m2)) :
    q_At yX12_town cX12_town 7 (some .int) 5 0 0 (qK (q_rb 198) Q) 206 [(2, 188), (0, v1), (0, v2), (0, v3), (0, v4), (4, 0), (4, 0)] [] (q_sh0, q_rb 198, mem) := by
  refine q_aload_n dX12_town_206 rfl rfl ?_
  refine qx_getI (ci := 12) (k := 21) (v := (mem 188 21)) dX12_town_207 rfl rfl rfl tw1204 rfl qs188 rfl ?_
  refine q_aload_n dX12_town_210 rfl rfl ?_
  refine qx_getI (ci := 12) (k := 19) (v := (mem 188 19)) dX12_town_211 rfl rfl rfl tw1202 rfl qs188 rfl ?_
  refine qx_icmp_ge (tgt := 225) dX12_town_214 (by decide) (fun c1 => ?_) (fun c1 => ?_)
  · skip
    exact l1 c1
  · skip
    refine q_aload_n dX12_town_217 rfl rfl ?_
    refine q_aload_n dX12_town_218 rfl rfl ?_
    refine qx_getI (ci := 12) (k := 21) (v := (mem 188 21)) dX12_town_219 rfl rfl rfl tw1204 rfl qs188 rfl ?_
    refine qx_invV (ci := 12) [(0, (mem 188 21))] [(0, (mem 188 21)), (2, 188)] rfl qM_X12_fault dX12_town_222 tw1389 rfl qs188 rfl rfl rfl rfl (l2 c1) (fun r2 m2 p2 q2 => ?_)
    exact l3 c1 r2 m2 p2 q2
theorem bkX12_town_225 {b : Int} {mem : qm} {Q : Int → qm → Prop}
    {v1 v2 v3 v4 : Int}
    (l1 : ((mem 188 22) = -1) → q_At yX12_town cX12_town 7 (some .int) 5 0 0 (qK (q_rb 198) Q) 245 [(2, 188), (0, v1), (0, v2), (0, v3), (0, v4), (0, (mem 188 0)), (4, 0)] [] (q_sh0, q_rb 198, mem))
    (o2 : ¬ ((mem 188 22) = -1) → q_in32 ((-1) - (mem 188 22)))
    (l3 : ¬ ((mem 188 22) = -1) → Q ((-1) - (mem 188 22)) mem) :
    q_At yX12_town cX12_town 7 (some .int) 5 0 0 (qK (q_rb 198) Q) 225 [(2, 188), (0, v1), (0, v2), (0, v3), (0, v4), (4, 0), (4, 0)] [] (q_sh0, q_rb 198, mem) := by
  refine q_aload_n dX12_town_225 rfl rfl ?_
  refine qx_invV (ci := 12) [] [(2, 188)] rfl qM_X12_fine dX12_town_226 tw1373 rfl qs188 rfl rfl rfl rfl (spX12_fine) (fun r1 m1 p1 q1 => ?_)
  obtain ⟨p1e, ⟨p1f, p1⟩ | ⟨p1f, p1⟩⟩ := p1
  · rw [p1e, p1f]
    refine qx_if_ne (tgt := 239) dX12_town_229 (by decide) (fun _ => ?_) (fun z => absurd z (by decide))
    refine q_aload_n dX12_town_239 rfl rfl ?_
    refine qx_getI (ci := 12) (k := 0) (v := (mem 188 0)) dX12_town_240 rfl rfl rfl tw1183 rfl qs188 rfl ?_
    refine qx_istore (L' := [(2, 188), (0, v1), (0, v2), (0, v3), (0, v4), (0, (mem 188 0)), (4, 0)]) dX12_town_243 rfl rfl rfl ?_
    exact l1 p1
  · rw [p1e, p1f]
    refine qx_if_ne (tgt := 239) dX12_town_229 (by decide) (fun z => absurd z (by decide)) (fun _ => ?_)
    refine qx_iconst dX12_town_232 rfl rfl ?_
    refine q_aload_n dX12_town_233 rfl rfl ?_
    refine qx_getI (ci := 12) (k := 22) (v := (mem 188 22)) dX12_town_234 rfl rfl rfl tw1205 rfl qs188 rfl ?_
    refine qx_isub dX12_town_237 (o2 p1) ?_
    exact q_iret dX12_town_238 (qK_i (l3 p1))
theorem bkX12_town_245 {b : Int} {mem : qm} {Q : Int → qm → Prop}
    {v1 v2 v3 v4 v5 : Int}
    (l1 : v1 ≤ v5 → v1 ≤ (mem 188 0) → q_At yX12_town cX12_town 7 (some .int) 5 0 0 (qK (q_rb 198) Q) 327 [(2, 188), (0, v1), (0, v2), (0, v3), (0, v4), (0, 0), (4, 0)] [] (q_sh0, q_rb 198, (q_up mem 188 0 v1)))
    (o2 : v1 ≤ v5 → (mem 188 0) < v1 → q_in32 ((mem 188 51) + 1))
    (l3 : v1 ≤ v5 → (mem 188 0) < v1 → q_At yX12_town cX12_town 7 (some .int) 5 0 0 (qK (q_rb 198) Q) 327 [(2, 188), (0, v1), (0, v2), (0, v3), (0, v4), (0, 0), (4, 0)] [] (q_sh0, q_rb 198, (q_up (q_up mem 188 51 ((mem 188 51) + 1)) 188 0 v1)))
    (o4 : v5 < v1 → (0 ≤ v5 ∧ v5 < 9))
    (l5 : v5 < v1 → q_At yX12_town cX12_town 7 (some .int) 5 0 0 (qK (q_rb 198) Q) 262 [(2, 188), (0, v1), (0, v2), (0, v3), (0, v4), (0, v5), (0, 0)] [] (q_sh0, q_rb 198, (q_up mem 195 v5 0))) :
    q_At yX12_town cX12_town 7 (some .int) 5 0 0 (qK (q_rb 198) Q) 245 [(2, 188), (0, v1), (0, v2), (0, v3), (0, v4), (0, v5), (4, 0)] [] (q_sh0, q_rb 198, mem) := by
  refine q_iload dX12_town_245 rfl ?_
  refine q_iload_n dX12_town_247 rfl rfl ?_
  refine qx_icmp_ge (tgt := 301) dX12_town_248 (by decide) (fun c1 => ?_) (fun c1 => ?_)
  · skip
    refine q_iload_n dX12_town_301 rfl rfl ?_
    refine q_aload_n dX12_town_302 rfl rfl ?_
    refine qx_getI (ci := 12) (k := 0) (v := (mem 188 0)) dX12_town_303 rfl rfl rfl tw1183 rfl qs188 rfl ?_
    refine qx_icmp_le (tgt := 319) dX12_town_306 (by decide) (fun c2 => ?_) (fun c2 => ?_)
    · skip
      refine q_aload_n dX12_town_319 rfl rfl ?_
      refine q_iload_n dX12_town_320 rfl rfl ?_
      refine q_putI (ci := 12) (k := 0) (kI := 0) (ty := .int) dX12_town_321 rfl (by decide) rfl tw1183 rfl rfl rfl (fun _ => ⟨rfl, rfl⟩) qs188 ?_
      refine qx_iconst dX12_town_324 rfl rfl ?_
      refine qx_istore (L' := [(2, 188), (0, v1), (0, v2), (0, v3), (0, v4), (0, 0), (4, 0)]) dX12_town_325 rfl rfl rfl ?_
      exact l1 c1 c2
    · skip
      refine q_aload_n dX12_town_309 rfl rfl ?_
      refine q_dup dX12_town_310 (fun h => by cases h) ?_
      refine qx_getI (ci := 12) (k := 51) (v := (mem 188 51)) dX12_town_311 rfl rfl rfl tw1234 rfl qs188 rfl ?_
      refine qx_iconst dX12_town_314 rfl rfl ?_
      refine qx_iadd dX12_town_315 (o2 c1 c2) ?_
      refine q_putI (ci := 12) (k := 51) (kI := 51) (ty := .int) dX12_town_316 rfl (by decide) rfl tw1234 rfl rfl rfl (fun _ => ⟨rfl, rfl⟩) qs188 ?_
      refine q_aload_n dX12_town_319 rfl rfl ?_
      refine q_iload_n dX12_town_320 rfl rfl ?_
      refine q_putI (ci := 12) (k := 0) (kI := 0) (ty := .int) dX12_town_321 rfl (by decide) rfl tw1183 rfl rfl rfl (fun _ => ⟨rfl, rfl⟩) qs188 ?_
      refine qx_iconst dX12_town_324 rfl rfl ?_
      refine qx_istore (L' := [(2, 188), (0, v1), (0, v2), (0, v3), (0, v4), (0, 0), (4, 0)]) dX12_town_325 rfl rfl rfl ?_
      exact l3 c1 c2
  · skip
    refine q_aload_n dX12_town_251 rfl rfl ?_
    refine q_getR (ci := 12) (k := 7) dX12_town_252 rfl (by decide) rfl tw1190 (by decide) qs188 qw188_7 (by decide) ?_
    refine q_iload dX12_town_255 rfl ?_
    refine qx_iconst dX12_town_257 rfl rfl ?_
    refine q_iast dX12_town_258 qs195 ((o4 c1)).1 ((o4 c1)).2 ?_
    refine qx_iconst dX12_town_259 rfl rfl ?_
    refine qx_istore (L' := [(2, 188), (0, v1), (0, v2), (0, v3), (0, v4), (0, v5), (0, 0)]) dX12_town_260 rfl rfl rfl ?_
    exact l5 c1
theorem bkX12_town_262 {b : Int} {mem : qm} {Q : Int → qm → Prop}
    {v1 v2 v3 v4 v5 v6 : Int}
    (o1 : 60 ≤ v6 → q_in32 (v5 + 1))
    (l2 : 60 ≤ v6 → q_At yX12_town cX12_town 7 (some .int) 5 0 0 (qK (q_rb 198) Q) 245 [(2, 188), (0, v1), (0, v2), (0, v3), (0, v4), (0, (v5 + 1)), (4, 0)] [] (q_sh0, q_rb 198, mem))
    (o3 : v6 < 60 → q_in32 (60 * v5) ∧ q_in32 ((60 * v5) + v6) ∧ (0 ≤ v5 ∧ v5 < 9) ∧ (0 ≤ ((60 * v5) + v6) ∧ ((60 * v5) + v6) < 540) ∧ q_in32 (v6 + 1))
    (l4 : v6 < 60 → q_At yX12_town cX12_town 7 (some .int) 5 0 0 (qK (q_rb 198) Q) 262 [(2, 188), (0, v1), (0, v2), (0, v3), (0, v4), (0, v5), (0, (v6 + 1))] [] (q_sh0, q_rb 198, (q_up mem 196 ((60 * v5) + v6) (mem 192 v5)))) :
    q_At yX12_town cX12_town 7 (some .int) 5 0 0 (qK (q_rb 198) Q) 262 [(2, 188), (0, v1), (0, v2), (0, v3), (0, v4), (0, v5), (0, v6)] [] (q_sh0, q_rb 198, mem) := by
  refine q_iload dX12_town_262 rfl ?_
  refine qx_bipush dX12_town_264 rfl rfl ?_
  refine qx_icmp_ge (tgt := 295) dX12_town_266 (by decide) (fun c1 => ?_) (fun c1 => ?_)
  · skip
    refine qx_iinc (L' := [(2, 188), (0, v1), (0, v2), (0, v3), (0, v4), (0, (v5 + 1)), (0, v6)]) dX12_town_295 rfl rfl rfl (o1 c1) rfl ?_
    refine q_goto (tgt := 245) dX12_town_298 (by decide) ?_
    refine q_kill (L' := [(2, 188), (0, v1), (0, v2), (0, v3), (0, v4), (0, (v5 + 1)), (4, 0)]) 6 rfl ?_
    exact l2 c1
  · skip
    refine q_aload_n dX12_town_269 rfl rfl ?_
    refine q_getR (ci := 12) (k := 8) dX12_town_270 rfl (by decide) rfl tw1191 (by decide) qs188 qw188_8 (by decide) ?_
    refine qx_bipush dX12_town_273 rfl rfl ?_
    refine q_iload dX12_town_275 rfl ?_
    refine qx_imul dX12_town_277 (o3 c1).1 ?_
    refine q_iload dX12_town_278 rfl ?_
    refine qx_iadd dX12_town_280 (o3 c1).2.1 ?_
    refine q_aload_n dX12_town_281 rfl rfl ?_
    refine q_getR (ci := 12) (k := 4) dX12_town_282 rfl (by decide) rfl tw1187 (by decide) qs188 qw188_4 (by decide) ?_
    refine q_iload dX12_town_285 rfl ?_
    refine qx_iald (v := (mem 192 v5)) dX12_town_287 qs192 (o3 c1).2.2.1 rfl ?_
    refine q_iast dX12_town_288 qs196 ((o3 c1).2.2.2.1).1 ((o3 c1).2.2.2.1).2 ?_
    refine qx_iinc (L' := [(2, 188), (0, v1), (0, v2), (0, v3), (0, v4), (0, v5), (0, (v6 + 1))]) dX12_town_289 rfl rfl rfl (o3 c1).2.2.2.2 rfl ?_
    refine q_goto (tgt := 262) dX12_town_292 (by decide) ?_
    exact l4 c1
theorem bkX12_town_327 {b : Int} {mem : qm} {Q : Int → qm → Prop}
    {v1 v2 v3 v4 v5 : Int}
    (l1 : v2 ≤ v5 → Q v3 (q_up mem 188 30 0))
    (o2 : v5 < v2 → q_in32 (3 * v5) ∧ (0 ≤ (3 * v5) ∧ (3 * v5) < 240) ∧ q_in32 (6 * (mem 200 (3 * v5))) ∧ q_in32 ((3 * v5) + 1) ∧ (0 ≤ ((3 * v5) + 1) ∧ ((3 * v5) + 1) < 240) ∧ q_in32 ((6 * (mem 200 (3 * v5))) + (mem 200 ((3 * v5) + 1))) ∧ q_in32 ((3 * v5) + 2) ∧ (0 ≤ ((3 * v5) + 2) ∧ ((3 * v5) + 2) < 240) ∧ (0 ≤ ((6 * (mem 200 (3 * v5))) + (mem 200 ((3 * v5) + 1))) ∧ ((6 * (mem 200 (3 * v5))) + (mem 200 ((3 * v5) + 1))) < 36) ∧ q_in32 (v5 + 1))
    (l3 : v5 < v2 → q_At yX12_town cX12_town 7 (some .int) 5 0 0 (qK (q_rb 198) Q) 327 [(2, 188), (0, v1), (0, v2), (0, v3), (0, v4), (0, (v5 + 1)), (4, 0)] [] (q_sh0, q_rb 198, (q_up mem 197 ((6 * (mem 200 (3 * v5))) + (mem 200 ((3 * v5) + 1))) (mem 200 ((3 * v5) + 2))))) :
    q_At yX12_town cX12_town 7 (some .int) 5 0 0 (qK (q_rb 198) Q) 327 [(2, 188), (0, v1), (0, v2), (0, v3), (0, v4), (0, v5), (4, 0)] [] (q_sh0, q_rb 198, mem) := by
  refine q_iload dX12_town_327 rfl ?_
  refine q_iload_n dX12_town_329 rfl rfl ?_
  refine qx_icmp_ge (tgt := 379) dX12_town_330 (by decide) (fun c1 => ?_) (fun c1 => ?_)
  · skip
    refine q_aload_n dX12_town_379 rfl rfl ?_
    refine qx_iconst dX12_town_380 rfl rfl ?_
    refine q_putI (ci := 12) (k := 30) (kI := 30) (ty := .int) dX12_town_381 rfl (by decide) rfl tw1213 rfl rfl rfl (fun _ => ⟨rfl, rfl⟩) qs188 ?_
    refine q_iload_n dX12_town_384 rfl rfl ?_
    exact q_iret dX12_town_385 (qK_i (l1 c1))
  · skip
    refine q_aload_n dX12_town_333 rfl rfl ?_
    refine q_getR (ci := 12) (k := 9) dX12_town_334 rfl (by decide) rfl tw1192 (by decide) qs188 qw188_9 (by decide) ?_
    refine qx_bipush dX12_town_337 rfl rfl ?_
    refine q_aload_n dX12_town_339 rfl rfl ?_
    refine q_getR (ci := 12) (k := 23) dX12_town_340 rfl (by decide) rfl tw1206 (by decide) qs188 qw188_23 (by decide) ?_
    refine qx_iconst dX12_town_343 rfl rfl ?_
    refine q_iload dX12_town_344 rfl ?_
    refine qx_imul dX12_town_346 (o2 c1).1 ?_
    refine qx_iald (v := (mem 200 (3 * v5))) dX12_town_347 qs200 (o2 c1).2.1 rfl ?_
    refine qx_imul dX12_town_348 (o2 c1).2.2.1 ?_
    refine q_aload_n dX12_town_349 rfl rfl ?_
    refine q_getR (ci := 12) (k := 23) dX12_town_350 rfl (by decide) rfl tw1206 (by decide) qs188 qw188_23 (by decide) ?_
    refine qx_iconst dX12_town_353 rfl rfl ?_
    refine q_iload dX12_town_354 rfl ?_
    refine qx_imul dX12_town_356 (o2 c1).1 ?_
    refine qx_iconst dX12_town_357 rfl rfl ?_
    refine qx_iadd dX12_town_358 (o2 c1).2.2.2.1 ?_
    refine qx_iald (v := (mem 200 ((3 * v5) + 1))) dX12_town_359 qs200 (o2 c1).2.2.2.2.1 rfl ?_
    refine qx_iadd dX12_town_360 (o2 c1).2.2.2.2.2.1 ?_
    refine q_aload_n dX12_town_361 rfl rfl ?_
    refine q_getR (ci := 12) (k := 23) dX12_town_362 rfl (by decide) rfl tw1206 (by decide) qs188 qw188_23 (by decide) ?_
    refine qx_iconst dX12_town_365 rfl rfl ?_
    refine q_iload dX12_town_366 rfl ?_
    refine qx_imul dX12_town_368 (o2 c1).1 ?_
    refine qx_iconst dX12_town_369 rfl rfl ?_
    refine qx_iadd dX12_town_370 (o2 c1).2.2.2.2.2.2.1 ?_
    refine qx_iald (v := (mem 200 ((3 * v5) + 2))) dX12_town_371 qs200 (o2 c1).2.2.2.2.2.2.2.1 rfl ?_
    refine q_iast dX12_town_372 qs197 ((o2 c1).2.2.2.2.2.2.2.2.1).1 ((o2 c1).2.2.2.2.2.2.2.2.1).2 ?_
    refine qx_iinc (L' := [(2, 188), (0, v1), (0, v2), (0, v3), (0, v4), (0, (v5 + 1)), (4, 0)]) dX12_town_373 rfl rfl rfl (o2 c1).2.2.2.2.2.2.2.2.2 rfl ?_
    refine q_goto (tgt := 327) dX12_town_376 (by decide) ?_
    exact l3 c1
