theorem dX8_readStep_0 : decode cX8_readStep 0 = .ok (.aload_n 0, 1) := by decide +kernel
theorem dX8_readStep_1 : decode cX8_readStep 1 = .ok (.getfield 9, 3) := by decide +kernel
theorem dX8_readStep_4 : decode cX8_readStep 4 = .ok (.aload_n 0, 1) := by decide +kernel
theorem dX8_readStep_5 : decode cX8_readStep 5 = .ok (.getfield 24, 3) := by decide +kernel
theorem dX8_readStep_8 : decode cX8_readStep 8 = .ok (.aload_n 1, 1) := by decide +kernel
theorem dX8_readStep_9 : decode cX8_readStep 9 = .ok (.invokevirtual 49, 3) := by decide +kernel
theorem dX8_readStep_12 : decode cX8_readStep 12 = .ok (.iastore, 1) := by decide +kernel
theorem dX8_readStep_13 : decode cX8_readStep 13 = .ok (.aload_n 1, 1) := by decide +kernel
theorem dX8_readStep_14 : decode cX8_readStep 14 = .ok (.bipush 112, 2) := by decide +kernel
theorem dX8_readStep_16 : decode cX8_readStep 16 = .ok (.invokevirtual 41, 3) := by decide +kernel
theorem dX8_readStep_19 : decode cX8_readStep 19 = .ok (.ifCond .eq 44, 3) := by decide +kernel
theorem dX8_readStep_22 : decode cX8_readStep 22 = .ok (.aload_n 0, 1) := by decide +kernel
theorem dX8_readStep_23 : decode cX8_readStep 23 = .ok (.getfield 15, 3) := by decide +kernel
theorem dX8_readStep_26 : decode cX8_readStep 26 = .ok (.aload_n 0, 1) := by decide +kernel
theorem dX8_readStep_27 : decode cX8_readStep 27 = .ok (.getfield 24, 3) := by decide +kernel
theorem dX8_readStep_30 : decode cX8_readStep 30 = .ok (.aload_n 1, 1) := by decide +kernel
theorem dX8_readStep_31 : decode cX8_readStep 31 = .ok (.invokevirtual 53, 3) := by decide +kernel
theorem dX8_readStep_34 : decode cX8_readStep 34 = .ok (.iastore, 1) := by decide +kernel
theorem dX8_readStep_35 : decode cX8_readStep 35 = .ok (.aload_n 1, 1) := by decide +kernel
theorem dX8_readStep_36 : decode cX8_readStep 36 = .ok (.bipush 62, 2) := by decide +kernel
theorem dX8_readStep_38 : decode cX8_readStep 38 = .ok (.invokevirtual 56, 3) := by decide +kernel
theorem dX8_readStep_41 : decode cX8_readStep 41 = .ok (.aload_n 0, 1) := by decide +kernel
theorem dX8_readStep_42 : decode cX8_readStep 42 = .ok (.getfield 18, 3) := by decide +kernel
theorem dX8_readStep_45 : decode cX8_readStep 45 = .ok (.aload_n 0, 1) := by decide +kernel
theorem dX8_readStep_46 : decode cX8_readStep 46 = .ok (.getfield 24, 3) := by decide +kernel
theorem dX8_readStep_49 : decode cX8_readStep 49 = .ok (.aload_n 1, 1) := by decide +kernel
theorem dX8_readStep_50 : decode cX8_readStep 50 = .ok (.invokevirtual 53, 3) := by decide +kernel
theorem dX8_readStep_53 : decode cX8_readStep 53 = .ok (.iastore, 1) := by decide +kernel
theorem dX8_readStep_54 : decode cX8_readStep 54 = .ok (.aload_n 1, 1) := by decide +kernel
theorem dX8_readStep_55 : decode cX8_readStep 55 = .ok (.bipush 42, 2) := by decide +kernel
theorem dX8_readStep_57 : decode cX8_readStep 57 = .ok (.invokevirtual 56, 3) := by decide +kernel
theorem dX8_readStep_60 : decode cX8_readStep 60 = .ok (.goto 49, 3) := by decide +kernel
theorem dX8_readStep_63 : decode cX8_readStep 63 = .ok (.aload_n 1, 1) := by decide +kernel
theorem dX8_readStep_64 : decode cX8_readStep 64 = .ok (.bipush 119, 2) := by decide +kernel
theorem dX8_readStep_66 : decode cX8_readStep 66 = .ok (.invokevirtual 41, 3) := by decide +kernel
theorem dX8_readStep_69 : decode cX8_readStep 69 = .ok (.ifCond .ne 12, 3) := by decide +kernel
theorem dX8_readStep_72 : decode cX8_readStep 72 = .ok (.aload_n 1, 1) := by decide +kernel
theorem dX8_readStep_73 : decode cX8_readStep 73 = .ok (.bipush 115, 2) := by decide +kernel
theorem dX8_readStep_75 : decode cX8_readStep 75 = .ok (.invokevirtual 41, 3) := by decide +kernel
theorem dX8_readStep_78 : decode cX8_readStep 78 = .ok (.ifCond .eq 25, 3) := by decide +kernel
theorem dX8_readStep_81 : decode cX8_readStep 81 = .ok (.aload_n 0, 1) := by decide +kernel
theorem dX8_readStep_82 : decode cX8_readStep 82 = .ok (.getfield 15, 3) := by decide +kernel
theorem dX8_readStep_85 : decode cX8_readStep 85 = .ok (.aload_n 0, 1) := by decide +kernel
theorem dX8_readStep_86 : decode cX8_readStep 86 = .ok (.getfield 24, 3) := by decide +kernel
theorem dX8_readStep_89 : decode cX8_readStep 89 = .ok (.aload_n 1, 1) := by decide +kernel
theorem dX8_readStep_90 : decode cX8_readStep 90 = .ok (.invokevirtual 53, 3) := by decide +kernel
theorem dX8_readStep_93 : decode cX8_readStep 93 = .ok (.iastore, 1) := by decide +kernel
theorem dX8_readStep_94 : decode cX8_readStep 94 = .ok (.aload_n 1, 1) := by decide +kernel
theorem dX8_readStep_95 : decode cX8_readStep 95 = .ok (.bipush 42, 2) := by decide +kernel
theorem dX8_readStep_97 : decode cX8_readStep 97 = .ok (.invokevirtual 56, 3) := by decide +kernel
theorem dX8_readStep_100 : decode cX8_readStep 100 = .ok (.goto 9, 3) := by decide +kernel
theorem dX8_readStep_103 : decode cX8_readStep 103 = .ok (.aload_n 1, 1) := by decide +kernel
theorem dX8_readStep_104 : decode cX8_readStep 104 = .ok (.bipush 98, 2) := by decide +kernel
theorem dX8_readStep_106 : decode cX8_readStep 106 = .ok (.invokevirtual 56, 3) := by decide +kernel
theorem dX8_readStep_109 : decode cX8_readStep 109 = .ok (.aload_n 0, 1) := by decide +kernel
theorem dX8_readStep_110 : decode cX8_readStep 110 = .ok (.getfield 21, 3) := by decide +kernel
theorem dX8_readStep_113 : decode cX8_readStep 113 = .ok (.aload_n 0, 1) := by decide +kernel
theorem dX8_readStep_114 : decode cX8_readStep 114 = .ok (.getfield 24, 3) := by decide +kernel
theorem dX8_readStep_117 : decode cX8_readStep 117 = .ok (.aload_n 1, 1) := by decide +kernel
theorem dX8_readStep_118 : decode cX8_readStep 118 = .ok (.iconst 2, 1) := by decide +kernel
theorem dX8_readStep_119 : decode cX8_readStep 119 = .ok (.invokevirtual 59, 3) := by decide +kernel
theorem dX8_readStep_122 : decode cX8_readStep 122 = .ok (.iastore, 1) := by decide +kernel
theorem dX8_readStep_123 : decode cX8_readStep 123 = .ok (.return_, 1) := by decide +kernel
theorem bkX8_readStep_0 {b : Int} {mem : qm} {Q : Int → qm → Prop}
    {P1 : Int → qm → Prop}
    (l1 : q_Ev yX6_peek cX6_peek 1 (some .int) 1 0 0 [(2, 145)] (q_sh0, q_rb b, mem) (qK (q_rb b) (P1)))
    (o2 : ∀ (r1 : Int), ∀ (m1 : qm), P1 r1 m1 → q_in32 r1 → (0 ≤ (mem 154 4) ∧ (mem 154 4) < 60))
    {P2 : Int → qm → Int → qm → Prop}
    (l3 : ∀ (r1 : Int), ∀ (m1 : qm), P1 r1 m1 → q_in32 r1 → q_Ev yX6_skip cX6_skip 2 (some .boolean) 2 0 0 [(2, 145), (0, 112)] (q_sh0, q_rb b, (q_up m1 155 (mem 154 4) r1)) (qK (q_rb b) (P2 r1 m1)))
    {P4 : Int → qm → Int → qm → Int → qm → Prop}
    (l4 : ∀ (r1 : Int), ∀ (m1 : qm), P1 r1 m1 → q_in32 r1 → ∀ (r2 : Int), ∀ (m2 : qm), P2 r1 m1 r2 m2 → q_in32 r2 → r2 = 0 → q_Ev yX6_skip cX6_skip 2 (some .boolean) 2 0 0 [(2, 145), (0, 119)] (q_sh0, q_rb b, m2) (qK (q_rb b) (P4 r1 m1 r2 m2)))
    (l5 : ∀ (r1 : Int), ∀ (m1 : qm), P1 r1 m1 → q_in32 r1 → ∀ (r2 : Int), ∀ (m2 : qm), P2 r1 m1 r2 m2 → q_in32 r2 → r2 = 0 → ∀ (r4 : Int), ∀ (m4 : qm), P4 r1 m1 r2 m2 r4 m4 → q_in32 r4 → r4 ≠ 0 → q_At yX8_readStep cX8_readStep 2 none 4 0 0 (qK (q_rb b) Q) 81 [(2, 154), (2, 145)] [] (q_sh0, q_rb b, m4))
    {P6 : Int → qm → Int → qm → Int → qm → Int → qm → Prop}
    (l6 : ∀ (r1 : Int), ∀ (m1 : qm), P1 r1 m1 → q_in32 r1 → ∀ (r2 : Int), ∀ (m2 : qm), P2 r1 m1 r2 m2 → q_in32 r2 → r2 = 0 → ∀ (r4 : Int), ∀ (m4 : qm), P4 r1 m1 r2 m2 r4 m4 → q_in32 r4 → r4 = 0 → q_Ev yX6_skip cX6_skip 2 (some .boolean) 2 0 0 [(2, 145), (0, 115)] (q_sh0, q_rb b, m4) (qK (q_rb b) (P6 r1 m1 r2 m2 r4 m4)))
    {P8 : Int → qm → Int → qm → Int → qm → Int → qm → Int → qm → Prop}
    (l7 : ∀ (r1 : Int), ∀ (m1 : qm), P1 r1 m1 → q_in32 r1 → ∀ (r2 : Int), ∀ (m2 : qm), P2 r1 m1 r2 m2 → q_in32 r2 → r2 = 0 → ∀ (r4 : Int), ∀ (m4 : qm), P4 r1 m1 r2 m2 r4 m4 → q_in32 r4 → r4 = 0 → ∀ (r6 : Int), ∀ (m6 : qm), P6 r1 m1 r2 m2 r4 m4 r6 m6 → q_in32 r6 → r6 = 0 → q_Ev yX6_need cX6_need 2 none 3 0 0 [(2, 145), (0, 98)] (q_sh0, q_rb b, m6) (qK (q_rb b) (P8 r1 m1 r2 m2 r4 m4 r6 m6)))
    (l8 : ∀ (r1 : Int), ∀ (m1 : qm), P1 r1 m1 → q_in32 r1 → ∀ (r2 : Int), ∀ (m2 : qm), P2 r1 m1 r2 m2 → q_in32 r2 → r2 = 0 → ∀ (r4 : Int), ∀ (m4 : qm), P4 r1 m1 r2 m2 r4 m4 → q_in32 r4 → r4 = 0 → ∀ (r6 : Int), ∀ (m6 : qm), P6 r1 m1 r2 m2 r4 m4 r6 m6 → q_in32 r6 → r6 = 0 → ∀ (r8 : Int), ∀ (m8 : qm), P8 r1 m1 r2 m2 r4 m4 r6 m6 r8 m8 → q_in32 r8 → q_At yX8_readStep cX8_readStep 2 none 4 0 0 (qK (q_rb b) Q) 109 [(2, 154), (2, 145)] [] (q_sh0, q_rb b, m8))
    (l9 : ∀ (r1 : Int), ∀ (m1 : qm), P1 r1 m1 → q_in32 r1 → ∀ (r2 : Int), ∀ (m2 : qm), P2 r1 m1 r2 m2 → q_in32 r2 → r2 = 0 → ∀ (r4 : Int), ∀ (m4 : qm), P4 r1 m1 r2 m2 r4 m4 → q_in32 r4 → r4 = 0 → ∀ (r6 : Int), ∀ (m6 : qm), P6 r1 m1 r2 m2 r4 m4 r6 m6 → q_in32 r6 → r6 ≠ 0 → q_At yX8_readStep cX8_readStep 2 none 4 0 0 (qK (q_rb b) Q) 81 [(2, 154), (2, 145)] [] (q_sh0, q_rb b, m6))
    {P9 : Int → qm → Int → qm → Int → qm → Prop}
    (l10 : ∀ (r1 : Int), ∀ (m1 : qm), P1 r1 m1 → q_in32 r1 → ∀ (r2 : Int), ∀ (m2 : qm), P2 r1 m1 r2 m2 → q_in32 r2 → r2 ≠ 0 → q_Ev yX6_digit cX6_digit 2 (some .int) 2 0 0 [(2, 145)] (q_sh0, q_rb b, m2) (qK (q_rb b) (P9 r1 m1 r2 m2)))
    (o11 : ∀ (r1 : Int), ∀ (m1 : qm), P1 r1 m1 → q_in32 r1 → ∀ (r2 : Int), ∀ (m2 : qm), P2 r1 m1 r2 m2 → q_in32 r2 → r2 ≠ 0 → ∀ (r9 : Int), ∀ (m9 : qm), P9 r1 m1 r2 m2 r9 m9 → q_in32 r9 → (0 ≤ (m2 154 4) ∧ (m2 154 4) < 60))
    {P10 : Int → qm → Int → qm → Int → qm → Int → qm → Prop}
    (l12 : ∀ (r1 : Int), ∀ (m1 : qm), P1 r1 m1 → q_in32 r1 → ∀ (r2 : Int), ∀ (m2 : qm), P2 r1 m1 r2 m2 → q_in32 r2 → r2 ≠ 0 → ∀ (r9 : Int), ∀ (m9 : qm), P9 r1 m1 r2 m2 r9 m9 → q_in32 r9 → q_Ev yX6_need cX6_need 2 none 3 0 0 [(2, 145), (0, 62)] (q_sh0, q_rb b, (q_up m9 156 (m2 154 4) r9)) (qK (q_rb b) (P10 r1 m1 r2 m2 r9 m9)))
    {P11 : Int → qm → Int → qm → Int → qm → Int → qm → Int → qm → Prop}
    (l13 : ∀ (r1 : Int), ∀ (m1 : qm), P1 r1 m1 → q_in32 r1 → ∀ (r2 : Int), ∀ (m2 : qm), P2 r1 m1 r2 m2 → q_in32 r2 → r2 ≠ 0 → ∀ (r9 : Int), ∀ (m9 : qm), P9 r1 m1 r2 m2 r9 m9 → q_in32 r9 → ∀ (r10 : Int), ∀ (m10 : qm), P10 r1 m1 r2 m2 r9 m9 r10 m10 → q_in32 r10 → q_Ev yX6_digit cX6_digit 2 (some .int) 2 0 0 [(2, 145)] (q_sh0, q_rb b, m10) (qK (q_rb b) (P11 r1 m1 r2 m2 r9 m9 r10 m10)))
    (o14 : ∀ (r1 : Int), ∀ (m1 : qm), P1 r1 m1 → q_in32 r1 → ∀ (r2 : Int), ∀ (m2 : qm), P2 r1 m1 r2 m2 → q_in32 r2 → r2 ≠ 0 → ∀ (r9 : Int), ∀ (m9 : qm), P9 r1 m1 r2 m2 r9 m9 → q_in32 r9 → ∀ (r10 : Int), ∀ (m10 : qm), P10 r1 m1 r2 m2 r9 m9 r10 m10 → q_in32 r10 → ∀ (r11 : Int), ∀ (m11 : qm), P11 r1 m1 r2 m2 r9 m9 r10 m10 r11 m11 → q_in32 r11 → (0 ≤ (m10 154 4) ∧ (m10 154 4) < 60))
    {P12 : Int → qm → Int → qm → Int → qm → Int → qm → Int → qm → Int → qm → Prop}
    (l15 : ∀ (r1 : Int), ∀ (m1 : qm), P1 r1 m1 → q_in32 r1 → ∀ (r2 : Int), ∀ (m2 : qm), P2 r1 m1 r2 m2 → q_in32 r2 → r2 ≠ 0 → ∀ (r9 : Int), ∀ (m9 : qm), P9 r1 m1 r2 m2 r9 m9 → q_in32 r9 → ∀ (r10 : Int), ∀ (m10 : qm), P10 r1 m1 r2 m2 r9 m9 r10 m10 → q_in32 r10 → ∀ (r11 : Int), ∀ (m11 : qm), P11 r1 m1 r2 m2 r9 m9 r10 m10 r11 m11 → q_in32 r11 → q_Ev yX6_need cX6_need 2 none 3 0 0 [(2, 145), (0, 42)] (q_sh0, q_rb b, (q_up m11 157 (m10 154 4) r11)) (qK (q_rb b) (P12 r1 m1 r2 m2 r9 m9 r10 m10 r11 m11)))
    (l16 : ∀ (r1 : Int), ∀ (m1 : qm), P1 r1 m1 → q_in32 r1 → ∀ (r2 : Int), ∀ (m2 : qm), P2 r1 m1 r2 m2 → q_in32 r2 → r2 ≠ 0 → ∀ (r9 : Int), ∀ (m9 : qm), P9 r1 m1 r2 m2 r9 m9 → q_in32 r9 → ∀ (r10 : Int), ∀ (m10 : qm), P10 r1 m1 r2 m2 r9 m9 r10 m10 → q_in32 r10 → ∀ (r11 : Int), ∀ (m11 : qm), P11 r1 m1 r2 m2 r9 m9 r10 m10 r11 m11 → q_in32 r11 → ∀ (r12 : Int), ∀ (m12 : qm), P12 r1 m1 r2 m2 r9 m9 r10 m10 r11 m11 r12 m12 → q_in32 r12 → q_At yX8_readStep cX8_readStep 2 none 4 0 0 (qK (q_rb b) Q) 109 [(2, 154), (2, 145)] [] (q_sh0, q_rb b, m12)) :
    q_At yX8_readStep cX8_readStep 2 none 4 0 0 (qK (q_rb b) Q) 0 [(2, 154), (2, 145)] [] (q_sh0, q_rb b, mem) := by
  refine q_aload_n dX8_readStep_0 rfl rfl ?_
  refine q_getR (ci := 8) (k := 0) dX8_readStep_1 rfl (by decide) rfl tw282 (by decide) qs154 qw154_0 (by decide) ?_
  refine q_aload_n dX8_readStep_4 rfl rfl ?_
  refine qx_getI (ci := 8) (k := 4) (v := (mem 154 4)) dX8_readStep_5 rfl rfl rfl tw290 rfl qs154 rfl ?_
  refine q_aload_n dX8_readStep_8 rfl rfl ?_
  refine qx_invV (ci := 6) [] [(2, 145), (0, (mem 154 4)), (2, 155)] rfl qM_X6_peek dX8_readStep_9 tw742 rfl qs145 rfl rfl rfl rfl (l1) (fun r1 m1 p1 q1 => ?_)
  refine q_iast dX8_readStep_12 qs155 ((o2 r1 m1 p1 q1)).1 ((o2 r1 m1 p1 q1)).2 ?_
  refine q_aload_n dX8_readStep_13 rfl rfl ?_
  refine qx_bipush dX8_readStep_14 rfl rfl ?_
  refine qx_invV (ci := 6) [(0, 112)] [(0, 112), (2, 145)] rfl qM_X6_skip dX8_readStep_16 tw743 rfl qs145 rfl rfl rfl rfl (l3 r1 m1 p1 q1) (fun r2 m2 p2 q2 => ?_)
  refine qx_if_eq (tgt := 63) dX8_readStep_19 (by decide) (fun c3 => ?_) (fun c3 => ?_)
  · skip
    refine q_aload_n dX8_readStep_63 rfl rfl ?_
    refine qx_bipush dX8_readStep_64 rfl rfl ?_
    refine qx_invV (ci := 6) [(0, 119)] [(0, 119), (2, 145)] rfl qM_X6_skip dX8_readStep_66 tw743 rfl qs145 rfl rfl rfl rfl (l4 r1 m1 p1 q1 r2 m2 p2 q2 c3) (fun r4 m4 p4 q4 => ?_)
    refine qx_if_ne (tgt := 81) dX8_readStep_69 (by decide) (fun c5 => ?_) (fun c5 => ?_)
    · skip
      exact l5 r1 m1 p1 q1 r2 m2 p2 q2 c3 r4 m4 p4 q4 c5
    · skip
      refine q_aload_n dX8_readStep_72 rfl rfl ?_
      refine qx_bipush dX8_readStep_73 rfl rfl ?_
      refine qx_invV (ci := 6) [(0, 115)] [(0, 115), (2, 145)] rfl qM_X6_skip dX8_readStep_75 tw743 rfl qs145 rfl rfl rfl rfl (l6 r1 m1 p1 q1 r2 m2 p2 q2 c3 r4 m4 p4 q4 c5) (fun r6 m6 p6 q6 => ?_)
      refine qx_if_eq (tgt := 103) dX8_readStep_78 (by decide) (fun c7 => ?_) (fun c7 => ?_)
      · skip
        refine q_aload_n dX8_readStep_103 rfl rfl ?_
        refine qx_bipush dX8_readStep_104 rfl rfl ?_
        refine qx_invV (ci := 6) [(0, 98)] [(0, 98), (2, 145)] rfl qM_X6_need dX8_readStep_106 tw745 rfl qs145 rfl rfl rfl rfl (l7 r1 m1 p1 q1 r2 m2 p2 q2 c3 r4 m4 p4 q4 c5 r6 m6 p6 q6 c7) (fun r8 m8 p8 q8 => ?_)
        exact l8 r1 m1 p1 q1 r2 m2 p2 q2 c3 r4 m4 p4 q4 c5 r6 m6 p6 q6 c7 r8 m8 p8 q8
      · skip
        exact l9 r1 m1 p1 q1 r2 m2 p2 q2 c3 r4 m4 p4 q4 c5 r6 m6 p6 q6 c7
  · skip
    refine q_aload_n dX8_readStep_22 rfl rfl ?_
    refine q_getR (ci := 8) (k := 1) dX8_readStep_23 rfl (by decide) rfl tw284 (by decide) qs154 qw154_1 (by decide) ?_
    refine q_aload_n dX8_readStep_26 rfl rfl ?_
    refine qx_getI (ci := 8) (k := 4) (v := (m2 154 4)) dX8_readStep_27 rfl rfl rfl tw290 rfl qs154 rfl ?_
    refine q_aload_n dX8_readStep_30 rfl rfl ?_
    refine qx_invV (ci := 6) [] [(2, 145), (0, (m2 154 4)), (2, 156)] rfl qM_X6_digit dX8_readStep_31 tw744 rfl qs145 rfl rfl rfl rfl (l10 r1 m1 p1 q1 r2 m2 p2 q2 c3) (fun r9 m9 p9 q9 => ?_)
    refine q_iast dX8_readStep_34 qs156 ((o11 r1 m1 p1 q1 r2 m2 p2 q2 c3 r9 m9 p9 q9)).1 ((o11 r1 m1 p1 q1 r2 m2 p2 q2 c3 r9 m9 p9 q9)).2 ?_
    refine q_aload_n dX8_readStep_35 rfl rfl ?_
    refine qx_bipush dX8_readStep_36 rfl rfl ?_
    refine qx_invV (ci := 6) [(0, 62)] [(0, 62), (2, 145)] rfl qM_X6_need dX8_readStep_38 tw745 rfl qs145 rfl rfl rfl rfl (l12 r1 m1 p1 q1 r2 m2 p2 q2 c3 r9 m9 p9 q9) (fun r10 m10 p10 q10 => ?_)
    refine q_aload_n dX8_readStep_41 rfl rfl ?_
    refine q_getR (ci := 8) (k := 2) dX8_readStep_42 rfl (by decide) rfl tw286 (by decide) qs154 qw154_2 (by decide) ?_
    refine q_aload_n dX8_readStep_45 rfl rfl ?_
    refine qx_getI (ci := 8) (k := 4) (v := (m10 154 4)) dX8_readStep_46 rfl rfl rfl tw290 rfl qs154 rfl ?_
    refine q_aload_n dX8_readStep_49 rfl rfl ?_
    refine qx_invV (ci := 6) [] [(2, 145), (0, (m10 154 4)), (2, 157)] rfl qM_X6_digit dX8_readStep_50 tw744 rfl qs145 rfl rfl rfl rfl (l13 r1 m1 p1 q1 r2 m2 p2 q2 c3 r9 m9 p9 q9 r10 m10 p10 q10) (fun r11 m11 p11 q11 => ?_)
    refine q_iast dX8_readStep_53 qs157 ((o14 r1 m1 p1 q1 r2 m2 p2 q2 c3 r9 m9 p9 q9 r10 m10 p10 q10 r11 m11 p11 q11)).1 ((o14 r1 m1 p1 q1 r2 m2 p2 q2 c3 r9 m9 p9 q9 r10 m10 p10 q10 r11 m11 p11 q11)).2 ?_
    refine q_aload_n dX8_readStep_54 rfl rfl ?_
    refine qx_bipush dX8_readStep_55 rfl rfl ?_
    refine qx_invV (ci := 6) [(0, 42)] [(0, 42), (2, 145)] rfl qM_X6_need dX8_readStep_57 tw745 rfl qs145 rfl rfl rfl rfl (l15 r1 m1 p1 q1 r2 m2 p2 q2 c3 r9 m9 p9 q9 r10 m10 p10 q10 r11 m11 p11 q11) (fun r12 m12 p12 q12 => ?_)
    refine q_goto (tgt := 109) dX8_readStep_60 (by decide) ?_
    exact l16 r1 m1 p1 q1 r2 m2 p2 q2 c3 r9 m9 p9 q9 r10 m10 p10 q10 r11 m11 p11 q11 r12 m12 p12 q12
theorem bkX8_readStep_81 {b : Int} {mem : qm} {Q : Int → qm → Prop}
    {P1 : Int → qm → Prop}
    (l1 : q_Ev yX6_digit cX6_digit 2 (some .int) 2 0 0 [(2, 145)] (q_sh0, q_rb b, mem) (qK (q_rb b) (P1)))
    (o2 : ∀ (r1 : Int), ∀ (m1 : qm), P1 r1 m1 → q_in32 r1 → (0 ≤ (mem 154 4) ∧ (mem 154 4) < 60))
    {P2 : Int → qm → Int → qm → Prop}
    (l3 : ∀ (r1 : Int), ∀ (m1 : qm), P1 r1 m1 → q_in32 r1 → q_Ev yX6_need cX6_need 2 none 3 0 0 [(2, 145), (0, 42)] (q_sh0, q_rb b, (q_up m1 156 (mem 154 4) r1)) (qK (q_rb b) (P2 r1 m1)))
    (l4 : ∀ (r1 : Int), ∀ (m1 : qm), P1 r1 m1 → q_in32 r1 → ∀ (r2 : Int), ∀ (m2 : qm), P2 r1 m1 r2 m2 → q_in32 r2 → q_At yX8_readStep cX8_readStep 2 none 4 0 0 (qK (q_rb b) Q) 109 [(2, 154), (2, 145)] [] (q_sh0, q_rb b, m2)) :
    q_At yX8_readStep cX8_readStep 2 none 4 0 0 (qK (q_rb b) Q) 81 [(2, 154), (2, 145)] [] (q_sh0, q_rb b, mem) := by
  refine q_aload_n dX8_readStep_81 rfl rfl ?_
  refine q_getR (ci := 8) (k := 1) dX8_readStep_82 rfl (by decide) rfl tw284 (by decide) qs154 qw154_1 (by decide) ?_
  refine q_aload_n dX8_readStep_85 rfl rfl ?_
  refine qx_getI (ci := 8) (k := 4) (v := (mem 154 4)) dX8_readStep_86 rfl rfl rfl tw290 rfl qs154 rfl ?_
  refine q_aload_n dX8_readStep_89 rfl rfl ?_
  refine qx_invV (ci := 6) [] [(2, 145), (0, (mem 154 4)), (2, 156)] rfl qM_X6_digit dX8_readStep_90 tw744 rfl qs145 rfl rfl rfl rfl (l1) (fun r1 m1 p1 q1 => ?_)
  refine q_iast dX8_readStep_93 qs156 ((o2 r1 m1 p1 q1)).1 ((o2 r1 m1 p1 q1)).2 ?_
  refine q_aload_n dX8_readStep_94 rfl rfl ?_
  refine qx_bipush dX8_readStep_95 rfl rfl ?_
  refine qx_invV (ci := 6) [(0, 42)] [(0, 42), (2, 145)] rfl qM_X6_need dX8_readStep_97 tw745 rfl qs145 rfl rfl rfl rfl (l3 r1 m1 p1 q1) (fun r2 m2 p2 q2 => ?_)
  refine q_goto (tgt := 109) dX8_readStep_100 (by decide) ?_
  exact l4 r1 m1 p1 q1 r2 m2 p2 q2
theorem bkX8_readStep_109 {b : Int} {mem : qm} {Q : Int → qm → Prop}
    {P1 : Int → qm → Prop}
    (l1 : q_Ev yX6_number cX6_number 4 (some .int) 3 0 0 [(2, 145), (0, 2)] (q_sh0, q_rb b, mem) (qK (q_rb b) (P1)))
    (o2 : ∀ (r1 : Int), ∀ (m1 : qm), P1 r1 m1 → q_in32 r1 → (0 ≤ (mem 154 4) ∧ (mem 154 4) < 60))
    (l3 : ∀ (r1 : Int), ∀ (m1 : qm), P1 r1 m1 → q_in32 r1 → Q 0 (q_up m1 158 (mem 154 4) r1)) :
    q_At yX8_readStep cX8_readStep 2 none 4 0 0 (qK (q_rb b) Q) 109 [(2, 154), (2, 145)] [] (q_sh0, q_rb b, mem) := by
  refine q_aload_n dX8_readStep_109 rfl rfl ?_
  refine q_getR (ci := 8) (k := 3) dX8_readStep_110 rfl (by decide) rfl tw288 (by decide) qs154 qw154_3 (by decide) ?_
  refine q_aload_n dX8_readStep_113 rfl rfl ?_
  refine qx_getI (ci := 8) (k := 4) (v := (mem 154 4)) dX8_readStep_114 rfl rfl rfl tw290 rfl qs154 rfl ?_
  refine q_aload_n dX8_readStep_117 rfl rfl ?_
  refine qx_iconst dX8_readStep_118 rfl rfl ?_
  refine qx_invV (ci := 6) [(0, 2)] [(0, 2), (2, 145), (0, (mem 154 4)), (2, 158)] rfl qM_X6_number dX8_readStep_119 tw746 rfl qs145 rfl rfl rfl rfl (l1) (fun r1 m1 p1 q1 => ?_)
  refine q_iast dX8_readStep_122 qs158 ((o2 r1 m1 p1 q1)).1 ((o2 r1 m1 p1 q1)).2 ?_
  exact q_vret dX8_readStep_123 (qK_i (l3 r1 m1 p1 q1))
theorem dX8_read_0 : decode cX8_read 0 = .ok (.aload_n 0, 1) := by decide +kernel
theorem dX8_read_1 : decode cX8_read 1 = .ok (.iconst 0, 1) := by decide +kernel
theorem dX8_read_2 : decode cX8_read 2 = .ok (.putfield 24, 3) := by decide +kernel
theorem dX8_read_5 : decode cX8_read 5 = .ok (.aload_n 1, 1) := by decide +kernel
theorem dX8_read_6 : decode cX8_read 6 = .ok (.bipush 60, 2) := by decide +kernel
theorem dX8_read_8 : decode cX8_read 8 = .ok (.invokevirtual 28, 3) := by decide +kernel
theorem dX8_read_11 : decode cX8_read 11 = .ok (.aload_n 1, 1) := by decide +kernel
theorem dX8_read_12 : decode cX8_read 12 = .ok (.getfield 34, 3) := by decide +kernel
theorem dX8_read_15 : decode cX8_read 15 = .ok (.ifCond .le 7, 3) := by decide +kernel
theorem dX8_read_18 : decode cX8_read 18 = .ok (.iconst 1, 1) := by decide +kernel
theorem dX8_read_19 : decode cX8_read 19 = .ok (.goto 4, 3) := by decide +kernel
theorem dX8_read_22 : decode cX8_read 22 = .ok (.iconst 0, 1) := by decide +kernel
theorem dX8_read_23 : decode cX8_read 23 = .ok (.istore_n 2, 1) := by decide +kernel
theorem dX8_read_24 : decode cX8_read 24 = .ok (.iload_n 2, 1) := by decide +kernel
theorem dX8_read_25 : decode cX8_read 25 = .ok (.ifCond .eq 37, 3) := by decide +kernel
theorem dX8_read_28 : decode cX8_read 28 = .ok (.aload_n 0, 1) := by decide +kernel
theorem dX8_read_29 : decode cX8_read 29 = .ok (.getfield 24, 3) := by decide +kernel
theorem dX8_read_32 : decode cX8_read 32 = .ok (.bipush 60, 2) := by decide +kernel
theorem dX8_read_34 : decode cX8_read 34 = .ok (.if_icmp .ge 28, 3) := by decide +kernel
theorem dX8_read_37 : decode cX8_read 37 = .ok (.aload_n 0, 1) := by decide +kernel
theorem dX8_read_38 : decode cX8_read 38 = .ok (.aload_n 1, 1) := by decide +kernel
theorem dX8_read_39 : decode cX8_read 39 = .ok (.invokevirtual 37, 3) := by decide +kernel
theorem dX8_read_42 : decode cX8_read 42 = .ok (.aload_n 0, 1) := by decide +kernel
theorem dX8_read_43 : decode cX8_read 43 = .ok (.dup, 1) := by decide +kernel
theorem dX8_read_44 : decode cX8_read 44 = .ok (.getfield 24, 3) := by decide +kernel
theorem dX8_read_47 : decode cX8_read 47 = .ok (.iconst 1, 1) := by decide +kernel
theorem dX8_read_48 : decode cX8_read 48 = .ok (.iadd, 1) := by decide +kernel
theorem dX8_read_49 : decode cX8_read 49 = .ok (.putfield 24, 3) := by decide +kernel
theorem dX8_read_52 : decode cX8_read 52 = .ok (.aload_n 1, 1) := by decide +kernel
theorem dX8_read_53 : decode cX8_read 53 = .ok (.bipush 59, 2) := by decide +kernel
theorem dX8_read_55 : decode cX8_read 55 = .ok (.invokevirtual 41, 3) := by decide +kernel
theorem dX8_read_58 : decode cX8_read 58 = .ok (.istore_n 2, 1) := by decide +kernel
theorem dX8_read_59 : decode cX8_read 59 = .ok (.goto (-35), 3) := by decide +kernel
theorem dX8_read_62 : decode cX8_read 62 = .ok (.aload_n 1, 1) := by decide +kernel
theorem dX8_read_63 : decode cX8_read 63 = .ok (.bipush 60, 2) := by decide +kernel
theorem dX8_read_65 : decode cX8_read 65 = .ok (.invokevirtual 45, 3) := by decide +kernel
theorem dX8_read_68 : decode cX8_read 68 = .ok (.ireturn, 1) := by decide +kernel
theorem bkX8_read_0 {b : Int} {mem : qm} {Q : Int → qm → Prop}
    {P1 : Int → qm → Prop}
    (l1 : q_Ev yX6_open cX6_open 2 none 1 0 0 [(2, 145), (0, 60)] (q_sh0, q_rb b, (q_up mem 154 4 0)) (qK (q_rb b) (P1)))
    (l2 : ∀ (r1 : Int), ∀ (m1 : qm), P1 r1 m1 → q_in32 r1 → (m1 145 1) ≤ 0 → q_At yX8_read cX8_read 3 (some .int) 5 0 0 (qK (q_rb b) Q) 24 [(2, 154), (2, 145), (0, 0)] [] (q_sh0, q_rb b, m1))
    (l3 : ∀ (r1 : Int), ∀ (m1 : qm), P1 r1 m1 → q_in32 r1 → 0 < (m1 145 1) → q_At yX8_read cX8_read 3 (some .int) 5 0 0 (qK (q_rb b) Q) 24 [(2, 154), (2, 145), (0, 1)] [] (q_sh0, q_rb b, m1)) :
    q_At yX8_read cX8_read 3 (some .int) 5 0 0 (qK (q_rb b) Q) 0 [(2, 154), (2, 145), (4, 0)] [] (q_sh0, q_rb b, mem) := by
  refine q_aload_n dX8_read_0 rfl rfl ?_
  refine qx_iconst dX8_read_1 rfl rfl ?_
  refine q_putI (ci := 8) (k := 4) (kI := 4) (ty := .int) dX8_read_2 rfl (by decide) rfl tw290 rfl rfl rfl (fun _ => ⟨rfl, rfl⟩) qs154 ?_
  refine q_aload_n dX8_read_5 rfl rfl ?_
  refine qx_bipush dX8_read_6 rfl rfl ?_
  refine qx_invV (ci := 6) [(0, 60)] [(0, 60), (2, 145)] rfl qM_X6_open dX8_read_8 tw737 rfl qs145 rfl rfl rfl rfl (l1) (fun r1 m1 p1 q1 => ?_)
  refine q_aload_n dX8_read_11 rfl rfl ?_
  refine qx_getI (ci := 6) (k := 1) (v := (m1 145 1)) dX8_read_12 rfl rfl rfl tw212 rfl qs145 rfl ?_
  refine qx_if_le (tgt := 22) dX8_read_15 (by decide) (fun c2 => ?_) (fun c2 => ?_)
  · skip
    refine qx_iconst dX8_read_22 rfl rfl ?_
    refine qx_istore_n (L' := [(2, 154), (2, 145), (0, 0)]) dX8_read_23 rfl rfl rfl rfl ?_
    exact l2 r1 m1 p1 q1 c2
  · skip
    refine qx_iconst dX8_read_18 rfl rfl ?_
    refine q_goto (tgt := 23) dX8_read_19 (by decide) ?_
    refine qx_istore_n (L' := [(2, 154), (2, 145), (0, 1)]) dX8_read_23 rfl rfl rfl rfl ?_
    exact l3 r1 m1 p1 q1 c2
theorem bkX8_read_24 {b : Int} {mem : qm} {Q : Int → qm → Prop}
    {v2 : Int}
    {P2 : Int → qm → Prop}
    (l1 : v2 = 0 → q_Ev yX6_close cX6_close 2 (some .int) 2 0 0 [(2, 145), (0, 60)] (q_sh0, q_rb b, mem) (qK (q_rb b) (P2)))
    (l2 : v2 = 0 → ∀ (r2 : Int), ∀ (m2 : qm), P2 r2 m2 → q_in32 r2 → Q r2 m2)
    {P4 : Int → qm → Prop}
    (l3 : v2 ≠ 0 → 60 ≤ (mem 154 4) → q_Ev yX6_close cX6_close 2 (some .int) 2 0 0 [(2, 145), (0, 60)] (q_sh0, q_rb b, mem) (qK (q_rb b) (P4)))
    (l4 : v2 ≠ 0 → 60 ≤ (mem 154 4) → ∀ (r4 : Int), ∀ (m4 : qm), P4 r4 m4 → q_in32 r4 → Q r4 m4)
    {P5 : Int → qm → Prop}
    (l5 : v2 ≠ 0 → (mem 154 4) < 60 → q_Ev yX8_readStep cX8_readStep 2 none 4 0 0 [(2, 154), (2, 145)] (q_sh0, q_rb b, mem) (qK (q_rb b) (P5)))
    (o6 : v2 ≠ 0 → (mem 154 4) < 60 → ∀ (r5 : Int), ∀ (m5 : qm), P5 r5 m5 → q_in32 r5 → q_in32 ((m5 154 4) + 1))
    {P6 : Int → qm → Int → qm → Prop}
    (l7 : v2 ≠ 0 → (mem 154 4) < 60 → ∀ (r5 : Int), ∀ (m5 : qm), P5 r5 m5 → q_in32 r5 → q_Ev yX6_skip cX6_skip 2 (some .boolean) 2 0 0 [(2, 145), (0, 59)] (q_sh0, q_rb b, (q_up m5 154 4 ((m5 154 4) + 1))) (qK (q_rb b) (P6 r5 m5)))
    (l8 : v2 ≠ 0 → (mem 154 4) < 60 → ∀ (r5 : Int), ∀ (m5 : qm), P5 r5 m5 → q_in32 r5 → ∀ (r6 : Int), ∀ (m6 : qm), P6 r5 m5 r6 m6 → q_in32 r6 → q_At yX8_read cX8_read 3 (some .int) 5 0 0 (qK (q_rb b) Q) 24 [(2, 154), (2, 145), (0, r6)] [] (q_sh0, q_rb b, m6)) :
    q_At yX8_read cX8_read 3 (some .int) 5 0 0 (qK (q_rb b) Q) 24 [(2, 154), (2, 145), (0, v2)] [] (q_sh0, q_rb b, mem) := by
  refine q_iload_n dX8_read_24 rfl rfl ?_
  refine qx_if_eq (tgt := 62) dX8_read_25 (by decide) (fun c1 => ?_) (fun c1 => ?_)
  · skip
    refine q_aload_n dX8_read_62 rfl rfl ?_
    refine qx_bipush dX8_read_63 rfl rfl ?_
    refine qx_invV (ci := 6) [(0, 60)] [(0, 60), (2, 145)] rfl qM_X6_close dX8_read_65 tw747 rfl qs145 rfl rfl rfl rfl (l1 c1) (fun r2 m2 p2 q2 => ?_)
    exact q_iret dX8_read_68 (qK_i (l2 c1 r2 m2 p2 q2))
  · skip
    refine q_aload_n dX8_read_28 rfl rfl ?_
    refine qx_getI (ci := 8) (k := 4) (v := (mem 154 4)) dX8_read_29 rfl rfl rfl tw290 rfl qs154 rfl ?_
    refine qx_bipush dX8_read_32 rfl rfl ?_
    refine qx_icmp_ge (tgt := 62) dX8_read_34 (by decide) (fun c3 => ?_) (fun c3 => ?_)
    · skip
      refine q_aload_n dX8_read_62 rfl rfl ?_
      refine qx_bipush dX8_read_63 rfl rfl ?_
      refine qx_invV (ci := 6) [(0, 60)] [(0, 60), (2, 145)] rfl qM_X6_close dX8_read_65 tw747 rfl qs145 rfl rfl rfl rfl (l3 c1 c3) (fun r4 m4 p4 q4 => ?_)
      exact q_iret dX8_read_68 (qK_i (l4 c1 c3 r4 m4 p4 q4))
    · skip
      refine q_aload_n dX8_read_37 rfl rfl ?_
      refine q_aload_n dX8_read_38 rfl rfl ?_
      refine qx_invV (ci := 8) [(2, 145)] [(2, 145), (2, 154)] rfl qM_X8_readStep dX8_read_39 tw738 rfl qs154 rfl rfl rfl rfl (l5 c1 c3) (fun r5 m5 p5 q5 => ?_)
      refine q_aload_n dX8_read_42 rfl rfl ?_
      refine q_dup dX8_read_43 (fun h => by cases h) ?_
      refine qx_getI (ci := 8) (k := 4) (v := (m5 154 4)) dX8_read_44 rfl rfl rfl tw290 rfl qs154 rfl ?_
      refine qx_iconst dX8_read_47 rfl rfl ?_
      refine qx_iadd dX8_read_48 (o6 c1 c3 r5 m5 p5 q5) ?_
      refine q_putI (ci := 8) (k := 4) (kI := 4) (ty := .int) dX8_read_49 rfl (by decide) rfl tw290 rfl rfl rfl (fun _ => ⟨rfl, rfl⟩) qs154 ?_
      refine q_aload_n dX8_read_52 rfl rfl ?_
      refine qx_bipush dX8_read_53 rfl rfl ?_
      refine qx_invV (ci := 6) [(0, 59)] [(0, 59), (2, 145)] rfl qM_X6_skip dX8_read_55 tw743 rfl qs145 rfl rfl rfl rfl (l7 c1 c3 r5 m5 p5 q5) (fun r6 m6 p6 q6 => ?_)
      refine qx_istore_n (L' := [(2, 154), (2, 145), (0, r6)]) dX8_read_58 rfl rfl rfl rfl ?_
      refine q_goto (tgt := 24) dX8_read_59 (by decide) ?_
      exact l8 c1 c3 r5 m5 p5 q5 r6 m6 p6 q6
theorem dX11_doStep_0 : decode cX11_doStep 0 = .ok (.aload_n 0, 1) := by decide +kernel
theorem dX11_doStep_1 : decode cX11_doStep 1 = .ok (.getfield 83, 3) := by decide +kernel
theorem dX11_doStep_4 : decode cX11_doStep 4 = .ok (.getfield 252, 3) := by decide +kernel
theorem dX11_doStep_7 : decode cX11_doStep 7 = .ok (.iload_n 1, 1) := by decide +kernel
theorem dX11_doStep_8 : decode cX11_doStep 8 = .ok (.iaload, 1) := by decide +kernel
theorem dX11_doStep_9 : decode cX11_doStep 9 = .ok (.istore_n 2, 1) := by decide +kernel
theorem dX11_doStep_10 : decode cX11_doStep 10 = .ok (.aload_n 0, 1) := by decide +kernel
theorem dX11_doStep_11 : decode cX11_doStep 11 = .ok (.getfield 83, 3) := by decide +kernel
theorem dX11_doStep_14 : decode cX11_doStep 14 = .ok (.getfield 255, 3) := by decide +kernel
theorem dX11_doStep_17 : decode cX11_doStep 17 = .ok (.iload_n 1, 1) := by decide +kernel
theorem dX11_doStep_18 : decode cX11_doStep 18 = .ok (.iaload, 1) := by decide +kernel
theorem dX11_doStep_19 : decode cX11_doStep 19 = .ok (.istore_n 3, 1) := by decide +kernel
theorem dX11_doStep_20 : decode cX11_doStep 20 = .ok (.aload_n 0, 1) := by decide +kernel
theorem dX11_doStep_21 : decode cX11_doStep 21 = .ok (.getfield 83, 3) := by decide +kernel
theorem dX11_doStep_24 : decode cX11_doStep 24 = .ok (.getfield 258, 3) := by decide +kernel
theorem dX11_doStep_27 : decode cX11_doStep 27 = .ok (.iload_n 1, 1) := by decide +kernel
theorem dX11_doStep_28 : decode cX11_doStep 28 = .ok (.iaload, 1) := by decide +kernel
theorem dX11_doStep_29 : decode cX11_doStep 29 = .ok (.lookupswitch 105 #[(98, 67), (112, 43), (115, 88), (119, 81)], 43) := by decide +kernel
theorem dX11_doStep_72 : decode cX11_doStep 72 = .ok (.aload_n 0, 1) := by decide +kernel
theorem dX11_doStep_73 : decode cX11_doStep 73 = .ok (.iload_n 2, 1) := by decide +kernel
theorem dX11_doStep_74 : decode cX11_doStep 74 = .ok (.aload_n 0, 1) := by decide +kernel
theorem dX11_doStep_75 : decode cX11_doStep 75 = .ok (.getfield 83, 3) := by decide +kernel
theorem dX11_doStep_78 : decode cX11_doStep 78 = .ok (.getfield 261, 3) := by decide +kernel
theorem dX11_doStep_81 : decode cX11_doStep 81 = .ok (.iload_n 1, 1) := by decide +kernel
theorem dX11_doStep_82 : decode cX11_doStep 82 = .ok (.iaload, 1) := by decide +kernel
theorem dX11_doStep_83 : decode cX11_doStep 83 = .ok (.iload_n 3, 1) := by decide +kernel
theorem dX11_doStep_84 : decode cX11_doStep 84 = .ok (.invokevirtual 264, 3) := by decide +kernel
theorem dX11_doStep_87 : decode cX11_doStep 87 = .ok (.ifCond .lt 7, 3) := by decide +kernel
theorem dX11_doStep_90 : decode cX11_doStep 90 = .ok (.iconst 1, 1) := by decide +kernel
theorem dX11_doStep_91 : decode cX11_doStep 91 = .ok (.goto 4, 3) := by decide +kernel
theorem dX11_doStep_94 : decode cX11_doStep 94 = .ok (.iconst 0, 1) := by decide +kernel
theorem dX11_doStep_95 : decode cX11_doStep 95 = .ok (.ireturn, 1) := by decide +kernel
theorem dX11_doStep_96 : decode cX11_doStep 96 = .ok (.aload_n 0, 1) := by decide +kernel
theorem dX11_doStep_97 : decode cX11_doStep 97 = .ok (.iload_n 3, 1) := by decide +kernel
theorem dX11_doStep_98 : decode cX11_doStep 98 = .ok (.invokevirtual 268, 3) := by decide +kernel
theorem dX11_doStep_101 : decode cX11_doStep 101 = .ok (.ifCond .lt 7, 3) := by decide +kernel
theorem dX11_doStep_104 : decode cX11_doStep 104 = .ok (.iconst 1, 1) := by decide +kernel
theorem dX11_doStep_105 : decode cX11_doStep 105 = .ok (.goto 4, 3) := by decide +kernel
theorem dX11_doStep_108 : decode cX11_doStep 108 = .ok (.iconst 0, 1) := by decide +kernel
theorem dX11_doStep_109 : decode cX11_doStep 109 = .ok (.ireturn, 1) := by decide +kernel
theorem dX11_doStep_110 : decode cX11_doStep 110 = .ok (.aload_n 0, 1) := by decide +kernel
theorem dX11_doStep_111 : decode cX11_doStep 111 = .ok (.iload_n 2, 1) := by decide +kernel
theorem dX11_doStep_112 : decode cX11_doStep 112 = .ok (.iload_n 3, 1) := by decide +kernel
theorem dX11_doStep_113 : decode cX11_doStep 113 = .ok (.invokevirtual 271, 3) := by decide +kernel
theorem dX11_doStep_116 : decode cX11_doStep 116 = .ok (.ireturn, 1) := by decide +kernel
theorem dX11_doStep_117 : decode cX11_doStep 117 = .ok (.aload_n 0, 1) := by decide +kernel
theorem dX11_doStep_118 : decode cX11_doStep 118 = .ok (.iload_n 2, 1) := by decide +kernel
theorem dX11_doStep_119 : decode cX11_doStep 119 = .ok (.bipush 6, 2) := by decide +kernel
theorem dX11_doStep_121 : decode cX11_doStep 121 = .ok (.iload_n 3, 1) := by decide +kernel
theorem dX11_doStep_122 : decode cX11_doStep 122 = .ok (.invokevirtual 273, 3) := by decide +kernel
theorem dX11_doStep_125 : decode cX11_doStep 125 = .ok (.ifCond .lt 7, 3) := by decide +kernel
theorem dX11_doStep_128 : decode cX11_doStep 128 = .ok (.iconst 1, 1) := by decide +kernel
theorem dX11_doStep_129 : decode cX11_doStep 129 = .ok (.goto 4, 3) := by decide +kernel
theorem dX11_doStep_132 : decode cX11_doStep 132 = .ok (.iconst 0, 1) := by decide +kernel
theorem dX11_doStep_133 : decode cX11_doStep 133 = .ok (.ireturn, 1) := by decide +kernel
theorem dX11_doStep_134 : decode cX11_doStep 134 = .ok (.iconst 0, 1) := by decide +kernel
theorem dX11_doStep_135 : decode cX11_doStep 135 = .ok (.ireturn, 1) := by decide +kernel
theorem bkX11_doStep_0 {b : Int} {mem : qm} {Q : Int → qm → Prop}
    {v : Int}
    (o1 : (0 ≤ v ∧ v < 60))
    {P2 : Int → qm → Prop}
    (l2 : (mem 155 v) = 98 → q_Ev yX11_bells cX11_bells 4 (some .int) 5 0 0 [(2, 0), (0, (mem 158 v))] (q_sh0, q_rb b, mem) (qK (q_rb b) (P2)))
    (l3 : (mem 155 v) = 98 → ∀ (r2 : Int), ∀ (m2 : qm), P2 r2 m2 → q_in32 r2 → r2 < 0 → Q 0 m2)
    (l4 : (mem 155 v) = 98 → ∀ (r2 : Int), ∀ (m2 : qm), P2 r2 m2 → q_in32 r2 → 0 ≤ r2 → Q 1 m2)
    {P5 : Int → qm → Prop}
    (l5 : (mem 155 v) ≠ 98 → (mem 155 v) = 112 → q_Ev yX11_pour cX11_pour 5 (some .int) 4 0 0 [(2, 0), (0, (mem 156 v)), (0, (mem 157 v)), (0, (mem 158 v))] (q_sh0, q_rb b, mem) (qK (q_rb b) (P5)))
    (l6 : (mem 155 v) ≠ 98 → (mem 155 v) = 112 → ∀ (r5 : Int), ∀ (m5 : qm), P5 r5 m5 → q_in32 r5 → r5 < 0 → Q 0 m5)
    (l7 : (mem 155 v) ≠ 98 → (mem 155 v) = 112 → ∀ (r5 : Int), ∀ (m5 : qm), P5 r5 m5 → q_in32 r5 → 0 ≤ r5 → Q 1 m5)
    {P8 : Int → qm → Prop}
    (l8 : (mem 155 v) ≠ 98 → (mem 155 v) ≠ 112 → (mem 155 v) = 115 → q_Ev yX11_spring cX11_spring 6 (some .int) 3 0 0 [(2, 0), (0, (mem 156 v)), (0, 6), (0, (mem 158 v))] (q_sh0, q_rb b, mem) (qK (q_rb b) (P8)))
    (l9 : (mem 155 v) ≠ 98 → (mem 155 v) ≠ 112 → (mem 155 v) = 115 → ∀ (r8 : Int), ∀ (m8 : qm), P8 r8 m8 → q_in32 r8 → r8 < 0 → Q 0 m8)
    (l10 : (mem 155 v) ≠ 98 → (mem 155 v) ≠ 112 → (mem 155 v) = 115 → ∀ (r8 : Int), ∀ (m8 : qm), P8 r8 m8 → q_in32 r8 → 0 ≤ r8 → Q 1 m8)
    {P11 : Int → qm → Prop}
    (l11 : (mem 155 v) ≠ 98 → (mem 155 v) ≠ 112 → (mem 155 v) ≠ 115 → (mem 155 v) = 119 → q_Ev yX11_wax cX11_wax 3 (some .boolean) 4 0 0 [(2, 0), (0, (mem 156 v)), (0, (mem 158 v))] (q_sh0, q_rb b, mem) (qK (q_rb b) (P11)))
    (o12 : (mem 155 v) ≠ 98 → (mem 155 v) ≠ 112 → (mem 155 v) ≠ 115 → (mem 155 v) = 119 → ∀ (r11 : Int), ∀ (m11 : qm), P11 r11 m11 → q_in32 r11 → (r11 = 0 ∨ r11 = 1))
    (l13 : (mem 155 v) ≠ 98 → (mem 155 v) ≠ 112 → (mem 155 v) ≠ 115 → (mem 155 v) = 119 → ∀ (r11 : Int), ∀ (m11 : qm), P11 r11 m11 → q_in32 r11 → Q r11 m11)
    (l14 : (mem 155 v) ≠ 98 → (mem 155 v) ≠ 112 → (mem 155 v) ≠ 115 → (mem 155 v) ≠ 119 → Q 0 mem) :
    q_At yX11_doStep cX11_doStep 4 (some .boolean) 6 0 0 (qK (q_rb b) Q) 0 [(2, 0), (0, v), (4, 0), (4, 0)] [] (q_sh0, q_rb b, mem) := by
  refine q_aload_n dX11_doStep_0 rfl rfl ?_
  refine q_getR (ci := 11) (k := 11) dX11_doStep_1 rfl (by decide) rfl tw360 (by decide) qs0 qw0_11 (by decide) ?_
  refine q_getR (ci := 8) (k := 1) dX11_doStep_4 rfl (by decide) rfl tw285 (by decide) qs154 qw154_1 (by decide) ?_
  refine q_iload_n dX11_doStep_7 rfl rfl ?_
  refine qx_iald (v := (mem 156 v)) dX11_doStep_8 qs156 (o1) rfl ?_
  refine qx_istore_n (L' := [(2, 0), (0, v), (0, (mem 156 v)), (4, 0)]) dX11_doStep_9 rfl rfl rfl rfl ?_
  refine q_aload_n dX11_doStep_10 rfl rfl ?_
  refine q_getR (ci := 11) (k := 11) dX11_doStep_11 rfl (by decide) rfl tw360 (by decide) qs0 qw0_11 (by decide) ?_
  refine q_getR (ci := 8) (k := 3) dX11_doStep_14 rfl (by decide) rfl tw289 (by decide) qs154 qw154_3 (by decide) ?_
  refine q_iload_n dX11_doStep_17 rfl rfl ?_
  refine qx_iald (v := (mem 158 v)) dX11_doStep_18 qs158 (o1) rfl ?_
  refine qx_istore_n (L' := [(2, 0), (0, v), (0, (mem 156 v)), (0, (mem 158 v))]) dX11_doStep_19 rfl rfl rfl rfl ?_
  refine q_aload_n dX11_doStep_20 rfl rfl ?_
  refine q_getR (ci := 11) (k := 11) dX11_doStep_21 rfl (by decide) rfl tw360 (by decide) qs0 qw0_11 (by decide) ?_
  refine q_getR (ci := 8) (k := 0) dX11_doStep_24 rfl (by decide) rfl tw283 (by decide) qs154 qw154_0 (by decide) ?_
  refine q_iload_n dX11_doStep_27 rfl rfl ?_
  refine qx_iald (v := (mem 155 v)) dX11_doStep_28 qs155 (o1) rfl ?_
  by_cases c1 : (mem 155 v) = 98
  · skip
    refine q_look (off := 67) (tgt := 96) dX11_doStep_29 (by decide) (by rw [c1]; rfl) (by decide) ?_
    refine q_aload_n dX11_doStep_96 rfl rfl ?_
    refine q_iload_n dX11_doStep_97 rfl rfl ?_
    refine qx_invV (ci := 11) [(0, (mem 158 v))] [(0, (mem 158 v)), (2, 0)] rfl qM_X11_bells dX11_doStep_98 tw753 rfl qs0 rfl rfl rfl rfl (l2 c1) (fun r2 m2 p2 q2 => ?_)
    refine qx_if_lt (tgt := 108) dX11_doStep_101 (by decide) (fun c3 => ?_) (fun c3 => ?_)
    · skip
      refine qx_iconst dX11_doStep_108 rfl rfl ?_
      exact q_zret dX11_doStep_109 (by decide) (qK_i (l3 c1 r2 m2 p2 q2 c3))
    · skip
      refine qx_iconst dX11_doStep_104 rfl rfl ?_
      refine q_goto (tgt := 109) dX11_doStep_105 (by decide) ?_
      exact q_zret dX11_doStep_109 (by decide) (qK_i (l4 c1 r2 m2 p2 q2 c3))
  by_cases c4 : (mem 155 v) = 112
  · skip
    refine q_look (off := 43) (tgt := 72) dX11_doStep_29 (by decide) (by rw [c4]; rfl) (by decide) ?_
    refine q_aload_n dX11_doStep_72 rfl rfl ?_
    refine q_iload_n dX11_doStep_73 rfl rfl ?_
    refine q_aload_n dX11_doStep_74 rfl rfl ?_
    refine q_getR (ci := 11) (k := 11) dX11_doStep_75 rfl (by decide) rfl tw360 (by decide) qs0 qw0_11 (by decide) ?_
    refine q_getR (ci := 8) (k := 2) dX11_doStep_78 rfl (by decide) rfl tw287 (by decide) qs154 qw154_2 (by decide) ?_
    refine q_iload_n dX11_doStep_81 rfl rfl ?_
    refine qx_iald (v := (mem 157 v)) dX11_doStep_82 qs157 (o1) rfl ?_
    refine q_iload_n dX11_doStep_83 rfl rfl ?_
    refine qx_invV (ci := 11) [(0, (mem 156 v)), (0, (mem 157 v)), (0, (mem 158 v))] [(0, (mem 158 v)), (0, (mem 157 v)), (0, (mem 156 v)), (2, 0)] rfl qM_X11_pour dX11_doStep_84 tw752 rfl qs0 rfl rfl rfl rfl (l5 c1 c4) (fun r5 m5 p5 q5 => ?_)
    refine qx_if_lt (tgt := 94) dX11_doStep_87 (by decide) (fun c6 => ?_) (fun c6 => ?_)
    · skip
      refine qx_iconst dX11_doStep_94 rfl rfl ?_
      exact q_zret dX11_doStep_95 (by decide) (qK_i (l6 c1 c4 r5 m5 p5 q5 c6))
    · skip
      refine qx_iconst dX11_doStep_90 rfl rfl ?_
      refine q_goto (tgt := 95) dX11_doStep_91 (by decide) ?_
      exact q_zret dX11_doStep_95 (by decide) (qK_i (l7 c1 c4 r5 m5 p5 q5 c6))
  by_cases c7 : (mem 155 v) = 115
  · skip
    refine q_look (off := 88) (tgt := 117) dX11_doStep_29 (by decide) (by rw [c7]; rfl) (by decide) ?_
    refine q_aload_n dX11_doStep_117 rfl rfl ?_
    refine q_iload_n dX11_doStep_118 rfl rfl ?_
    refine qx_bipush dX11_doStep_119 rfl rfl ?_
    refine q_iload_n dX11_doStep_121 rfl rfl ?_
    refine qx_invV (ci := 11) [(0, (mem 156 v)), (0, 6), (0, (mem 158 v))] [(0, (mem 158 v)), (0, 6), (0, (mem 156 v)), (2, 0)] rfl qM_X11_spring dX11_doStep_122 tw755 rfl qs0 rfl rfl rfl rfl (l8 c1 c4 c7) (fun r8 m8 p8 q8 => ?_)
    refine qx_if_lt (tgt := 132) dX11_doStep_125 (by decide) (fun c9 => ?_) (fun c9 => ?_)
    · skip
      refine qx_iconst dX11_doStep_132 rfl rfl ?_
      exact q_zret dX11_doStep_133 (by decide) (qK_i (l9 c1 c4 c7 r8 m8 p8 q8 c9))
    · skip
      refine qx_iconst dX11_doStep_128 rfl rfl ?_
      refine q_goto (tgt := 133) dX11_doStep_129 (by decide) ?_
      exact q_zret dX11_doStep_133 (by decide) (qK_i (l10 c1 c4 c7 r8 m8 p8 q8 c9))
  by_cases c10 : (mem 155 v) = 119
  · skip
    refine q_look (off := 81) (tgt := 110) dX11_doStep_29 (by decide) (by rw [c10]; rfl) (by decide) ?_
    refine q_aload_n dX11_doStep_110 rfl rfl ?_
    refine q_iload_n dX11_doStep_111 rfl rfl ?_
    refine q_iload_n dX11_doStep_112 rfl rfl ?_
    refine qx_invV (ci := 11) [(0, (mem 156 v)), (0, (mem 158 v))] [(0, (mem 158 v)), (0, (mem 156 v)), (2, 0)] rfl qM_X11_wax dX11_doStep_113 tw754 rfl qs0 rfl rfl rfl rfl (l11 c1 c4 c7 c10) (fun r11 m11 p11 q11 => ?_)
    exact q_zret dX11_doStep_116 (o12 c1 c4 c7 c10 r11 m11 p11 q11) (qK_i (l13 c1 c4 c7 c10 r11 m11 p11 q11))
  refine q_look (off := 105) (tgt := 134) dX11_doStep_29 (by decide) (by simp only [lookupswitch.offset_cons, lookupswitch.offset_nil]; repeat rw [if_neg (by omega)]) (by decide) ?_
  refine qx_iconst dX11_doStep_134 rfl rfl ?_
  exact q_zret dX11_doStep_135 (by decide) (qK_i (l14 c1 c4 c7 c10))
theorem dX11_order_0 : decode cX11_order 0 = .ok (.aload_n 0, 1) := by decide +kernel
theorem dX11_order_1 : decode cX11_order 1 = .ok (.getfield 83, 3) := by decide +kernel
theorem dX11_order_4 : decode cX11_order 4 = .ok (.aload_n 0, 1) := by decide +kernel
theorem dX11_order_5 : decode cX11_order 5 = .ok (.getfield 60, 3) := by decide +kernel
theorem dX11_order_8 : decode cX11_order 8 = .ok (.invokevirtual 247, 3) := by decide +kernel
theorem dX11_order_11 : decode cX11_order 11 = .ok (.istore_n 1, 1) := by decide +kernel
theorem dX11_order_12 : decode cX11_order 12 = .ok (.aload_n 0, 1) := by decide +kernel
theorem dX11_order_13 : decode cX11_order 13 = .ok (.getfield 60, 3) := by decide +kernel
theorem dX11_order_16 : decode cX11_order 16 = .ok (.iconst 0, 1) := by decide +kernel
theorem dX11_order_17 : decode cX11_order 17 = .ok (.putfield 107, 3) := by decide +kernel
theorem dX11_order_20 : decode cX11_order 20 = .ok (.iload_n 1, 1) := by decide +kernel
theorem dX11_order_21 : decode cX11_order 21 = .ok (.ifCond .ge 5, 3) := by decide +kernel
theorem dX11_order_24 : decode cX11_order 24 = .ok (.iload_n 1, 1) := by decide +kernel
theorem dX11_order_25 : decode cX11_order 25 = .ok (.ireturn, 1) := by decide +kernel
theorem dX11_order_26 : decode cX11_order 26 = .ok (.aload_n 0, 1) := by decide +kernel
theorem dX11_order_27 : decode cX11_order 27 = .ok (.getfield 19, 3) := by decide +kernel
theorem dX11_order_30 : decode cX11_order 30 = .ok (.invokevirtual 217, 3) := by decide +kernel
theorem dX11_order_33 : decode cX11_order 33 = .ok (.istore_n 2, 1) := by decide +kernel
theorem dX11_order_34 : decode cX11_order 34 = .ok (.iconst 0, 1) := by decide +kernel
theorem dX11_order_35 : decode cX11_order 35 = .ok (.istore_n 3, 1) := by decide +kernel
theorem dX11_order_36 : decode cX11_order 36 = .ok (.iload_n 3, 1) := by decide +kernel
theorem dX11_order_37 : decode cX11_order 37 = .ok (.aload_n 0, 1) := by decide +kernel
theorem dX11_order_38 : decode cX11_order 38 = .ok (.getfield 83, 3) := by decide +kernel
theorem dX11_order_41 : decode cX11_order 41 = .ok (.getfield 248, 3) := by decide +kernel
theorem dX11_order_44 : decode cX11_order 44 = .ok (.if_icmp .ge 17, 3) := by decide +kernel
theorem dX11_order_47 : decode cX11_order 47 = .ok (.aload_n 0, 1) := by decide +kernel
theorem dX11_order_48 : decode cX11_order 48 = .ok (.iload_n 3, 1) := by decide +kernel
theorem dX11_order_49 : decode cX11_order 49 = .ok (.invokevirtual 249, 3) := by decide +kernel
theorem dX11_order_52 : decode cX11_order 52 = .ok (.ifCond .eq 9, 3) := by decide +kernel
theorem dX11_order_55 : decode cX11_order 55 = .ok (.iinc 3 1, 3) := by decide +kernel
theorem dX11_order_58 : decode cX11_order 58 = .ok (.goto (-22), 3) := by decide +kernel
theorem dX11_order_61 : decode cX11_order 61 = .ok (.aload_n 0, 1) := by decide +kernel
theorem dX11_order_62 : decode cX11_order 62 = .ok (.invokevirtual 223, 3) := by decide +kernel
theorem dX11_order_65 : decode cX11_order 65 = .ok (.aload_n 0, 1) := by decide +kernel
theorem dX11_order_66 : decode cX11_order 66 = .ok (.aload_n 0, 1) := by decide +kernel
theorem dX11_order_67 : decode cX11_order 67 = .ok (.getfield 19, 3) := by decide +kernel
theorem dX11_order_70 : decode cX11_order 70 = .ok (.invokevirtual 217, 3) := by decide +kernel
theorem dX11_order_73 : decode cX11_order 73 = .ok (.iload_n 2, 1) := by decide +kernel
theorem dX11_order_74 : decode cX11_order 74 = .ok (.isub, 1) := by decide +kernel
theorem dX11_order_75 : decode cX11_order 75 = .ok (.invokevirtual 229, 3) := by decide +kernel
theorem dX11_order_78 : decode cX11_order 78 = .ok (.aload_n 0, 1) := by decide +kernel
theorem dX11_order_79 : decode cX11_order 79 = .ok (.iload_n 3, 1) := by decide +kernel
theorem dX11_order_80 : decode cX11_order 80 = .ok (.aload_n 0, 1) := by decide +kernel
theorem dX11_order_81 : decode cX11_order 81 = .ok (.getfield 83, 3) := by decide +kernel
theorem dX11_order_84 : decode cX11_order 84 = .ok (.getfield 248, 3) := by decide +kernel
theorem dX11_order_87 : decode cX11_order 87 = .ok (.if_icmp .ge 7, 3) := by decide +kernel
theorem dX11_order_90 : decode cX11_order 90 = .ok (.iconst 1, 1) := by decide +kernel
theorem dX11_order_91 : decode cX11_order 91 = .ok (.goto 4, 3) := by decide +kernel
theorem dX11_order_94 : decode cX11_order 94 = .ok (.iconst 0, 1) := by decide +kernel
theorem dX11_order_95 : decode cX11_order 95 = .ok (.invokevirtual 229, 3) := by decide +kernel
theorem dX11_order_98 : decode cX11_order 98 = .ok (.iload_n 3, 1) := by decide +kernel
theorem dX11_order_99 : decode cX11_order 99 = .ok (.ireturn, 1) := by decide +kernel
theorem bkX11_order_0 {b : Int} {mem : qm} {Q : Int → qm → Prop}
    {P1 : Int → qm → Prop}
    (l1 : q_Ev yX8_read cX8_read 3 (some .int) 5 0 0 [(2, 154), (2, 145)] (q_sh0, q_rb b, mem) (qK (q_rb b) (P1)))
    {P3 : Int → qm → Int → qm → Prop}
    (l2 : ∀ (r1 : Int), ∀ (m1 : qm), P1 r1 m1 → q_in32 r1 → 0 ≤ r1 → q_Ev yX7_lost cX7_lost 3 (some .int) 1 0 0 [(2, 5)] (q_sh0, q_rb b, (q_up m1 145 1 0)) (qK (q_rb b) (P3 r1 m1)))
    (l3 : ∀ (r1 : Int), ∀ (m1 : qm), P1 r1 m1 → q_in32 r1 → 0 ≤ r1 → ∀ (r3 : Int), ∀ (m3 : qm), P3 r1 m1 r3 m3 → q_in32 r3 → q_At yX11_order cX11_order 4 (some .int) 7 0 0 (qK (q_rb b) Q) 36 [(2, 0), (0, r1), (0, r3), (0, 0)] [] (q_sh0, q_rb b, m3))
    (l4 : ∀ (r1 : Int), ∀ (m1 : qm), P1 r1 m1 → q_in32 r1 → r1 < 0 → Q r1 (q_up m1 145 1 0)) :
    q_At yX11_order cX11_order 4 (some .int) 7 0 0 (qK (q_rb b) Q) 0 [(2, 0), (4, 0), (4, 0), (4, 0)] [] (q_sh0, q_rb b, mem) := by
  refine q_aload_n dX11_order_0 rfl rfl ?_
  refine q_getR (ci := 11) (k := 11) dX11_order_1 rfl (by decide) rfl tw360 (by decide) qs0 qw0_11 (by decide) ?_
  refine q_aload_n dX11_order_4 rfl rfl ?_
  refine q_getR (ci := 11) (k := 8) dX11_order_5 rfl (by decide) rfl tw357 (by decide) qs0 qw0_8 (by decide) ?_
  refine qx_invV (ci := 8) [(2, 145)] [(2, 145), (2, 154)] rfl qM_X8_read dX11_order_8 tw733 rfl qs154 rfl rfl rfl rfl (l1) (fun r1 m1 p1 q1 => ?_)
  refine qx_istore_n (L' := [(2, 0), (0, r1), (4, 0), (4, 0)]) dX11_order_11 rfl rfl rfl rfl ?_
  refine q_aload_n dX11_order_12 rfl rfl ?_
  refine q_getR (ci := 11) (k := 8) dX11_order_13 rfl (by decide) rfl tw357 (by decide) qs0 qw0_8 (by decide) ?_
  refine qx_iconst dX11_order_16 rfl rfl ?_
  refine q_putI (ci := 6) (k := 1) (kI := 1) (ty := .int) dX11_order_17 rfl (by decide) rfl tw211 rfl rfl rfl (fun _ => ⟨rfl, rfl⟩) qs145 ?_
  refine q_iload_n dX11_order_20 rfl rfl ?_
  refine qx_if_ge (tgt := 26) dX11_order_21 (by decide) (fun c2 => ?_) (fun c2 => ?_)
  · skip
    refine q_aload_n dX11_order_26 rfl rfl ?_
    refine q_getR (ci := 11) (k := 1) dX11_order_27 rfl (by decide) rfl tw350 (by decide) qs0 qw0_1 (by decide) ?_
    refine qx_invV (ci := 7) [] [(2, 5)] rfl qM_X7_lost dX11_order_30 tw671 rfl qs5 rfl rfl rfl rfl (l2 r1 m1 p1 q1 c2) (fun r3 m3 p3 q3 => ?_)
    refine qx_istore_n (L' := [(2, 0), (0, r1), (0, r3), (4, 0)]) dX11_order_33 rfl rfl rfl rfl ?_
    refine qx_iconst dX11_order_34 rfl rfl ?_
    refine qx_istore_n (L' := [(2, 0), (0, r1), (0, r3), (0, 0)]) dX11_order_35 rfl rfl rfl rfl ?_
    exact l3 r1 m1 p1 q1 c2 r3 m3 p3 q3
  · skip
    refine q_iload_n dX11_order_24 rfl rfl ?_
    exact q_iret dX11_order_25 (qK_i (l4 r1 m1 p1 q1 c2))
theorem bkX11_order_36 {b : Int} {mem : qm} {Q : Int → qm → Prop}
    {v1 v2 v3 : Int}
    {P3 : Int → qm → Prop}
    (l1 : (mem 154 4) ≤ v3 → q_Ev yX7_lost cX7_lost 3 (some .int) 1 0 0 [(2, 5)] (q_sh0, q_rb b, (q_up mem 0 16 0)) (qK (q_rb b) (P3)))
    (o2 : (mem 154 4) ≤ v3 → ∀ (r3 : Int), ∀ (m3 : qm), P3 r3 m3 → q_in32 r3 → q_in32 (r3 - v2) ∧ (0 ≤ (m3 0 16) ∧ (m3 0 16) < 10))
    (o3 : (mem 154 4) ≤ v3 → ∀ (r3 : Int), ∀ (m3 : qm), P3 r3 m3 → q_in32 r3 → (m3 154 4) ≤ v3 → (0 ≤ ((m3 0 16) + 1) ∧ ((m3 0 16) + 1) < 10))
    (l4 : (mem 154 4) ≤ v3 → ∀ (r3 : Int), ∀ (m3 : qm), P3 r3 m3 → q_in32 r3 → (m3 154 4) ≤ v3 → Q v3 (q_up (q_up (q_up (q_up m3 169 (m3 0 16) (r3 - v2)) 0 16 ((m3 0 16) + 1)) 169 ((m3 0 16) + 1) 0) 0 16 (((m3 0 16) + 1) + 1)))
    (o5 : (mem 154 4) ≤ v3 → ∀ (r3 : Int), ∀ (m3 : qm), P3 r3 m3 → q_in32 r3 → v3 < (m3 154 4) → (0 ≤ ((m3 0 16) + 1) ∧ ((m3 0 16) + 1) < 10))
    (l6 : (mem 154 4) ≤ v3 → ∀ (r3 : Int), ∀ (m3 : qm), P3 r3 m3 → q_in32 r3 → v3 < (m3 154 4) → Q v3 (q_up (q_up (q_up (q_up m3 169 (m3 0 16) (r3 - v2)) 0 16 ((m3 0 16) + 1)) 169 ((m3 0 16) + 1) 1) 0 16 (((m3 0 16) + 1) + 1)))
    {P8 : Int → qm → Prop}
    (l7 : v3 < (mem 154 4) → q_Ev yX11_doStep cX11_doStep 4 (some .boolean) 6 0 0 [(2, 0), (0, v3)] (q_sh0, q_rb b, mem) (qK (q_rb b) (P8)))
    {P11 : Int → qm → Int → qm → Prop}
    (l8 : v3 < (mem 154 4) → ∀ (r8 : Int), ∀ (m8 : qm), P8 r8 m8 → q_in32 r8 → r8 = 0 → q_Ev yX7_lost cX7_lost 3 (some .int) 1 0 0 [(2, 5)] (q_sh0, q_rb b, (q_up m8 0 16 0)) (qK (q_rb b) (P11 r8 m8)))
    (o9 : v3 < (mem 154 4) → ∀ (r8 : Int), ∀ (m8 : qm), P8 r8 m8 → q_in32 r8 → r8 = 0 → ∀ (r11 : Int), ∀ (m11 : qm), P11 r8 m8 r11 m11 → q_in32 r11 → q_in32 (r11 - v2) ∧ (0 ≤ (m11 0 16) ∧ (m11 0 16) < 10))
    (o10 : v3 < (mem 154 4) → ∀ (r8 : Int), ∀ (m8 : qm), P8 r8 m8 → q_in32 r8 → r8 = 0 → ∀ (r11 : Int), ∀ (m11 : qm), P11 r8 m8 r11 m11 → q_in32 r11 → (m11 154 4) ≤ v3 → (0 ≤ ((m11 0 16) + 1) ∧ ((m11 0 16) + 1) < 10))
    (l11 : v3 < (mem 154 4) → ∀ (r8 : Int), ∀ (m8 : qm), P8 r8 m8 → q_in32 r8 → r8 = 0 → ∀ (r11 : Int), ∀ (m11 : qm), P11 r8 m8 r11 m11 → q_in32 r11 → (m11 154 4) ≤ v3 → Q v3 (q_up (q_up (q_up (q_up m11 169 (m11 0 16) (r11 - v2)) 0 16 ((m11 0 16) + 1)) 169 ((m11 0 16) + 1) 0) 0 16 (((m11 0 16) + 1) + 1)))
    (o12 : v3 < (mem 154 4) → ∀ (r8 : Int), ∀ (m8 : qm), P8 r8 m8 → q_in32 r8 → r8 = 0 → ∀ (r11 : Int), ∀ (m11 : qm), P11 r8 m8 r11 m11 → q_in32 r11 → v3 < (m11 154 4) → (0 ≤ ((m11 0 16) + 1) ∧ ((m11 0 16) + 1) < 10))
    (l13 : v3 < (mem 154 4) → ∀ (r8 : Int), ∀ (m8 : qm), P8 r8 m8 → q_in32 r8 → r8 = 0 → ∀ (r11 : Int), ∀ (m11 : qm), P11 r8 m8 r11 m11 → q_in32 r11 → v3 < (m11 154 4) → Q v3 (q_up (q_up (q_up (q_up m11 169 (m11 0 16) (r11 - v2)) 0 16 ((m11 0 16) + 1)) 169 ((m11 0 16) + 1) 1) 0 16 (((m11 0 16) + 1) + 1)))
    (o14 : v3 < (mem 154 4) → ∀ (r8 : Int), ∀ (m8 : qm), P8 r8 m8 → q_in32 r8 → r8 ≠ 0 → q_in32 (v3 + 1))
    (l15 : v3 < (mem 154 4) → ∀ (r8 : Int), ∀ (m8 : qm), P8 r8 m8 → q_in32 r8 → r8 ≠ 0 → q_At yX11_order cX11_order 4 (some .int) 7 0 0 (qK (q_rb b) Q) 36 [(2, 0), (0, v1), (0, v2), (0, (v3 + 1))] [] (q_sh0, q_rb b, m8)) :
    q_At yX11_order cX11_order 4 (some .int) 7 0 0 (qK (q_rb b) Q) 36 [(2, 0), (0, v1), (0, v2), (0, v3)] [] (q_sh0, q_rb b, mem) := by
  refine q_iload_n dX11_order_36 rfl rfl ?_
  refine q_aload_n dX11_order_37 rfl rfl ?_
  refine q_getR (ci := 11) (k := 11) dX11_order_38 rfl (by decide) rfl tw360 (by decide) qs0 qw0_11 (by decide) ?_
  refine qx_getI (ci := 8) (k := 4) (v := (mem 154 4)) dX11_order_41 rfl rfl rfl tw291 rfl qs154 rfl ?_
  refine qx_icmp_ge (tgt := 61) dX11_order_44 (by decide) (fun c1 => ?_) (fun c1 => ?_)
  · skip
    refine q_aload_n dX11_order_61 rfl rfl ?_
    refine qx_invV (ci := 11) [] [(2, 0)] rfl qM_X11_clearRow dX11_order_62 tw691 rfl qs0 rfl rfl rfl rfl (spX11_clearRow) (fun r2 m2 p2 q2 => ?_)
    obtain rfl := p2
    refine q_aload_n dX11_order_65 rfl rfl ?_
    refine q_aload_n dX11_order_66 rfl rfl ?_
    refine q_getR (ci := 11) (k := 1) dX11_order_67 rfl (by decide) rfl tw350 (by decide) qs0 qw0_1 (by decide) ?_
    refine qx_invV (ci := 7) [] [(2, 5), (2, 0)] rfl qM_X7_lost dX11_order_70 tw671 rfl qs5 rfl rfl rfl rfl (l1 c1) (fun r3 m3 p3 q3 => ?_)
    refine q_iload_n dX11_order_73 rfl rfl ?_
    refine qx_isub dX11_order_74 (o2 c1 r3 m3 p3 q3).1 ?_
    refine qx_invV (ci := 11) [(0, (r3 - v2))] [(0, (r3 - v2)), (2, 0)] rfl qM_X11_tell dX11_order_75 tw699 rfl qs0 rfl rfl rfl rfl (spX11_tell (o2 c1 r3 m3 p3 q3).2) (fun r4 m4 p4 q4 => ?_)
    obtain rfl := p4
    refine q_aload_n dX11_order_78 rfl rfl ?_
    refine q_iload_n dX11_order_79 rfl rfl ?_
    refine q_aload_n dX11_order_80 rfl rfl ?_
    refine q_getR (ci := 11) (k := 11) dX11_order_81 rfl (by decide) rfl tw360 (by decide) qs0 qw0_11 (by decide) ?_
    refine qx_getI (ci := 8) (k := 4) (v := (m3 154 4)) dX11_order_84 rfl rfl rfl tw291 rfl qs154 ((q_up_c (by decide)).trans (q_up_c (by decide))) ?_
    refine qx_icmp_ge (tgt := 94) dX11_order_87 (by decide) (fun c5 => ?_) (fun c5 => ?_)
    · skip
      refine qx_iconst dX11_order_94 rfl rfl ?_
      refine qx_invV (ci := 11) [(0, 0)] [(0, 0), (2, 0)] rfl qM_X11_tell dX11_order_95 tw699 rfl qs0 rfl rfl rfl rfl (spX11_tell (by first | exact (o3 c1 r3 m3 p3 q3 c5) | (simp only [q_up, Int.reduceEq, false_and, true_and, and_true, and_false, ite_false, ite_true, if_true, if_false]; exact (o3 c1 r3 m3 p3 q3 c5)))) (fun r6 m6 p6 q6 => ?_)
      obtain rfl := p6
      refine q_iload_n dX11_order_98 rfl rfl ?_
      exact q_iret dX11_order_99 (qK_i (l4 c1 r3 m3 p3 q3 c5))
    · skip
      refine qx_iconst dX11_order_90 rfl rfl ?_
      refine q_goto (tgt := 95) dX11_order_91 (by decide) ?_
      refine qx_invV (ci := 11) [(0, 1)] [(0, 1), (2, 0)] rfl qM_X11_tell dX11_order_95 tw699 rfl qs0 rfl rfl rfl rfl (spX11_tell (by first | exact (o5 c1 r3 m3 p3 q3 c5) | (simp only [q_up, Int.reduceEq, false_and, true_and, and_true, and_false, ite_false, ite_true, if_true, if_false]; exact (o5 c1 r3 m3 p3 q3 c5)))) (fun r7 m7 p7 q7 => ?_)
      obtain rfl := p7
      refine q_iload_n dX11_order_98 rfl rfl ?_
      exact q_iret dX11_order_99 (qK_i (l6 c1 r3 m3 p3 q3 c5))
  · skip
    refine q_aload_n dX11_order_47 rfl rfl ?_
    refine q_iload_n dX11_order_48 rfl rfl ?_
    refine qx_invV (ci := 11) [(0, v3)] [(0, v3), (2, 0)] rfl qM_X11_doStep dX11_order_49 tw748 rfl qs0 rfl rfl rfl rfl (l7 c1) (fun r8 m8 p8 q8 => ?_)
    refine qx_if_eq (tgt := 61) dX11_order_52 (by decide) (fun c9 => ?_) (fun c9 => ?_)
    · skip
      refine q_aload_n dX11_order_61 rfl rfl ?_
      refine qx_invV (ci := 11) [] [(2, 0)] rfl qM_X11_clearRow dX11_order_62 tw691 rfl qs0 rfl rfl rfl rfl (spX11_clearRow) (fun r10 m10 p10 q10 => ?_)
      obtain rfl := p10
      refine q_aload_n dX11_order_65 rfl rfl ?_
      refine q_aload_n dX11_order_66 rfl rfl ?_
      refine q_getR (ci := 11) (k := 1) dX11_order_67 rfl (by decide) rfl tw350 (by decide) qs0 qw0_1 (by decide) ?_
      refine qx_invV (ci := 7) [] [(2, 5), (2, 0)] rfl qM_X7_lost dX11_order_70 tw671 rfl qs5 rfl rfl rfl rfl (l8 c1 r8 m8 p8 q8 c9) (fun r11 m11 p11 q11 => ?_)
      refine q_iload_n dX11_order_73 rfl rfl ?_
      refine qx_isub dX11_order_74 (o9 c1 r8 m8 p8 q8 c9 r11 m11 p11 q11).1 ?_
      refine qx_invV (ci := 11) [(0, (r11 - v2))] [(0, (r11 - v2)), (2, 0)] rfl qM_X11_tell dX11_order_75 tw699 rfl qs0 rfl rfl rfl rfl (spX11_tell (o9 c1 r8 m8 p8 q8 c9 r11 m11 p11 q11).2) (fun r12 m12 p12 q12 => ?_)
      obtain rfl := p12
      refine q_aload_n dX11_order_78 rfl rfl ?_
      refine q_iload_n dX11_order_79 rfl rfl ?_
      refine q_aload_n dX11_order_80 rfl rfl ?_
      refine q_getR (ci := 11) (k := 11) dX11_order_81 rfl (by decide) rfl tw360 (by decide) qs0 qw0_11 (by decide) ?_
      refine qx_getI (ci := 8) (k := 4) (v := (m11 154 4)) dX11_order_84 rfl rfl rfl tw291 rfl qs154 ((q_up_c (by decide)).trans (q_up_c (by decide))) ?_
      refine qx_icmp_ge (tgt := 94) dX11_order_87 (by decide) (fun c13 => ?_) (fun c13 => ?_)
      · skip
        refine qx_iconst dX11_order_94 rfl rfl ?_
        refine qx_invV (ci := 11) [(0, 0)] [(0, 0), (2, 0)] rfl qM_X11_tell dX11_order_95 tw699 rfl qs0 rfl rfl rfl rfl (spX11_tell (by first | exact (o10 c1 r8 m8 p8 q8 c9 r11 m11 p11 q11 c13) | (simp only [q_up, Int.reduceEq, false_and, true_and, and_true, and_false, ite_false, ite_true, if_true, if_false]; exact (o10 c1 r8 m8 p8 q8 c9 r11 m11 p11 q11 c13)))) (fun r14 m14 p14 q14 => ?_)
        obtain rfl := p14
        refine q_iload_n dX11_order_98 rfl rfl ?_
        exact q_iret dX11_order_99 (qK_i (l11 c1 r8 m8 p8 q8 c9 r11 m11 p11 q11 c13))
      · skip
        refine qx_iconst dX11_order_90 rfl rfl ?_
        refine q_goto (tgt := 95) dX11_order_91 (by decide) ?_
        refine qx_invV (ci := 11) [(0, 1)] [(0, 1), (2, 0)] rfl qM_X11_tell dX11_order_95 tw699 rfl qs0 rfl rfl rfl rfl (spX11_tell (by first | exact (o12 c1 r8 m8 p8 q8 c9 r11 m11 p11 q11 c13) | (simp only [q_up, Int.reduceEq, false_and, true_and, and_true, and_false, ite_false, ite_true, if_true, if_false]; exact (o12 c1 r8 m8 p8 q8 c9 r11 m11 p11 q11 c13)))) (fun r15 m15 p15 q15 => ?_)
        obtain rfl := p15
        refine q_iload_n dX11_order_98 rfl rfl ?_
        exact q_iret dX11_order_99 (qK_i (l13 c1 r8 m8 p8 q8 c9 r11 m11 p11 q11 c13))
    · skip
      refine qx_iinc (L' := [(2, 0), (0, v1), (0, v2), (0, (v3 + 1))]) dX11_order_55 rfl rfl rfl (o14 c1 r8 m8 p8 q8 c9) rfl ?_
      refine q_goto (tgt := 36) dX11_order_58 (by decide) ?_
      exact l15 c1 r8 m8 p8 q8 c9
theorem dX12_goStep_0 : decode cX12_goStep 0 = .ok (.aload_n 0, 1) := by decide +kernel
theorem dX12_goStep_1 : decode cX12_goStep 1 = .ok (.getfield 69, 3) := by decide +kernel
theorem dX12_goStep_4 : decode cX12_goStep 4 = .ok (.iload_n 1, 1) := by decide +kernel
theorem dX12_goStep_5 : decode cX12_goStep 5 = .ok (.iconst 1, 1) := by decide +kernel
theorem dX12_goStep_6 : decode cX12_goStep 6 = .ok (.iadd, 1) := by decide +kernel
theorem dX12_goStep_7 : decode cX12_goStep 7 = .ok (.iaload, 1) := by decide +kernel
theorem dX12_goStep_8 : decode cX12_goStep 8 = .ok (.istore_n 2, 1) := by decide +kernel
theorem dX12_goStep_9 : decode cX12_goStep 9 = .ok (.aload_n 0, 1) := by decide +kernel
theorem dX12_goStep_10 : decode cX12_goStep 10 = .ok (.getfield 69, 3) := by decide +kernel
theorem dX12_goStep_13 : decode cX12_goStep 13 = .ok (.iload_n 1, 1) := by decide +kernel
theorem dX12_goStep_14 : decode cX12_goStep 14 = .ok (.iconst 3, 1) := by decide +kernel
theorem dX12_goStep_15 : decode cX12_goStep 15 = .ok (.iadd, 1) := by decide +kernel
theorem dX12_goStep_16 : decode cX12_goStep 16 = .ok (.iaload, 1) := by decide +kernel
theorem dX12_goStep_17 : decode cX12_goStep 17 = .ok (.istore_n 3, 1) := by decide +kernel
theorem dX12_goStep_18 : decode cX12_goStep 18 = .ok (.aload_n 0, 1) := by decide +kernel
theorem dX12_goStep_19 : decode cX12_goStep 19 = .ok (.getfield 69, 3) := by decide +kernel
theorem dX12_goStep_22 : decode cX12_goStep 22 = .ok (.iload_n 1, 1) := by decide +kernel
theorem dX12_goStep_23 : decode cX12_goStep 23 = .ok (.iaload, 1) := by decide +kernel
theorem dX12_goStep_24 : decode cX12_goStep 24 = .ok (.lookupswitch 80 #[(98, 59), (112, 36), (119, 73)], 36) := by decide +kernel
theorem dX12_goStep_60 : decode cX12_goStep 60 = .ok (.aload_n 0, 1) := by decide +kernel
theorem dX12_goStep_61 : decode cX12_goStep 61 = .ok (.iload_n 2, 1) := by decide +kernel
theorem dX12_goStep_62 : decode cX12_goStep 62 = .ok (.aload_n 0, 1) := by decide +kernel
theorem dX12_goStep_63 : decode cX12_goStep 63 = .ok (.getfield 69, 3) := by decide +kernel
theorem dX12_goStep_66 : decode cX12_goStep 66 = .ok (.iload_n 1, 1) := by decide +kernel
theorem dX12_goStep_67 : decode cX12_goStep 67 = .ok (.iconst 2, 1) := by decide +kernel
theorem dX12_goStep_68 : decode cX12_goStep 68 = .ok (.iadd, 1) := by decide +kernel
theorem dX12_goStep_69 : decode cX12_goStep 69 = .ok (.iaload, 1) := by decide +kernel
theorem dX12_goStep_70 : decode cX12_goStep 70 = .ok (.iload_n 3, 1) := by decide +kernel
theorem dX12_goStep_71 : decode cX12_goStep 71 = .ok (.invokevirtual 292, 3) := by decide +kernel
theorem dX12_goStep_74 : decode cX12_goStep 74 = .ok (.ifCond .le 7, 3) := by decide +kernel
theorem dX12_goStep_77 : decode cX12_goStep 77 = .ok (.iconst 1, 1) := by decide +kernel
theorem dX12_goStep_78 : decode cX12_goStep 78 = .ok (.goto 4, 3) := by decide +kernel
theorem dX12_goStep_81 : decode cX12_goStep 81 = .ok (.iconst 0, 1) := by decide +kernel
theorem dX12_goStep_82 : decode cX12_goStep 82 = .ok (.ireturn, 1) := by decide +kernel
theorem dX12_goStep_83 : decode cX12_goStep 83 = .ok (.aload_n 0, 1) := by decide +kernel
theorem dX12_goStep_84 : decode cX12_goStep 84 = .ok (.iload_n 2, 1) := by decide +kernel
theorem dX12_goStep_85 : decode cX12_goStep 85 = .ok (.invokevirtual 295, 3) := by decide +kernel
theorem dX12_goStep_88 : decode cX12_goStep 88 = .ok (.ifCond .lt 7, 3) := by decide +kernel
theorem dX12_goStep_91 : decode cX12_goStep 91 = .ok (.iconst 1, 1) := by decide +kernel
theorem dX12_goStep_92 : decode cX12_goStep 92 = .ok (.goto 4, 3) := by decide +kernel
theorem dX12_goStep_95 : decode cX12_goStep 95 = .ok (.iconst 0, 1) := by decide +kernel
theorem dX12_goStep_96 : decode cX12_goStep 96 = .ok (.ireturn, 1) := by decide +kernel
theorem dX12_goStep_97 : decode cX12_goStep 97 = .ok (.aload_n 0, 1) := by decide +kernel
theorem dX12_goStep_98 : decode cX12_goStep 98 = .ok (.iload_n 2, 1) := by decide +kernel
theorem dX12_goStep_99 : decode cX12_goStep 99 = .ok (.iload_n 3, 1) := by decide +kernel
theorem dX12_goStep_100 : decode cX12_goStep 100 = .ok (.invokevirtual 297, 3) := by decide +kernel
theorem dX12_goStep_103 : decode cX12_goStep 103 = .ok (.ireturn, 1) := by decide +kernel
theorem dX12_goStep_104 : decode cX12_goStep 104 = .ok (.aload_n 0, 1) := by decide +kernel
theorem dX12_goStep_105 : decode cX12_goStep 105 = .ok (.iload_n 2, 1) := by decide +kernel
theorem dX12_goStep_106 : decode cX12_goStep 106 = .ok (.bipush 6, 2) := by decide +kernel
theorem dX12_goStep_108 : decode cX12_goStep 108 = .ok (.iload_n 3, 1) := by decide +kernel
theorem dX12_goStep_109 : decode cX12_goStep 109 = .ok (.invokevirtual 300, 3) := by decide +kernel
theorem dX12_goStep_112 : decode cX12_goStep 112 = .ok (.ifCond .lt 7, 3) := by decide +kernel
theorem dX12_goStep_115 : decode cX12_goStep 115 = .ok (.iconst 1, 1) := by decide +kernel
theorem dX12_goStep_116 : decode cX12_goStep 116 = .ok (.goto 4, 3) := by decide +kernel
theorem dX12_goStep_119 : decode cX12_goStep 119 = .ok (.iconst 0, 1) := by decide +kernel
theorem dX12_goStep_120 : decode cX12_goStep 120 = .ok (.ireturn, 1) := by decide +kernel
theorem bkX12_goStep_0 {b : Int} {mem : qm} {Q : Int → qm → Prop}
    {v : Int}
    (o1 : q_in32 (v + 1) ∧ (0 ≤ (v + 1) ∧ (v + 1) < 320) ∧ q_in32 (v + 3) ∧ (0 ≤ (v + 3) ∧ (v + 3) < 320) ∧ (0 ≤ v ∧ v < 320))
    {P2 : Int → qm → Prop}
    (l2 : (mem 206 v) = 98 → q_Ev yX12_bells cX12_bells 5 (some .int) 3 0 0 [(2, 188), (0, (mem 206 (v + 1)))] (q_sh0, q_rb b, mem) (qK (q_rb b) (P2)))
    (l3 : (mem 206 v) = 98 → ∀ (r2 : Int), ∀ (m2 : qm), P2 r2 m2 → q_in32 r2 → r2 < 0 → Q 0 m2)
    (l4 : (mem 206 v) = 98 → ∀ (r2 : Int), ∀ (m2 : qm), P2 r2 m2 → q_in32 r2 → 0 ≤ r2 → Q 1 m2)
    (o5 : (mem 206 v) ≠ 98 → (mem 206 v) = 112 → q_in32 (v + 2) ∧ (0 ≤ (v + 2) ∧ (v + 2) < 320))
    {P5 : Int → qm → Prop}
    (l6 : (mem 206 v) ≠ 98 → (mem 206 v) = 112 → q_Ev yX12_pour cX12_pour 5 (some .int) 4 0 0 [(2, 188), (0, (mem 206 (v + 1))), (0, (mem 206 (v + 2))), (0, (mem 206 (v + 3)))] (q_sh0, q_rb b, mem) (qK (q_rb b) (P5)))
    (l7 : (mem 206 v) ≠ 98 → (mem 206 v) = 112 → ∀ (r5 : Int), ∀ (m5 : qm), P5 r5 m5 → q_in32 r5 → r5 ≤ 0 → Q 0 m5)
    (l8 : (mem 206 v) ≠ 98 → (mem 206 v) = 112 → ∀ (r5 : Int), ∀ (m5 : qm), P5 r5 m5 → q_in32 r5 → 0 < r5 → Q 1 m5)
    {P8 : Int → qm → Prop}
    (l9 : (mem 206 v) ≠ 98 → (mem 206 v) ≠ 112 → (mem 206 v) = 119 → q_Ev yX12_wax cX12_wax 3 (some .boolean) 72 0 0 [(2, 188), (0, (mem 206 (v + 1))), (0, (mem 206 (v + 3)))] (q_sh0, q_rb b, mem) (qE (P8)))
    (o10 : (mem 206 v) ≠ 98 → (mem 206 v) ≠ 112 → (mem 206 v) = 119 → ∀ (r8 : Int), ∀ (b8 : Int), ∀ (m8 : qm), P8 r8 m8 → q_in32 r8 → (r8 = 0 ∨ r8 = 1))
    (l11 : (mem 206 v) ≠ 98 → (mem 206 v) ≠ 112 → (mem 206 v) = 119 → ∀ (r8 : Int), ∀ (b8 : Int), ∀ (m8 : qm), P8 r8 m8 → q_in32 r8 → Q r8 m8)
    {P9 : Int → qm → Prop}
    (l12 : (mem 206 v) ≠ 98 → (mem 206 v) ≠ 112 → (mem 206 v) ≠ 119 → q_Ev yX12_spring cX12_spring 6 (some .int) 3 0 0 [(2, 188), (0, (mem 206 (v + 1))), (0, 6), (0, (mem 206 (v + 3)))] (q_sh0, q_rb b, mem) (qK (q_rb b) (P9)))
    (l13 : (mem 206 v) ≠ 98 → (mem 206 v) ≠ 112 → (mem 206 v) ≠ 119 → ∀ (r9 : Int), ∀ (m9 : qm), P9 r9 m9 → q_in32 r9 → r9 < 0 → Q 0 m9)
    (l14 : (mem 206 v) ≠ 98 → (mem 206 v) ≠ 112 → (mem 206 v) ≠ 119 → ∀ (r9 : Int), ∀ (m9 : qm), P9 r9 m9 → q_in32 r9 → 0 ≤ r9 → Q 1 m9) :
    q_At yX12_goStep cX12_goStep 4 (some .boolean) 73 0 0 (qE Q) 0 [(2, 188), (0, v), (4, 0), (4, 0)] [] (q_sh0, q_rb b, mem) := by
  refine q_aload_n dX12_goStep_0 rfl rfl ?_
  refine q_getR (ci := 12) (k := 32) dX12_goStep_1 rfl (by decide) rfl tw1215 (by decide) qs188 qw188_32 (by decide) ?_
  refine q_iload_n dX12_goStep_4 rfl rfl ?_
  refine qx_iconst dX12_goStep_5 rfl rfl ?_
  refine qx_iadd dX12_goStep_6 (o1).1 ?_
  refine qx_iald (v := (mem 206 (v + 1))) dX12_goStep_7 qs206 (o1).2.1 rfl ?_
  refine qx_istore_n (L' := [(2, 188), (0, v), (0, (mem 206 (v + 1))), (4, 0)]) dX12_goStep_8 rfl rfl rfl rfl ?_
  refine q_aload_n dX12_goStep_9 rfl rfl ?_
  refine q_getR (ci := 12) (k := 32) dX12_goStep_10 rfl (by decide) rfl tw1215 (by decide) qs188 qw188_32 (by decide) ?_
  refine q_iload_n dX12_goStep_13 rfl rfl ?_
  refine qx_iconst dX12_goStep_14 rfl rfl ?_
  refine qx_iadd dX12_goStep_15 (o1).2.2.1 ?_
  refine qx_iald (v := (mem 206 (v + 3))) dX12_goStep_16 qs206 (o1).2.2.2.1 rfl ?_
  refine qx_istore_n (L' := [(2, 188), (0, v), (0, (mem 206 (v + 1))), (0, (mem 206 (v + 3)))]) dX12_goStep_17 rfl rfl rfl rfl ?_
  refine q_aload_n dX12_goStep_18 rfl rfl ?_
  refine q_getR (ci := 12) (k := 32) dX12_goStep_19 rfl (by decide) rfl tw1215 (by decide) qs188 qw188_32 (by decide) ?_
  refine q_iload_n dX12_goStep_22 rfl rfl ?_
  refine qx_iald (v := (mem 206 v)) dX12_goStep_23 qs206 (o1).2.2.2.2 rfl ?_
  by_cases c1 : (mem 206 v) = 98
  · skip
    refine q_look (off := 59) (tgt := 83) dX12_goStep_24 (by decide) (by rw [c1]; rfl) (by decide) ?_
    refine q_aload_n dX12_goStep_83 rfl rfl ?_
    refine q_iload_n dX12_goStep_84 rfl rfl ?_
    refine qx_invV (ci := 12) [(0, (mem 206 (v + 1)))] [(0, (mem 206 (v + 1))), (2, 188)] rfl qM_X12_bells dX12_goStep_85 tw1542 rfl qs188 rfl rfl rfl rfl (l2 c1) (fun r2 m2 p2 q2 => ?_)
    refine qx_if_lt (tgt := 95) dX12_goStep_88 (by decide) (fun c3 => ?_) (fun c3 => ?_)
    · skip
      refine qx_iconst dX12_goStep_95 rfl rfl ?_
      exact q_zret dX12_goStep_96 (by decide) (qE_i (l3 c1 r2 m2 p2 q2 c3))
    · skip
      refine qx_iconst dX12_goStep_91 rfl rfl ?_
      refine q_goto (tgt := 96) dX12_goStep_92 (by decide) ?_
      exact q_zret dX12_goStep_96 (by decide) (qE_i (l4 c1 r2 m2 p2 q2 c3))
  by_cases c4 : (mem 206 v) = 112
  · skip
    refine q_look (off := 36) (tgt := 60) dX12_goStep_24 (by decide) (by rw [c4]; rfl) (by decide) ?_
    refine q_aload_n dX12_goStep_60 rfl rfl ?_
    refine q_iload_n dX12_goStep_61 rfl rfl ?_
    refine q_aload_n dX12_goStep_62 rfl rfl ?_
    refine q_getR (ci := 12) (k := 32) dX12_goStep_63 rfl (by decide) rfl tw1215 (by decide) qs188 qw188_32 (by decide) ?_
    refine q_iload_n dX12_goStep_66 rfl rfl ?_
    refine qx_iconst dX12_goStep_67 rfl rfl ?_
    refine qx_iadd dX12_goStep_68 (o5 c1 c4).1 ?_
    refine qx_iald (v := (mem 206 (v + 2))) dX12_goStep_69 qs206 (o5 c1 c4).2 rfl ?_
    refine q_iload_n dX12_goStep_70 rfl rfl ?_
    refine qx_invV (ci := 12) [(0, (mem 206 (v + 1))), (0, (mem 206 (v + 2))), (0, (mem 206 (v + 3)))] [(0, (mem 206 (v + 3))), (0, (mem 206 (v + 2))), (0, (mem 206 (v + 1))), (2, 188)] rfl qM_X12_pour dX12_goStep_71 tw1541 rfl qs188 rfl rfl rfl rfl (l6 c1 c4) (fun r5 m5 p5 q5 => ?_)
    refine qx_if_le (tgt := 81) dX12_goStep_74 (by decide) (fun c6 => ?_) (fun c6 => ?_)
    · skip
      refine qx_iconst dX12_goStep_81 rfl rfl ?_
      exact q_zret dX12_goStep_82 (by decide) (qE_i (l7 c1 c4 r5 m5 p5 q5 c6))
    · skip
      refine qx_iconst dX12_goStep_77 rfl rfl ?_
      refine q_goto (tgt := 82) dX12_goStep_78 (by decide) ?_
      exact q_zret dX12_goStep_82 (by decide) (qE_i (l8 c1 c4 r5 m5 p5 q5 c6))
  by_cases c7 : (mem 206 v) = 119
  · skip
    refine q_look (off := 73) (tgt := 97) dX12_goStep_24 (by decide) (by rw [c7]; rfl) (by decide) ?_
    refine q_aload_n dX12_goStep_97 rfl rfl ?_
    refine q_iload_n dX12_goStep_98 rfl rfl ?_
    refine q_iload_n dX12_goStep_99 rfl rfl ?_
    refine qx_invVE (ci := 12) [(0, (mem 206 (v + 1))), (0, (mem 206 (v + 3)))] [(0, (mem 206 (v + 3))), (0, (mem 206 (v + 1))), (2, 188)] rfl qM_X12_wax dX12_goStep_100 tw1543 rfl qs188 rfl rfl rfl rfl (l9 c1 c4 c7) (fun r8 b8 m8 p8 q8 => ?_)
    exact q_zret dX12_goStep_103 (o10 c1 c4 c7 r8 b8 m8 p8 q8) (qE_i (l11 c1 c4 c7 r8 b8 m8 p8 q8))
  refine q_look (off := 80) (tgt := 104) dX12_goStep_24 (by decide) (by simp only [lookupswitch.offset_cons, lookupswitch.offset_nil]; repeat rw [if_neg (by omega)]) (by decide) ?_
  refine q_aload_n dX12_goStep_104 rfl rfl ?_
  refine q_iload_n dX12_goStep_105 rfl rfl ?_
  refine qx_bipush dX12_goStep_106 rfl rfl ?_
  refine q_iload_n dX12_goStep_108 rfl rfl ?_
  refine qx_invV (ci := 12) [(0, (mem 206 (v + 1))), (0, 6), (0, (mem 206 (v + 3)))] [(0, (mem 206 (v + 3))), (0, 6), (0, (mem 206 (v + 1))), (2, 188)] rfl qM_X12_spring dX12_goStep_109 tw1544 rfl qs188 rfl rfl rfl rfl (l12 c1 c4 c7) (fun r9 m9 p9 q9 => ?_)
  refine qx_if_lt (tgt := 119) dX12_goStep_112 (by decide) (fun c10 => ?_) (fun c10 => ?_)
  · skip
    refine qx_iconst dX12_goStep_119 rfl rfl ?_
    exact q_zret dX12_goStep_120 (by decide) (qE_i (l13 c1 c4 c7 r9 m9 p9 q9 c10))
  · skip
    refine qx_iconst dX12_goStep_115 rfl rfl ?_
    refine q_goto (tgt := 120) dX12_goStep_116 (by decide) ?_
    exact q_zret dX12_goStep_120 (by decide) (qE_i (l14 c1 c4 c7 r9 m9 p9 q9 c10))
theorem dX12_order_0 : decode cX12_order 0 = .ok (.aload_n 0, 1) := by decide +kernel
theorem dX12_order_1 : decode cX12_order 1 = .ok (.iconst 0, 1) := by decide +kernel
theorem dX12_order_2 : decode cX12_order 2 = .ok (.putfield 128, 3) := by decide +kernel
theorem dX12_order_5 : decode cX12_order 5 = .ok (.aload_n 0, 1) := by decide +kernel
theorem dX12_order_6 : decode cX12_order 6 = .ok (.aload_n 0, 1) := by decide +kernel
theorem dX12_order_7 : decode cX12_order 7 = .ok (.getfield 41, 3) := by decide +kernel
theorem dX12_order_10 : decode cX12_order 10 = .ok (.aload_n 0, 1) := by decide +kernel
theorem dX12_order_11 : decode cX12_order 11 = .ok (.getfield 145, 3) := by decide +kernel
theorem dX12_order_14 : decode cX12_order 14 = .ok (.bipush 60, 2) := by decide +kernel
theorem dX12_order_16 : decode cX12_order 16 = .ok (.invokevirtual 179, 3) := by decide +kernel
theorem dX12_order_19 : decode cX12_order 19 = .ok (.aload_n 0, 1) := by decide +kernel
theorem dX12_order_20 : decode cX12_order 20 = .ok (.iconst 0, 1) := by decide +kernel
theorem dX12_order_21 : decode cX12_order 21 = .ok (.putfield 145, 3) := by decide +kernel
theorem dX12_order_24 : decode cX12_order 24 = .ok (.iconst 0, 1) := by decide +kernel
theorem dX12_order_25 : decode cX12_order 25 = .ok (.istore_n 1, 1) := by decide +kernel
theorem dX12_order_26 : decode cX12_order 26 = .ok (.aload_n 0, 1) := by decide +kernel
theorem dX12_order_27 : decode cX12_order 27 = .ok (.getfield 151, 3) := by decide +kernel
theorem dX12_order_30 : decode cX12_order 30 = .ok (.ifCond .le 7, 3) := by decide +kernel
theorem dX12_order_33 : decode cX12_order 33 = .ok (.iconst 1, 1) := by decide +kernel
theorem dX12_order_34 : decode cX12_order 34 = .ok (.goto 4, 3) := by decide +kernel
theorem dX12_order_37 : decode cX12_order 37 = .ok (.iconst 0, 1) := by decide +kernel
theorem dX12_order_38 : decode cX12_order 38 = .ok (.istore_n 2, 1) := by decide +kernel
theorem dX12_order_39 : decode cX12_order 39 = .ok (.iload_n 2, 1) := by decide +kernel
theorem dX12_order_40 : decode cX12_order 40 = .ok (.ifCond .eq 195, 3) := by decide +kernel
theorem dX12_order_43 : decode cX12_order 43 = .ok (.aload_n 0, 1) := by decide +kernel
theorem dX12_order_44 : decode cX12_order 44 = .ok (.invokevirtual 163, 3) := by decide +kernel
theorem dX12_order_47 : decode cX12_order 47 = .ok (.ifCond .eq 188, 3) := by decide +kernel
theorem dX12_order_50 : decode cX12_order 50 = .ok (.aload_n 0, 1) := by decide +kernel
theorem dX12_order_51 : decode cX12_order 51 = .ok (.invokevirtual 167, 3) := by decide +kernel
theorem dX12_order_54 : decode cX12_order 54 = .ok (.istore_n 3, 1) := by decide +kernel
theorem dX12_order_55 : decode cX12_order 55 = .ok (.iload_n 3, 1) := by decide +kernel
theorem dX12_order_56 : decode cX12_order 56 = .ok (.bipush 112, 2) := by decide +kernel
theorem dX12_order_58 : decode cX12_order 58 = .ok (.if_icmp .eq 29, 3) := by decide +kernel
theorem dX12_order_61 : decode cX12_order 61 = .ok (.iload_n 3, 1) := by decide +kernel
theorem dX12_order_62 : decode cX12_order 62 = .ok (.bipush 98, 2) := by decide +kernel
theorem dX12_order_64 : decode cX12_order 64 = .ok (.if_icmp .eq 23, 3) := by decide +kernel
theorem dX12_order_67 : decode cX12_order 67 = .ok (.iload_n 3, 1) := by decide +kernel
theorem dX12_order_68 : decode cX12_order 68 = .ok (.bipush 119, 2) := by decide +kernel
theorem dX12_order_70 : decode cX12_order 70 = .ok (.if_icmp .eq 17, 3) := by decide +kernel
theorem dX12_order_73 : decode cX12_order 73 = .ok (.iload_n 3, 1) := by decide +kernel
theorem dX12_order_74 : decode cX12_order 74 = .ok (.bipush 115, 2) := by decide +kernel
theorem dX12_order_76 : decode cX12_order 76 = .ok (.if_icmp .eq 11, 3) := by decide +kernel
theorem dX12_order_79 : decode cX12_order 79 = .ok (.aload_n 0, 1) := by decide +kernel
theorem dX12_order_80 : decode cX12_order 80 = .ok (.aload_n 0, 1) := by decide +kernel
theorem dX12_order_81 : decode cX12_order 81 = .ok (.getfield 157, 3) := by decide +kernel
theorem dX12_order_84 : decode cX12_order 84 = .ok (.invokevirtual 175, 3) := by decide +kernel
theorem dX12_order_87 : decode cX12_order 87 = .ok (.aload_n 0, 1) := by decide +kernel
theorem dX12_order_88 : decode cX12_order 88 = .ok (.dup, 1) := by decide +kernel
theorem dX12_order_89 : decode cX12_order 89 = .ok (.getfield 157, 3) := by decide +kernel
theorem dX12_order_92 : decode cX12_order 92 = .ok (.iconst 1, 1) := by decide +kernel
theorem dX12_order_93 : decode cX12_order 93 = .ok (.iadd, 1) := by decide +kernel
theorem dX12_order_94 : decode cX12_order 94 = .ok (.putfield 157, 3) := by decide +kernel
theorem dX12_order_97 : decode cX12_order 97 = .ok (.iload_n 3, 1) := by decide +kernel
theorem dX12_order_98 : decode cX12_order 98 = .ok (.bipush 98, 2) := by decide +kernel
theorem dX12_order_100 : decode cX12_order 100 = .ok (.if_icmp .ne 14, 3) := by decide +kernel
theorem dX12_order_103 : decode cX12_order 103 = .ok (.aload_n 0, 1) := by decide +kernel
theorem dX12_order_104 : decode cX12_order 104 = .ok (.iconst 2, 1) := by decide +kernel
theorem dX12_order_105 : decode cX12_order 105 = .ok (.iconst 0, 1) := by decide +kernel
theorem dX12_order_106 : decode cX12_order 106 = .ok (.bipush 99, 2) := by decide +kernel
theorem dX12_order_108 : decode cX12_order 108 = .ok (.invokevirtual 183, 3) := by decide +kernel
theorem dX12_order_111 : decode cX12_order 111 = .ok (.goto 11, 3) := by decide +kernel
theorem dX12_order_114 : decode cX12_order 114 = .ok (.aload_n 0, 1) := by decide +kernel
theorem dX12_order_115 : decode cX12_order 115 = .ok (.iconst 1, 1) := by decide +kernel
theorem dX12_order_116 : decode cX12_order 116 = .ok (.iconst 0, 1) := by decide +kernel
theorem dX12_order_117 : decode cX12_order 117 = .ok (.bipush 9, 2) := by decide +kernel
theorem dX12_order_119 : decode cX12_order 119 = .ok (.invokevirtual 183, 3) := by decide +kernel
theorem dX12_order_122 : decode cX12_order 122 = .ok (.istore 4, 2) := by decide +kernel
theorem dX12_order_124 : decode cX12_order 124 = .ok (.iconst 0, 1) := by decide +kernel
theorem dX12_order_125 : decode cX12_order 125 = .ok (.istore 5, 2) := by decide +kernel
theorem dX12_order_127 : decode cX12_order 127 = .ok (.iload_n 3, 1) := by decide +kernel
theorem dX12_order_128 : decode cX12_order 128 = .ok (.bipush 112, 2) := by decide +kernel
theorem dX12_order_130 : decode cX12_order 130 = .ok (.if_icmp .ne 19, 3) := by decide +kernel
theorem dX12_order_133 : decode cX12_order 133 = .ok (.aload_n 0, 1) := by decide +kernel
theorem dX12_order_134 : decode cX12_order 134 = .ok (.bipush 62, 2) := by decide +kernel
theorem dX12_order_136 : decode cX12_order 136 = .ok (.invokevirtual 187, 3) := by decide +kernel
theorem dX12_order_139 : decode cX12_order 139 = .ok (.aload_n 0, 1) := by decide +kernel
theorem dX12_order_140 : decode cX12_order 140 = .ok (.iconst 1, 1) := by decide +kernel
theorem dX12_order_141 : decode cX12_order 141 = .ok (.iconst 0, 1) := by decide +kernel
theorem dX12_order_142 : decode cX12_order 142 = .ok (.bipush 9, 2) := by decide +kernel
theorem dX12_order_144 : decode cX12_order 144 = .ok (.invokevirtual 183, 3) := by decide +kernel
theorem dX12_order_147 : decode cX12_order 147 = .ok (.istore 5, 2) := by decide +kernel
theorem dX12_order_149 : decode cX12_order 149 = .ok (.iload_n 3, 1) := by decide +kernel
theorem dX12_order_150 : decode cX12_order 150 = .ok (.bipush 98, 2) := by decide +kernel
theorem dX12_order_152 : decode cX12_order 152 = .ok (.if_icmp .eq 9, 3) := by decide +kernel
theorem dX12_order_155 : decode cX12_order 155 = .ok (.aload_n 0, 1) := by decide +kernel
theorem dX12_order_156 : decode cX12_order 156 = .ok (.bipush 42, 2) := by decide +kernel
theorem dX12_order_158 : decode cX12_order 158 = .ok (.invokevirtual 187, 3) := by decide +kernel
theorem dX12_order_161 : decode cX12_order 161 = .ok (.aload_n 0, 1) := by decide +kernel
theorem dX12_order_162 : decode cX12_order 162 = .ok (.getfield 69, 3) := by decide +kernel
theorem dX12_order_165 : decode cX12_order 165 = .ok (.iconst 4, 1) := by decide +kernel
theorem dX12_order_166 : decode cX12_order 166 = .ok (.iload_n 1, 1) := by decide +kernel
theorem dX12_order_167 : decode cX12_order 167 = .ok (.imul, 1) := by decide +kernel
theorem dX12_order_168 : decode cX12_order 168 = .ok (.iload_n 3, 1) := by decide +kernel
theorem dX12_order_169 : decode cX12_order 169 = .ok (.iastore, 1) := by decide +kernel
theorem dX12_order_170 : decode cX12_order 170 = .ok (.aload_n 0, 1) := by decide +kernel
theorem dX12_order_171 : decode cX12_order 171 = .ok (.getfield 69, 3) := by decide +kernel
theorem dX12_order_174 : decode cX12_order 174 = .ok (.iconst 4, 1) := by decide +kernel
theorem dX12_order_175 : decode cX12_order 175 = .ok (.iload_n 1, 1) := by decide +kernel
theorem dX12_order_176 : decode cX12_order 176 = .ok (.imul, 1) := by decide +kernel
theorem dX12_order_177 : decode cX12_order 177 = .ok (.iconst 1, 1) := by decide +kernel
theorem dX12_order_178 : decode cX12_order 178 = .ok (.iadd, 1) := by decide +kernel
theorem dX12_order_179 : decode cX12_order 179 = .ok (.iload 4, 2) := by decide +kernel
theorem dX12_order_181 : decode cX12_order 181 = .ok (.iastore, 1) := by decide +kernel
theorem dX12_order_182 : decode cX12_order 182 = .ok (.aload_n 0, 1) := by decide +kernel
theorem dX12_order_183 : decode cX12_order 183 = .ok (.getfield 69, 3) := by decide +kernel
theorem dX12_order_186 : decode cX12_order 186 = .ok (.iconst 4, 1) := by decide +kernel
theorem dX12_order_187 : decode cX12_order 187 = .ok (.iload_n 1, 1) := by decide +kernel
theorem dX12_order_188 : decode cX12_order 188 = .ok (.imul, 1) := by decide +kernel
theorem dX12_order_189 : decode cX12_order 189 = .ok (.iconst 2, 1) := by decide +kernel
theorem dX12_order_190 : decode cX12_order 190 = .ok (.iadd, 1) := by decide +kernel
theorem dX12_order_191 : decode cX12_order 191 = .ok (.iload 5, 2) := by decide +kernel
theorem dX12_order_193 : decode cX12_order 193 = .ok (.iastore, 1) := by decide +kernel
theorem dX12_order_194 : decode cX12_order 194 = .ok (.aload_n 0, 1) := by decide +kernel
theorem dX12_order_195 : decode cX12_order 195 = .ok (.getfield 69, 3) := by decide +kernel
theorem dX12_order_198 : decode cX12_order 198 = .ok (.iconst 4, 1) := by decide +kernel
theorem dX12_order_199 : decode cX12_order 199 = .ok (.iload_n 1, 1) := by decide +kernel
theorem dX12_order_200 : decode cX12_order 200 = .ok (.imul, 1) := by decide +kernel
theorem dX12_order_201 : decode cX12_order 201 = .ok (.iconst 3, 1) := by decide +kernel
theorem dX12_order_202 : decode cX12_order 202 = .ok (.iadd, 1) := by decide +kernel
theorem dX12_order_203 : decode cX12_order 203 = .ok (.iload_n 3, 1) := by decide +kernel
theorem dX12_order_204 : decode cX12_order 204 = .ok (.bipush 98, 2) := by decide +kernel
theorem dX12_order_206 : decode cX12_order 206 = .ok (.if_icmp .ne 7, 3) := by decide +kernel
theorem dX12_order_209 : decode cX12_order 209 = .ok (.iconst 0, 1) := by decide +kernel
theorem dX12_order_210 : decode cX12_order 210 = .ok (.goto 11, 3) := by decide +kernel
theorem dX12_order_213 : decode cX12_order 213 = .ok (.aload_n 0, 1) := by decide +kernel
theorem dX12_order_214 : decode cX12_order 214 = .ok (.iconst 2, 1) := by decide +kernel
theorem dX12_order_215 : decode cX12_order 215 = .ok (.iconst 0, 1) := by decide +kernel
theorem dX12_order_216 : decode cX12_order 216 = .ok (.bipush 99, 2) := by decide +kernel
theorem dX12_order_218 : decode cX12_order 218 = .ok (.invokevirtual 183, 3) := by decide +kernel
theorem dX12_order_221 : decode cX12_order 221 = .ok (.iastore, 1) := by decide +kernel
theorem dX12_order_222 : decode cX12_order 222 = .ok (.iinc 1 1, 3) := by decide +kernel
theorem dX12_order_225 : decode cX12_order 225 = .ok (.aload_n 0, 1) := by decide +kernel
theorem dX12_order_226 : decode cX12_order 226 = .ok (.bipush 59, 2) := by decide +kernel
theorem dX12_order_228 : decode cX12_order 228 = .ok (.invokevirtual 171, 3) := by decide +kernel
theorem dX12_order_231 : decode cX12_order 231 = .ok (.istore_n 2, 1) := by decide +kernel
theorem dX12_order_232 : decode cX12_order 232 = .ok (.goto (-193), 3) := by decide +kernel
theorem dX12_order_235 : decode cX12_order 235 = .ok (.aload_n 0, 1) := by decide +kernel
theorem dX12_order_236 : decode cX12_order 236 = .ok (.getfield 157, 3) := by decide +kernel
theorem dX12_order_239 : decode cX12_order 239 = .ok (.aload_n 0, 1) := by decide +kernel
theorem dX12_order_240 : decode cX12_order 240 = .ok (.getfield 151, 3) := by decide +kernel
theorem dX12_order_243 : decode cX12_order 243 = .ok (.if_icmp .ge 11, 3) := by decide +kernel
theorem dX12_order_246 : decode cX12_order 246 = .ok (.aload_n 0, 1) := by decide +kernel
theorem dX12_order_247 : decode cX12_order 247 = .ok (.aload_n 0, 1) := by decide +kernel
theorem dX12_order_248 : decode cX12_order 248 = .ok (.getfield 157, 3) := by decide +kernel
theorem dX12_order_251 : decode cX12_order 251 = .ok (.invokevirtual 175, 3) := by decide +kernel
theorem dX12_order_254 : decode cX12_order 254 = .ok (.aload_n 0, 1) := by decide +kernel
theorem dX12_order_255 : decode cX12_order 255 = .ok (.invokevirtual 163, 3) := by decide +kernel
theorem dX12_order_258 : decode cX12_order 258 = .ok (.ifCond .ne 10, 3) := by decide +kernel
theorem dX12_order_261 : decode cX12_order 261 = .ok (.iconst (-1), 1) := by decide +kernel
theorem dX12_order_262 : decode cX12_order 262 = .ok (.aload_n 0, 1) := by decide +kernel
theorem dX12_order_263 : decode cX12_order 263 = .ok (.getfield 160, 3) := by decide +kernel
theorem dX12_order_266 : decode cX12_order 266 = .ok (.isub, 1) := by decide +kernel
theorem dX12_order_267 : decode cX12_order 267 = .ok (.ireturn, 1) := by decide +kernel
theorem dX12_order_268 : decode cX12_order 268 = .ok (.aload_n 0, 1) := by decide +kernel
theorem dX12_order_269 : decode cX12_order 269 = .ok (.getfield 247, 3) := by decide +kernel
theorem dX12_order_272 : decode cX12_order 272 = .ok (.istore_n 3, 1) := by decide +kernel
theorem dX12_order_273 : decode cX12_order 273 = .ok (.iconst 0, 1) := by decide +kernel
theorem dX12_order_274 : decode cX12_order 274 = .ok (.istore 4, 2) := by decide +kernel
theorem dX12_order_276 : decode cX12_order 276 = .ok (.iload 4, 2) := by decide +kernel
theorem dX12_order_278 : decode cX12_order 278 = .ok (.iload_n 1, 1) := by decide +kernel
theorem dX12_order_279 : decode cX12_order 279 = .ok (.if_icmp .ge 20, 3) := by decide +kernel
theorem dX12_order_282 : decode cX12_order 282 = .ok (.aload_n 0, 1) := by decide +kernel
theorem dX12_order_283 : decode cX12_order 283 = .ok (.iconst 4, 1) := by decide +kernel
theorem dX12_order_284 : decode cX12_order 284 = .ok (.iload 4, 2) := by decide +kernel
theorem dX12_order_286 : decode cX12_order 286 = .ok (.imul, 1) := by decide +kernel
theorem dX12_order_287 : decode cX12_order 287 = .ok (.invokevirtual 289, 3) := by decide +kernel
theorem dX12_order_290 : decode cX12_order 290 = .ok (.ifCond .eq 9, 3) := by decide +kernel
theorem dX12_order_293 : decode cX12_order 293 = .ok (.iinc 4 1, 3) := by decide +kernel
theorem dX12_order_296 : decode cX12_order 296 = .ok (.goto (-20), 3) := by decide +kernel
theorem dX12_order_299 : decode cX12_order 299 = .ok (.aload_n 0, 1) := by decide +kernel
theorem dX12_order_300 : decode cX12_order 300 = .ok (.iconst 0, 1) := by decide +kernel
theorem dX12_order_301 : decode cX12_order 301 = .ok (.putfield 131, 3) := by decide +kernel
theorem dX12_order_304 : decode cX12_order 304 = .ok (.aload_n 0, 1) := by decide +kernel
theorem dX12_order_305 : decode cX12_order 305 = .ok (.aload_n 0, 1) := by decide +kernel
theorem dX12_order_306 : decode cX12_order 306 = .ok (.getfield 247, 3) := by decide +kernel
theorem dX12_order_309 : decode cX12_order 309 = .ok (.iload_n 3, 1) := by decide +kernel
theorem dX12_order_310 : decode cX12_order 310 = .ok (.isub, 1) := by decide +kernel
theorem dX12_order_311 : decode cX12_order 311 = .ok (.invokevirtual 276, 3) := by decide +kernel
theorem dX12_order_314 : decode cX12_order 314 = .ok (.aload_n 0, 1) := by decide +kernel
theorem dX12_order_315 : decode cX12_order 315 = .ok (.iload 4, 2) := by decide +kernel
theorem dX12_order_317 : decode cX12_order 317 = .ok (.iload_n 1, 1) := by decide +kernel
theorem dX12_order_318 : decode cX12_order 318 = .ok (.if_icmp .ge 7, 3) := by decide +kernel
theorem dX12_order_321 : decode cX12_order 321 = .ok (.iconst 1, 1) := by decide +kernel
theorem dX12_order_322 : decode cX12_order 322 = .ok (.goto 4, 3) := by decide +kernel
theorem dX12_order_325 : decode cX12_order 325 = .ok (.iconst 0, 1) := by decide +kernel
theorem dX12_order_326 : decode cX12_order 326 = .ok (.invokevirtual 276, 3) := by decide +kernel
theorem dX12_order_329 : decode cX12_order 329 = .ok (.iload 4, 2) := by decide +kernel
theorem dX12_order_331 : decode cX12_order 331 = .ok (.ireturn, 1) := by decide +kernel
theorem bkX12_order_0 {b : Int} {mem : qm} {Q : Int → qm → Prop}
    {P1 : Int → qm → Prop}
    (l1 : q_Ev yX12_begin cX12_begin 4 none 1 0 0 [(2, 188), (2, 198), (0, (mem 188 14)), (0, 60)] (q_sh0, q_rb b, (q_up mem 188 17 0)) (qK (q_rb 198) (P1)))
    (l2 : ∀ (r1 : Int), ∀ (m1 : qm), P1 r1 m1 → q_in32 r1 → (m1 188 19) ≤ 0 → q_At yX12_order cX12_order 6 (some .int) 74 0 0 (qE Q) 39 [(2, 188), (0, 0), (0, 0), (4, 0), (4, 0), (4, 0)] [] (q_sh0, q_rb 198, (q_up m1 188 14 0)))
    (l3 : ∀ (r1 : Int), ∀ (m1 : qm), P1 r1 m1 → q_in32 r1 → 0 < (m1 188 19) → q_At yX12_order cX12_order 6 (some .int) 74 0 0 (qE Q) 39 [(2, 188), (0, 0), (0, 1), (4, 0), (4, 0), (4, 0)] [] (q_sh0, q_rb 198, (q_up m1 188 14 0))) :
    q_At yX12_order cX12_order 6 (some .int) 74 0 0 (qE Q) 0 [(2, 188), (4, 0), (4, 0), (4, 0), (4, 0), (4, 0)] [] (q_sh0, q_rb b, mem) := by
  refine q_aload_n dX12_order_0 rfl rfl ?_
  refine qx_iconst dX12_order_1 rfl rfl ?_
  refine q_putI (ci := 12) (k := 17) (kI := 17) (ty := .int) dX12_order_2 rfl (by decide) rfl tw1200 rfl rfl rfl (fun _ => ⟨rfl, rfl⟩) qs188 ?_
  refine q_aload_n dX12_order_5 rfl rfl ?_
  refine q_aload_n dX12_order_6 rfl rfl ?_
  refine q_getR (ci := 12) (k := 13) dX12_order_7 rfl (by decide) rfl tw1196 (by decide) qs188 qw188_13 (by decide) ?_
  refine q_aload_n dX12_order_10 rfl rfl ?_
  refine qx_getI (ci := 12) (k := 14) (v := (mem 188 14)) dX12_order_11 rfl rfl rfl tw1197 rfl qs188 (q_up_i (by decide)) ?_
  refine qx_bipush dX12_order_14 rfl rfl ?_
  refine qx_invV (ci := 12) [(2, 198), (0, (mem 188 14)), (0, 60)] [(0, 60), (0, (mem 188 14)), (2, 198), (2, 188)] rfl qM_X12_begin dX12_order_16 tw1369 rfl qs188 rfl rfl rfl rfl (l1) (fun r1 m1 p1 q1 => ?_)
  refine q_aload_n dX12_order_19 rfl rfl ?_
  refine qx_iconst dX12_order_20 rfl rfl ?_
  refine q_putI (ci := 12) (k := 14) (kI := 14) (ty := .int) dX12_order_21 rfl (by decide) rfl tw1197 rfl rfl rfl (fun _ => ⟨rfl, rfl⟩) qs188 ?_
  refine qx_iconst dX12_order_24 rfl rfl ?_
  refine qx_istore_n (L' := [(2, 188), (0, 0), (4, 0), (4, 0), (4, 0), (4, 0)]) dX12_order_25 rfl rfl rfl rfl ?_
  refine q_aload_n dX12_order_26 rfl rfl ?_
  refine qx_getI (ci := 12) (k := 19) (v := (m1 188 19)) dX12_order_27 rfl rfl rfl tw1202 rfl qs188 (q_up_i (by decide)) ?_
  refine qx_if_le (tgt := 37) dX12_order_30 (by decide) (fun c2 => ?_) (fun c2 => ?_)
  · skip
    refine qx_iconst dX12_order_37 rfl rfl ?_
    refine qx_istore_n (L' := [(2, 188), (0, 0), (0, 0), (4, 0), (4, 0), (4, 0)]) dX12_order_38 rfl rfl rfl rfl ?_
    exact l2 r1 m1 p1 q1 c2
  · skip
    refine qx_iconst dX12_order_33 rfl rfl ?_
    refine q_goto (tgt := 38) dX12_order_34 (by decide) ?_
    refine qx_istore_n (L' := [(2, 188), (0, 0), (0, 1), (4, 0), (4, 0), (4, 0)]) dX12_order_38 rfl rfl rfl rfl ?_
    exact l3 r1 m1 p1 q1 c2
theorem bkX12_order_39 {b : Int} {mem : qm} {Q : Int → qm → Prop}
    {v1 v2 : Int}
    (l1 : v2 = 0 → q_At yX12_order cX12_order 6 (some .int) 74 0 0 (qE Q) 235 [(2, 188), (0, v1), (0, v2), (4, 0), (4, 0), (4, 0)] [] (q_sh0, q_rb b, mem))
    {P3 : Int → qm → Prop}
    (l2 : v2 ≠ 0 → ((mem 188 22) = -1) → q_Ev yX12_here cX12_here 1 (some .int) 1 0 0 [(2, 188)] (q_sh0, q_rb b, mem) (qK (q_rb b) (P3)))
    (l3 : v2 ≠ 0 → ((mem 188 22) = -1) → ∀ (r3 : Int), ∀ (m3 : qm), P3 r3 m3 → q_in32 r3 → r3 = 112 → q_At yX12_order cX12_order 6 (some .int) 74 0 0 (qE Q) 87 [(2, 188), (0, v1), (0, v2), (0, r3), (4, 0), (4, 0)] [] (q_sh0, q_rb b, m3))
    (l4 : v2 ≠ 0 → ((mem 188 22) = -1) → ∀ (r3 : Int), ∀ (m3 : qm), P3 r3 m3 → q_in32 r3 → r3 ≠ 112 → r3 = 98 → q_At yX12_order cX12_order 6 (some .int) 74 0 0 (qE Q) 87 [(2, 188), (0, v1), (0, v2), (0, r3), (4, 0), (4, 0)] [] (q_sh0, q_rb b, m3))
    (l5 : v2 ≠ 0 → ((mem 188 22) = -1) → ∀ (r3 : Int), ∀ (m3 : qm), P3 r3 m3 → q_in32 r3 → r3 ≠ 112 → r3 ≠ 98 → r3 = 119 → q_At yX12_order cX12_order 6 (some .int) 74 0 0 (qE Q) 87 [(2, 188), (0, v1), (0, v2), (0, r3), (4, 0), (4, 0)] [] (q_sh0, q_rb b, m3))
    (l6 : v2 ≠ 0 → ((mem 188 22) = -1) → ∀ (r3 : Int), ∀ (m3 : qm), P3 r3 m3 → q_in32 r3 → r3 ≠ 112 → r3 ≠ 98 → r3 ≠ 119 → r3 = 115 → q_At yX12_order cX12_order 6 (some .int) 74 0 0 (qE Q) 87 [(2, 188), (0, v1), (0, v2), (0, r3), (4, 0), (4, 0)] [] (q_sh0, q_rb b, m3))
    {P8 : Int → qm → Int → qm → Prop}
    (l7 : v2 ≠ 0 → ((mem 188 22) = -1) → ∀ (r3 : Int), ∀ (m3 : qm), P3 r3 m3 → q_in32 r3 → r3 ≠ 112 → r3 ≠ 98 → r3 ≠ 119 → r3 ≠ 115 → q_Ev yX12_fault cX12_fault 2 none 2 0 0 [(2, 188), (0, (m3 188 21))] (q_sh0, q_rb b, m3) (qK (q_rb b) (P8 r3 m3)))
    (l8 : v2 ≠ 0 → ((mem 188 22) = -1) → ∀ (r3 : Int), ∀ (m3 : qm), P3 r3 m3 → q_in32 r3 → r3 ≠ 112 → r3 ≠ 98 → r3 ≠ 119 → r3 ≠ 115 → ∀ (r8 : Int), ∀ (m8 : qm), P8 r3 m3 r8 m8 → q_in32 r8 → q_At yX12_order cX12_order 6 (some .int) 74 0 0 (qE Q) 87 [(2, 188), (0, v1), (0, v2), (0, r3), (4, 0), (4, 0)] [] (q_sh0, q_rb b, m8))
    (l9 : v2 ≠ 0 → ¬ ((mem 188 22) = -1) → q_At yX12_order cX12_order 6 (some .int) 74 0 0 (qE Q) 235 [(2, 188), (0, v1), (0, v2), (4, 0), (4, 0), (4, 0)] [] (q_sh0, q_rb b, mem)) :
    q_At yX12_order cX12_order 6 (some .int) 74 0 0 (qE Q) 39 [(2, 188), (0, v1), (0, v2), (4, 0), (4, 0), (4, 0)] [] (q_sh0, q_rb b, mem) := by
  refine q_iload_n dX12_order_39 rfl rfl ?_
  refine qx_if_eq (tgt := 235) dX12_order_40 (by decide) (fun c1 => ?_) (fun c1 => ?_)
  · skip
    exact l1 c1
  · skip
    refine q_aload_n dX12_order_43 rfl rfl ?_
    refine qx_invV (ci := 12) [] [(2, 188)] rfl qM_X12_fine dX12_order_44 tw1373 rfl qs188 rfl rfl rfl rfl (spX12_fine) (fun r2 m2 p2 q2 => ?_)
    obtain ⟨p2e, ⟨p2f, p2⟩ | ⟨p2f, p2⟩⟩ := p2
    · rw [p2e, p2f]
      refine qx_if_eq (tgt := 235) dX12_order_47 (by decide) (fun z => absurd z (by decide)) (fun _ => ?_)
      refine q_aload_n dX12_order_50 rfl rfl ?_
      refine qx_invV (ci := 12) [] [(2, 188)] rfl qM_X12_here dX12_order_51 tw1381 rfl qs188 rfl rfl rfl rfl (l2 c1 p2) (fun r3 m3 p3 q3 => ?_)
      refine qx_istore_n (L' := [(2, 188), (0, v1), (0, v2), (0, r3), (4, 0), (4, 0)]) dX12_order_54 rfl rfl rfl rfl ?_
      refine q_iload_n dX12_order_55 rfl rfl ?_
      refine qx_bipush dX12_order_56 rfl rfl ?_
      refine qx_icmp_eq (tgt := 87) dX12_order_58 (by decide) (fun c4 => ?_) (fun c4 => ?_)
      · skip
        exact l3 c1 p2 r3 m3 p3 q3 c4
      · skip
        refine q_iload_n dX12_order_61 rfl rfl ?_
        refine qx_bipush dX12_order_62 rfl rfl ?_
        refine qx_icmp_eq (tgt := 87) dX12_order_64 (by decide) (fun c5 => ?_) (fun c5 => ?_)
        · skip
          exact l4 c1 p2 r3 m3 p3 q3 c4 c5
        · skip
          refine q_iload_n dX12_order_67 rfl rfl ?_
          refine qx_bipush dX12_order_68 rfl rfl ?_
          refine qx_icmp_eq (tgt := 87) dX12_order_70 (by decide) (fun c6 => ?_) (fun c6 => ?_)
          · skip
            exact l5 c1 p2 r3 m3 p3 q3 c4 c5 c6
          · skip
            refine q_iload_n dX12_order_73 rfl rfl ?_
            refine qx_bipush dX12_order_74 rfl rfl ?_
            refine qx_icmp_eq (tgt := 87) dX12_order_76 (by decide) (fun c7 => ?_) (fun c7 => ?_)
            · skip
              exact l6 c1 p2 r3 m3 p3 q3 c4 c5 c6 c7
            · skip
              refine q_aload_n dX12_order_79 rfl rfl ?_
              refine q_aload_n dX12_order_80 rfl rfl ?_
              refine qx_getI (ci := 12) (k := 21) (v := (m3 188 21)) dX12_order_81 rfl rfl rfl tw1204 rfl qs188 rfl ?_
              refine qx_invV (ci := 12) [(0, (m3 188 21))] [(0, (m3 188 21)), (2, 188)] rfl qM_X12_fault dX12_order_84 tw1389 rfl qs188 rfl rfl rfl rfl (l7 c1 p2 r3 m3 p3 q3 c4 c5 c6 c7) (fun r8 m8 p8 q8 => ?_)
              exact l8 c1 p2 r3 m3 p3 q3 c4 c5 c6 c7 r8 m8 p8 q8
    · rw [p2e, p2f]
      refine qx_if_eq (tgt := 235) dX12_order_47 (by decide) (fun _ => ?_) (fun z => absurd z (by decide))
      exact l9 c1 p2
theorem bkX12_order_87 {b : Int} {mem : qm} {Q : Int → qm → Prop}
    {v1 v2 v3 : Int}
    (o1 : q_in32 ((mem 188 21) + 1))
    {P2 : Int → qm → Prop}
    (l2 : v3 ≠ 98 → q_Ev yX12_number cX12_number 6 (some .int) 3 0 0 [(2, 188), (0, 1), (0, 0), (0, 9)] (q_sh0, q_rb b, (q_up mem 188 21 ((mem 188 21) + 1))) (qK (q_rb b) (P2)))
    (l3 : v3 ≠ 98 → ∀ (r2 : Int), ∀ (m2 : qm), P2 r2 m2 → q_in32 r2 → q_At yX12_order cX12_order 6 (some .int) 74 0 0 (qE Q) 122 [(2, 188), (0, v1), (0, v2), (0, v3), (4, 0), (4, 0)] [(0, r2)] (q_sh0, q_rb b, m2))
    {P3 : Int → qm → Prop}
    (l4 : v3 = 98 → q_Ev yX12_number cX12_number 6 (some .int) 3 0 0 [(2, 188), (0, 2), (0, 0), (0, 99)] (q_sh0, q_rb b, (q_up mem 188 21 ((mem 188 21) + 1))) (qK (q_rb b) (P3)))
    (l5 : v3 = 98 → ∀ (r3 : Int), ∀ (m3 : qm), P3 r3 m3 → q_in32 r3 → q_At yX12_order cX12_order 6 (some .int) 74 0 0 (qE Q) 122 [(2, 188), (0, v1), (0, v2), (0, v3), (4, 0), (4, 0)] [(0, r3)] (q_sh0, q_rb b, m3)) :
    q_At yX12_order cX12_order 6 (some .int) 74 0 0 (qE Q) 87 [(2, 188), (0, v1), (0, v2), (0, v3), (4, 0), (4, 0)] [] (q_sh0, q_rb b, mem) := by
  refine q_aload_n dX12_order_87 rfl rfl ?_
  refine q_dup dX12_order_88 (fun h => by cases h) ?_
  refine qx_getI (ci := 12) (k := 21) (v := (mem 188 21)) dX12_order_89 rfl rfl rfl tw1204 rfl qs188 rfl ?_
  refine qx_iconst dX12_order_92 rfl rfl ?_
  refine qx_iadd dX12_order_93 (o1) ?_
  refine q_putI (ci := 12) (k := 21) (kI := 21) (ty := .int) dX12_order_94 rfl (by decide) rfl tw1204 rfl rfl rfl (fun _ => ⟨rfl, rfl⟩) qs188 ?_
  refine q_iload_n dX12_order_97 rfl rfl ?_
  refine qx_bipush dX12_order_98 rfl rfl ?_
  refine qx_icmp_ne (tgt := 114) dX12_order_100 (by decide) (fun c1 => ?_) (fun c1 => ?_)
  · skip
    refine q_aload_n dX12_order_114 rfl rfl ?_
    refine qx_iconst dX12_order_115 rfl rfl ?_
    refine qx_iconst dX12_order_116 rfl rfl ?_
    refine qx_bipush dX12_order_117 rfl rfl ?_
    refine qx_invV (ci := 12) [(0, 1), (0, 0), (0, 9)] [(0, 9), (0, 0), (0, 1), (2, 188)] rfl qM_X12_number dX12_order_119 tw1385 rfl qs188 rfl rfl rfl rfl (l2 c1) (fun r2 m2 p2 q2 => ?_)
    exact l3 c1 r2 m2 p2 q2
  · skip
    refine q_aload_n dX12_order_103 rfl rfl ?_
    refine qx_iconst dX12_order_104 rfl rfl ?_
    refine qx_iconst dX12_order_105 rfl rfl ?_
    refine qx_bipush dX12_order_106 rfl rfl ?_
    refine qx_invV (ci := 12) [(0, 2), (0, 0), (0, 99)] [(0, 99), (0, 0), (0, 2), (2, 188)] rfl qM_X12_number dX12_order_108 tw1385 rfl qs188 rfl rfl rfl rfl (l4 c1) (fun r3 m3 p3 q3 => ?_)
    refine q_goto (tgt := 122) dX12_order_111 (by decide) ?_
    exact l5 c1 r3 m3 p3 q3
theorem bkX12_order_122 {b : Int} {mem : qm} {Q : Int → qm → Prop}
    {v1 v2 v3 s0 : Int}
    (l1 : v3 ≠ 112 → q_At yX12_order cX12_order 6 (some .int) 74 0 0 (qE Q) 149 [(2, 188), (0, v1), (0, v2), (0, v3), (0, s0), (0, 0)] [] (q_sh0, q_rb b, mem))
    {P2 : Int → qm → Prop}
    (l2 : v3 = 112 → q_Ev yX12_need cX12_need 2 none 3 0 0 [(2, 188), (0, 62)] (q_sh0, q_rb b, mem) (qK (q_rb b) (P2)))
    {P3 : Int → qm → Int → qm → Prop}
    (l3 : v3 = 112 → ∀ (r2 : Int), ∀ (m2 : qm), P2 r2 m2 → q_in32 r2 → q_Ev yX12_number cX12_number 6 (some .int) 3 0 0 [(2, 188), (0, 1), (0, 0), (0, 9)] (q_sh0, q_rb b, m2) (qK (q_rb b) (P3 r2 m2)))
    (l4 : v3 = 112 → ∀ (r2 : Int), ∀ (m2 : qm), P2 r2 m2 → q_in32 r2 → ∀ (r3 : Int), ∀ (m3 : qm), P3 r2 m2 r3 m3 → q_in32 r3 → q_At yX12_order cX12_order 6 (some .int) 74 0 0 (qE Q) 149 [(2, 188), (0, v1), (0, v2), (0, v3), (0, s0), (0, r3)] [] (q_sh0, q_rb b, m3)) :
    q_At yX12_order cX12_order 6 (some .int) 74 0 0 (qE Q) 122 [(2, 188), (0, v1), (0, v2), (0, v3), (4, 0), (4, 0)] [(0, s0)] (q_sh0, q_rb b, mem) := by
  refine qx_istore (L' := [(2, 188), (0, v1), (0, v2), (0, v3), (0, s0), (4, 0)]) dX12_order_122 rfl rfl rfl ?_
  refine qx_iconst dX12_order_124 rfl rfl ?_
  refine qx_istore (L' := [(2, 188), (0, v1), (0, v2), (0, v3), (0, s0), (0, 0)]) dX12_order_125 rfl rfl rfl ?_
  refine q_iload_n dX12_order_127 rfl rfl ?_
  refine qx_bipush dX12_order_128 rfl rfl ?_
  refine qx_icmp_ne (tgt := 149) dX12_order_130 (by decide) (fun c1 => ?_) (fun c1 => ?_)
  · skip
    exact l1 c1
  · skip
    refine q_aload_n dX12_order_133 rfl rfl ?_
    refine qx_bipush dX12_order_134 rfl rfl ?_
    refine qx_invV (ci := 12) [(0, 62)] [(0, 62), (2, 188)] rfl qM_X12_need dX12_order_136 tw1393 rfl qs188 rfl rfl rfl rfl (l2 c1) (fun r2 m2 p2 q2 => ?_)
    refine q_aload_n dX12_order_139 rfl rfl ?_
    refine qx_iconst dX12_order_140 rfl rfl ?_
    refine qx_iconst dX12_order_141 rfl rfl ?_
    refine qx_bipush dX12_order_142 rfl rfl ?_
    refine qx_invV (ci := 12) [(0, 1), (0, 0), (0, 9)] [(0, 9), (0, 0), (0, 1), (2, 188)] rfl qM_X12_number dX12_order_144 tw1385 rfl qs188 rfl rfl rfl rfl (l3 c1 r2 m2 p2 q2) (fun r3 m3 p3 q3 => ?_)
    refine qx_istore (L' := [(2, 188), (0, v1), (0, v2), (0, v3), (0, s0), (0, r3)]) dX12_order_147 rfl rfl rfl ?_
    exact l4 c1 r2 m2 p2 q2 r3 m3 p3 q3
theorem bkX12_order_149 {b : Int} {mem : qm} {Q : Int → qm → Prop}
    {v1 v2 v3 v4 v5 : Int}
    (l1 : v3 = 98 → q_At yX12_order cX12_order 6 (some .int) 74 0 0 (qE Q) 161 [(2, 188), (0, v1), (0, v2), (0, v3), (0, v4), (0, v5)] [] (q_sh0, q_rb b, mem))
    {P2 : Int → qm → Prop}
    (l2 : v3 ≠ 98 → q_Ev yX12_need cX12_need 2 none 3 0 0 [(2, 188), (0, 42)] (q_sh0, q_rb b, mem) (qK (q_rb b) (P2)))
    (l3 : v3 ≠ 98 → ∀ (r2 : Int), ∀ (m2 : qm), P2 r2 m2 → q_in32 r2 → q_At yX12_order cX12_order 6 (some .int) 74 0 0 (qE Q) 161 [(2, 188), (0, v1), (0, v2), (0, v3), (0, v4), (0, v5)] [] (q_sh0, q_rb b, m2)) :
    q_At yX12_order cX12_order 6 (some .int) 74 0 0 (qE Q) 149 [(2, 188), (0, v1), (0, v2), (0, v3), (0, v4), (0, v5)] [] (q_sh0, q_rb b, mem) := by
  refine q_iload_n dX12_order_149 rfl rfl ?_
  refine qx_bipush dX12_order_150 rfl rfl ?_
  refine qx_icmp_eq (tgt := 161) dX12_order_152 (by decide) (fun c1 => ?_) (fun c1 => ?_)
  · skip
    exact l1 c1
  · skip
    refine q_aload_n dX12_order_155 rfl rfl ?_
    refine qx_bipush dX12_order_156 rfl rfl ?_
    refine qx_invV (ci := 12) [(0, 42)] [(0, 42), (2, 188)] rfl qM_X12_need dX12_order_158 tw1393 rfl qs188 rfl rfl rfl rfl (l2 c1) (fun r2 m2 p2 q2 => ?_)
    exact l3 c1 r2 m2 p2 q2
theorem bkX12_order_161 {b : Int} {mem : qm} {Q : Int → qm → Prop}
    {v1 v2 v3 v4 v5 : Int}
    (o1 : q_in32 (4 * v1) ∧ (0 ≤ (4 * v1) ∧ (4 * v1) < 320) ∧ q_in32 ((4 * v1) + 1) ∧ (0 ≤ ((4 * v1) + 1) ∧ ((4 * v1) + 1) < 320) ∧ q_in32 ((4 * v1) + 2) ∧ (0 ≤ ((4 * v1) + 2) ∧ ((4 * v1) + 2) < 320) ∧ q_in32 ((4 * v1) + 3))
    {P2 : Int → qm → Prop}
    (l2 : v3 ≠ 98 → q_Ev yX12_number cX12_number 6 (some .int) 3 0 0 [(2, 188), (0, 2), (0, 0), (0, 99)] (q_sh0, q_rb b, (q_up (q_up (q_up mem 206 (4 * v1) v3) 206 ((4 * v1) + 1) v4) 206 ((4 * v1) + 2) v5)) (qK (q_rb b) (P2)))
    (l3 : v3 ≠ 98 → ∀ (r2 : Int), ∀ (m2 : qm), P2 r2 m2 → q_in32 r2 → q_At yX12_order cX12_order 6 (some .int) 74 0 0 (qE Q) 221 [(2, 188), (0, v1), (0, v2), (0, v3), (0, v4), (0, v5)] [(0, r2), (0, ((4 * v1) + 3)), (2, 206)] (q_sh0, q_rb b, m2))
    (l4 : v3 = 98 → q_At yX12_order cX12_order 6 (some .int) 74 0 0 (qE Q) 221 [(2, 188), (0, v1), (0, v2), (0, v3), (0, v4), (0, v5)] [(0, 0), (0, ((4 * v1) + 3)), (2, 206)] (q_sh0, q_rb b, (q_up (q_up (q_up mem 206 (4 * v1) v3) 206 ((4 * v1) + 1) v4) 206 ((4 * v1) + 2) v5))) :
    q_At yX12_order cX12_order 6 (some .int) 74 0 0 (qE Q) 161 [(2, 188), (0, v1), (0, v2), (0, v3), (0, v4), (0, v5)] [] (q_sh0, q_rb b, mem) := by
  refine q_aload_n dX12_order_161 rfl rfl ?_
  refine q_getR (ci := 12) (k := 32) dX12_order_162 rfl (by decide) rfl tw1215 (by decide) qs188 qw188_32 (by decide) ?_
  refine qx_iconst dX12_order_165 rfl rfl ?_
  refine q_iload_n dX12_order_166 rfl rfl ?_
  refine qx_imul dX12_order_167 (o1).1 ?_
  refine q_iload_n dX12_order_168 rfl rfl ?_
  refine q_iast dX12_order_169 qs206 ((o1).2.1).1 ((o1).2.1).2 ?_
  refine q_aload_n dX12_order_170 rfl rfl ?_
  refine q_getR (ci := 12) (k := 32) dX12_order_171 rfl (by decide) rfl tw1215 (by decide) qs188 qw188_32 (by decide) ?_
  refine qx_iconst dX12_order_174 rfl rfl ?_
  refine q_iload_n dX12_order_175 rfl rfl ?_
  refine qx_imul dX12_order_176 (o1).1 ?_
  refine qx_iconst dX12_order_177 rfl rfl ?_
  refine qx_iadd dX12_order_178 (o1).2.2.1 ?_
  refine q_iload dX12_order_179 rfl ?_
  refine q_iast dX12_order_181 qs206 ((o1).2.2.2.1).1 ((o1).2.2.2.1).2 ?_
  refine q_aload_n dX12_order_182 rfl rfl ?_
  refine q_getR (ci := 12) (k := 32) dX12_order_183 rfl (by decide) rfl tw1215 (by decide) qs188 qw188_32 (by decide) ?_
  refine qx_iconst dX12_order_186 rfl rfl ?_
  refine q_iload_n dX12_order_187 rfl rfl ?_
  refine qx_imul dX12_order_188 (o1).1 ?_
  refine qx_iconst dX12_order_189 rfl rfl ?_
  refine qx_iadd dX12_order_190 (o1).2.2.2.2.1 ?_
  refine q_iload dX12_order_191 rfl ?_
  refine q_iast dX12_order_193 qs206 ((o1).2.2.2.2.2.1).1 ((o1).2.2.2.2.2.1).2 ?_
  refine q_aload_n dX12_order_194 rfl rfl ?_
  refine q_getR (ci := 12) (k := 32) dX12_order_195 rfl (by decide) rfl tw1215 (by decide) qs188 qw188_32 (by decide) ?_
  refine qx_iconst dX12_order_198 rfl rfl ?_
  refine q_iload_n dX12_order_199 rfl rfl ?_
  refine qx_imul dX12_order_200 (o1).1 ?_
  refine qx_iconst dX12_order_201 rfl rfl ?_
  refine qx_iadd dX12_order_202 (o1).2.2.2.2.2.2 ?_
  refine q_iload_n dX12_order_203 rfl rfl ?_
  refine qx_bipush dX12_order_204 rfl rfl ?_
  refine qx_icmp_ne (tgt := 213) dX12_order_206 (by decide) (fun c1 => ?_) (fun c1 => ?_)
  · skip
    refine q_aload_n dX12_order_213 rfl rfl ?_
    refine qx_iconst dX12_order_214 rfl rfl ?_
    refine qx_iconst dX12_order_215 rfl rfl ?_
    refine qx_bipush dX12_order_216 rfl rfl ?_
    refine qx_invV (ci := 12) [(0, 2), (0, 0), (0, 99)] [(0, 99), (0, 0), (0, 2), (2, 188), (0, ((4 * v1) + 3)), (2, 206)] rfl qM_X12_number dX12_order_218 tw1385 rfl qs188 rfl rfl rfl rfl (l2 c1) (fun r2 m2 p2 q2 => ?_)
    exact l3 c1 r2 m2 p2 q2
  · skip
    refine qx_iconst dX12_order_209 rfl rfl ?_
    refine q_goto (tgt := 221) dX12_order_210 (by decide) ?_
    exact l4 c1
theorem bkX12_order_221 {b : Int} {mem : qm} {Q : Int → qm → Prop}
    {v1 v2 v3 v4 v5 s1 s2 : Int}
    (o1 : (0 ≤ s1 ∧ s1 < 320) ∧ q_in32 (v1 + 1))
    {P1 : Int → qm → Prop}
    (l2 : q_Ev yX12_passes cX12_passes 2 (some .boolean) 2 0 0 [(2, 188), (0, 59)] (q_sh0, q_rb b, (q_up mem 206 s1 s2)) (qK (q_rb b) (P1)))
    (l3 : ∀ (r1 : Int), ∀ (m1 : qm), P1 r1 m1 → q_in32 r1 → q_At yX12_order cX12_order 6 (some .int) 74 0 0 (qE Q) 39 [(2, 188), (0, (v1 + 1)), (0, r1), (4, 0), (4, 0), (4, 0)] [] (q_sh0, q_rb b, m1)) :
    q_At yX12_order cX12_order 6 (some .int) 74 0 0 (qE Q) 221 [(2, 188), (0, v1), (0, v2), (0, v3), (0, v4), (0, v5)] [(0, s2), (0, s1), (2, 206)] (q_sh0, q_rb b, mem) := by
  refine q_iast dX12_order_221 qs206 ((o1).1).1 ((o1).1).2 ?_
  refine qx_iinc (L' := [(2, 188), (0, (v1 + 1)), (0, v2), (0, v3), (0, v4), (0, v5)]) dX12_order_222 rfl rfl rfl (o1).2 rfl ?_
  refine q_aload_n dX12_order_225 rfl rfl ?_
  refine qx_bipush dX12_order_226 rfl rfl ?_
  refine qx_invV (ci := 12) [(0, 59)] [(0, 59), (2, 188)] rfl qM_X12_passes dX12_order_228 tw1377 rfl qs188 rfl rfl rfl rfl (l2) (fun r1 m1 p1 q1 => ?_)
  refine qx_istore_n (L' := [(2, 188), (0, (v1 + 1)), (0, r1), (0, v3), (0, v4), (0, v5)]) dX12_order_231 rfl rfl rfl rfl ?_
  refine q_goto (tgt := 39) dX12_order_232 (by decide) ?_
  refine q_kill (L' := [(2, 188), (0, (v1 + 1)), (0, r1), (4, 0), (0, v4), (0, v5)]) 3 rfl ?_
  refine q_kill (L' := [(2, 188), (0, (v1 + 1)), (0, r1), (4, 0), (4, 0), (0, v5)]) 4 rfl ?_
  refine q_kill (L' := [(2, 188), (0, (v1 + 1)), (0, r1), (4, 0), (4, 0), (4, 0)]) 5 rfl ?_
  exact l3 r1 m1 p1 q1
theorem bkX12_order_235 {b : Int} {mem : qm} {Q : Int → qm → Prop}
    {v1 v2 : Int}
    (l1 : (mem 188 19) ≤ (mem 188 21) → q_At yX12_order cX12_order 6 (some .int) 74 0 0 (qE Q) 254 [(2, 188), (0, v1), (0, v2), (4, 0), (4, 0), (4, 0)] [] (q_sh0, q_rb b, mem))
    {P2 : Int → qm → Prop}
    (l2 : (mem 188 21) < (mem 188 19) → q_Ev yX12_fault cX12_fault 2 none 2 0 0 [(2, 188), (0, (mem 188 21))] (q_sh0, q_rb b, mem) (qK (q_rb b) (P2)))
    (l3 : (mem 188 21) < (mem 188 19) → ∀ (r2 : Int), ∀ (m2 : qm), P2 r2 m2 → q_in32 r2 → q_At yX12_order cX12_order 6 (some .int) 74 0 0 (qE Q) 254 [(2, 188), (0, v1), (0, v2), (4, 0), (4, 0), (4, 0)] [] (q_sh0, q_rb b, m2)) :
    q_At yX12_order cX12_order 6 (some .int) 74 0 0 (qE Q) 235 [(2, 188), (0, v1), (0, v2), (4, 0), (4, 0), (4, 0)] [] (q_sh0, q_rb b, mem) := by
  refine q_aload_n dX12_order_235 rfl rfl ?_
  refine qx_getI (ci := 12) (k := 21) (v := (mem 188 21)) dX12_order_236 rfl rfl rfl tw1204 rfl qs188 rfl ?_
  refine q_aload_n dX12_order_239 rfl rfl ?_
  refine qx_getI (ci := 12) (k := 19) (v := (mem 188 19)) dX12_order_240 rfl rfl rfl tw1202 rfl qs188 rfl ?_
  refine qx_icmp_ge (tgt := 254) dX12_order_243 (by decide) (fun c1 => ?_) (fun c1 => ?_)
  · skip
    exact l1 c1
  · skip
    refine q_aload_n dX12_order_246 rfl rfl ?_
    refine q_aload_n dX12_order_247 rfl rfl ?_
    refine qx_getI (ci := 12) (k := 21) (v := (mem 188 21)) dX12_order_248 rfl rfl rfl tw1204 rfl qs188 rfl ?_
    refine qx_invV (ci := 12) [(0, (mem 188 21))] [(0, (mem 188 21)), (2, 188)] rfl qM_X12_fault dX12_order_251 tw1389 rfl qs188 rfl rfl rfl rfl (l2 c1) (fun r2 m2 p2 q2 => ?_)
    exact l3 c1 r2 m2 p2 q2
theorem bkX12_order_254 {b : Int} {mem : qm} {Q : Int → qm → Prop}
    {v1 v2 : Int}
    (l1 : ((mem 188 22) = -1) → q_At yX12_order cX12_order 6 (some .int) 74 0 0 (qE Q) 276 [(2, 188), (0, v1), (0, v2), (0, (mem 188 11)), (0, 0), (4, 0)] [] (q_sh0, q_rb b, mem))
    (o2 : ¬ ((mem 188 22) = -1) → q_in32 ((-1) - (mem 188 22)))
    (l3 : ¬ ((mem 188 22) = -1) → Q ((-1) - (mem 188 22)) mem) :
    q_At yX12_order cX12_order 6 (some .int) 74 0 0 (qE Q) 254 [(2, 188), (0, v1), (0, v2), (4, 0), (4, 0), (4, 0)] [] (q_sh0, q_rb b, mem) := by
  refine q_aload_n dX12_order_254 rfl rfl ?_
  refine qx_invV (ci := 12) [] [(2, 188)] rfl qM_X12_fine dX12_order_255 tw1373 rfl qs188 rfl rfl rfl rfl (spX12_fine) (fun r1 m1 p1 q1 => ?_)
  obtain ⟨p1e, ⟨p1f, p1⟩ | ⟨p1f, p1⟩⟩ := p1
  · rw [p1e, p1f]
    refine qx_if_ne (tgt := 268) dX12_order_258 (by decide) (fun _ => ?_) (fun z => absurd z (by decide))
    refine q_aload_n dX12_order_268 rfl rfl ?_
    refine qx_getI (ci := 12) (k := 11) (v := (mem 188 11)) dX12_order_269 rfl rfl rfl tw1194 rfl qs188 rfl ?_
    refine qx_istore_n (L' := [(2, 188), (0, v1), (0, v2), (0, (mem 188 11)), (4, 0), (4, 0)]) dX12_order_272 rfl rfl rfl rfl ?_
    refine qx_iconst dX12_order_273 rfl rfl ?_
    refine qx_istore (L' := [(2, 188), (0, v1), (0, v2), (0, (mem 188 11)), (0, 0), (4, 0)]) dX12_order_274 rfl rfl rfl ?_
    exact l1 p1
  · rw [p1e, p1f]
    refine qx_if_ne (tgt := 268) dX12_order_258 (by decide) (fun z => absurd z (by decide)) (fun _ => ?_)
    refine qx_iconst dX12_order_261 rfl rfl ?_
    refine q_aload_n dX12_order_262 rfl rfl ?_
    refine qx_getI (ci := 12) (k := 22) (v := (mem 188 22)) dX12_order_263 rfl rfl rfl tw1205 rfl qs188 rfl ?_
    refine qx_isub dX12_order_266 (o2 p1) ?_
    exact q_iret dX12_order_267 (qE_i (l3 p1))
theorem bkX12_order_276 {b : Int} {mem : qm} {Q : Int → qm → Prop}
    {v1 v2 v3 v4 : Int}
    (l1 : v1 ≤ v4 → q_At yX12_order cX12_order 6 (some .int) 74 0 0 (qE Q) 299 [(2, 188), (0, v1), (0, v2), (0, v3), (0, v4), (4, 0)] [] (q_sh0, q_rb b, mem))
    (o2 : v4 < v1 → q_in32 (4 * v4))
    {P2 : Int → qm → Prop}
    (l3 : v4 < v1 → q_Ev yX12_goStep cX12_goStep 4 (some .boolean) 73 0 0 [(2, 188), (0, (4 * v4))] (q_sh0, q_rb b, mem) (qE (P2)))
    (l4 : v4 < v1 → ∀ (r2 : Int), ∀ (b2 : Int), ∀ (m2 : qm), P2 r2 m2 → q_in32 r2 → r2 = 0 → q_At yX12_order cX12_order 6 (some .int) 74 0 0 (qE Q) 299 [(2, 188), (0, v1), (0, v2), (0, v3), (0, v4), (4, 0)] [] (q_sh0, q_rb b2, m2))
    (o5 : v4 < v1 → ∀ (r2 : Int), ∀ (b2 : Int), ∀ (m2 : qm), P2 r2 m2 → q_in32 r2 → r2 ≠ 0 → q_in32 (v4 + 1))
    (l6 : v4 < v1 → ∀ (r2 : Int), ∀ (b2 : Int), ∀ (m2 : qm), P2 r2 m2 → q_in32 r2 → r2 ≠ 0 → q_At yX12_order cX12_order 6 (some .int) 74 0 0 (qE Q) 276 [(2, 188), (0, v1), (0, v2), (0, v3), (0, (v4 + 1)), (4, 0)] [] (q_sh0, q_rb b2, m2)) :
    q_At yX12_order cX12_order 6 (some .int) 74 0 0 (qE Q) 276 [(2, 188), (0, v1), (0, v2), (0, v3), (0, v4), (4, 0)] [] (q_sh0, q_rb b, mem) := by
  refine q_iload dX12_order_276 rfl ?_
  refine q_iload_n dX12_order_278 rfl rfl ?_
  refine qx_icmp_ge (tgt := 299) dX12_order_279 (by decide) (fun c1 => ?_) (fun c1 => ?_)
  · skip
    exact l1 c1
  · skip
    refine q_aload_n dX12_order_282 rfl rfl ?_
    refine qx_iconst dX12_order_283 rfl rfl ?_
    refine q_iload dX12_order_284 rfl ?_
    refine qx_imul dX12_order_286 (o2 c1) ?_
    refine qx_invVE (ci := 12) [(0, (4 * v4))] [(0, (4 * v4)), (2, 188)] rfl qM_X12_goStep dX12_order_287 tw1537 rfl qs188 rfl rfl rfl rfl (l3 c1) (fun r2 b2 m2 p2 q2 => ?_)
    refine qx_if_eq (tgt := 299) dX12_order_290 (by decide) (fun c3 => ?_) (fun c3 => ?_)
    · skip
      exact l4 c1 r2 b2 m2 p2 q2 c3
    · skip
      refine qx_iinc (L' := [(2, 188), (0, v1), (0, v2), (0, v3), (0, (v4 + 1)), (4, 0)]) dX12_order_293 rfl rfl rfl (o5 c1 r2 b2 m2 p2 q2 c3) rfl ?_
      refine q_goto (tgt := 276) dX12_order_296 (by decide) ?_
      exact l6 c1 r2 b2 m2 p2 q2 c3
theorem bkX12_order_299 {b : Int} {mem : qm} {Q : Int → qm → Prop}
    {v1 v2 v3 v4 : Int}
    (o1 : q_in32 ((mem 188 11) - v3) ∧ (0 ≤ (0 : Int) ∧ (0 : Int) < 16))
    (o2 : v1 ≤ v4 → (0 ≤ ((0 : Int) + 1) ∧ ((0 : Int) + 1) < 16))
    (l3 : v1 ≤ v4 → Q v4 (q_up (q_up (q_up (q_up (q_up mem 188 16 0) 199 (0 : Int) ((mem 188 11) - v3)) 188 16 ((0 : Int) + 1)) 199 ((0 : Int) + 1) 0) 188 16 (((0 : Int) + 1) + 1)))
    (o4 : v4 < v1 → (0 ≤ ((0 : Int) + 1) ∧ ((0 : Int) + 1) < 16))
    (l5 : v4 < v1 → Q v4 (q_up (q_up (q_up (q_up (q_up mem 188 16 0) 199 (0 : Int) ((mem 188 11) - v3)) 188 16 ((0 : Int) + 1)) 199 ((0 : Int) + 1) 1) 188 16 (((0 : Int) + 1) + 1))) :
    q_At yX12_order cX12_order 6 (some .int) 74 0 0 (qE Q) 299 [(2, 188), (0, v1), (0, v2), (0, v3), (0, v4), (4, 0)] [] (q_sh0, q_rb b, mem) := by
  refine q_aload_n dX12_order_299 rfl rfl ?_
  refine qx_iconst dX12_order_300 rfl rfl ?_
  refine q_putI (ci := 12) (k := 16) (kI := 16) (ty := .int) dX12_order_301 rfl (by decide) rfl tw1199 rfl rfl rfl (fun _ => ⟨rfl, rfl⟩) qs188 ?_
  refine q_aload_n dX12_order_304 rfl rfl ?_
  refine q_aload_n dX12_order_305 rfl rfl ?_
  refine qx_getI (ci := 12) (k := 11) (v := (mem 188 11)) dX12_order_306 rfl rfl rfl tw1194 rfl qs188 (q_up_i (by decide)) ?_
  refine q_iload_n dX12_order_309 rfl rfl ?_
  refine qx_isub dX12_order_310 (o1).1 ?_
  refine qx_invV (ci := 12) [(0, ((mem 188 11) - v3))] [(0, ((mem 188 11) - v3)), (2, 188)] rfl qM_X12_tell dX12_order_311 tw1509 rfl qs188 rfl rfl rfl rfl (spX12_tell (by first | exact (o1).2 | (simp only [q_up, Int.reduceEq, false_and, true_and, and_true, and_false, ite_false, ite_true, if_true, if_false]; exact (o1).2))) (fun r1 m1 p1 q1 => ?_)
  obtain rfl := p1
  refine q_aload_n dX12_order_314 rfl rfl ?_
  refine q_iload dX12_order_315 rfl ?_
  refine q_iload_n dX12_order_317 rfl rfl ?_
  refine qx_icmp_ge (tgt := 325) dX12_order_318 (by decide) (fun c2 => ?_) (fun c2 => ?_)
  · skip
    refine qx_iconst dX12_order_325 rfl rfl ?_
    refine qx_invV (ci := 12) [(0, 0)] [(0, 0), (2, 188)] rfl qM_X12_tell dX12_order_326 tw1509 rfl qs188 rfl rfl rfl rfl (spX12_tell (by first | exact (o2 c2) | (simp only [q_up, Int.reduceEq, false_and, true_and, and_true, and_false, ite_false, ite_true, if_true, if_false]; exact (o2 c2)))) (fun r3 m3 p3 q3 => ?_)
    obtain rfl := p3
    refine q_iload dX12_order_329 rfl ?_
    exact q_iret dX12_order_331 (qE_i (l3 c2))
  · skip
    refine qx_iconst dX12_order_321 rfl rfl ?_
    refine q_goto (tgt := 326) dX12_order_322 (by decide) ?_
    refine qx_invV (ci := 12) [(0, 1)] [(0, 1), (2, 188)] rfl qM_X12_tell dX12_order_326 tw1509 rfl qs188 rfl rfl rfl rfl (spX12_tell (by first | exact (o4 c2) | (simp only [q_up, Int.reduceEq, false_and, true_and, and_true, and_false, ite_false, ite_true, if_true, if_false]; exact (o4 c2)))) (fun r4 m4 p4 q4 => ?_)
    obtain rfl := p4
    refine q_iload dX12_order_329 rfl ?_
    exact q_iret dX12_order_331 (qE_i (l5 c2))
