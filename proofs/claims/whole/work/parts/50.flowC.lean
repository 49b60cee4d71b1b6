theorem dX11_rest_0 : decode cX11_rest 0 = .ok (.aload_n 0, 1) := by decide +kernel
theorem dX11_rest_1 : decode cX11_rest 1 = .ok (.getfield 38, 3) := by decide +kernel
theorem dX11_rest_4 : decode cX11_rest 4 = .ok (.aload_n 0, 1) := by decide +kernel
theorem dX11_rest_5 : decode cX11_rest 5 = .ok (.getfield 19, 3) := by decide +kernel
theorem dX11_rest_8 : decode cX11_rest 8 = .ok (.invokevirtual 282, 3) := by decide +kernel
theorem dX11_rest_11 : decode cX11_rest 11 = .ok (.aload_n 0, 1) := by decide +kernel
theorem dX11_rest_12 : decode cX11_rest 12 = .ok (.getfield 38, 3) := by decide +kernel
theorem dX11_rest_15 : decode cX11_rest 15 = .ok (.iconst 0, 1) := by decide +kernel
theorem dX11_rest_16 : decode cX11_rest 16 = .ok (.invokevirtual 285, 3) := by decide +kernel
theorem dX11_rest_19 : decode cX11_rest 19 = .ok (.iconst 0, 1) := by decide +kernel
theorem dX11_rest_20 : decode cX11_rest 20 = .ok (.istore_n 1, 1) := by decide +kernel
theorem dX11_rest_21 : decode cX11_rest 21 = .ok (.iload_n 1, 1) := by decide +kernel
theorem dX11_rest_22 : decode cX11_rest 22 = .ok (.sipush 6000, 3) := by decide +kernel
theorem dX11_rest_25 : decode cX11_rest 25 = .ok (.if_icmp .ge 34, 3) := by decide +kernel
theorem dX11_rest_28 : decode cX11_rest 28 = .ok (.aload_n 0, 1) := by decide +kernel
theorem dX11_rest_29 : decode cX11_rest 29 = .ok (.getfield 38, 3) := by decide +kernel
theorem dX11_rest_32 : decode cX11_rest 32 = .ok (.invokevirtual 288, 3) := by decide +kernel
theorem dX11_rest_35 : decode cX11_rest 35 = .ok (.ifCond .ne 24, 3) := by decide +kernel
theorem dX11_rest_38 : decode cX11_rest 38 = .ok (.aload_n 0, 1) := by decide +kernel
theorem dX11_rest_39 : decode cX11_rest 39 = .ok (.getfield 38, 3) := by decide +kernel
theorem dX11_rest_42 : decode cX11_rest 42 = .ok (.invokevirtual 292, 3) := by decide +kernel
theorem dX11_rest_45 : decode cX11_rest 45 = .ok (.iinc 1 1, 3) := by decide +kernel
theorem dX11_rest_48 : decode cX11_rest 48 = .ok (.aload_n 0, 1) := by decide +kernel
theorem dX11_rest_49 : decode cX11_rest 49 = .ok (.getfield 38, 3) := by decide +kernel
theorem dX11_rest_52 : decode cX11_rest 52 = .ok (.iload_n 1, 1) := by decide +kernel
theorem dX11_rest_53 : decode cX11_rest 53 = .ok (.invokevirtual 285, 3) := by decide +kernel
theorem dX11_rest_56 : decode cX11_rest 56 = .ok (.goto (-35), 3) := by decide +kernel
theorem dX11_rest_59 : decode cX11_rest 59 = .ok (.aload_n 0, 1) := by decide +kernel
theorem dX11_rest_60 : decode cX11_rest 60 = .ok (.invokevirtual 223, 3) := by decide +kernel
theorem dX11_rest_63 : decode cX11_rest 63 = .ok (.aload_n 0, 1) := by decide +kernel
theorem dX11_rest_64 : decode cX11_rest 64 = .ok (.aload_n 0, 1) := by decide +kernel
theorem dX11_rest_65 : decode cX11_rest 65 = .ok (.getfield 38, 3) := by decide +kernel
theorem dX11_rest_68 : decode cX11_rest 68 = .ok (.getfield 294, 3) := by decide +kernel
theorem dX11_rest_71 : decode cX11_rest 71 = .ok (.invokevirtual 229, 3) := by decide +kernel
theorem dX11_rest_74 : decode cX11_rest 74 = .ok (.aload_n 0, 1) := by decide +kernel
theorem dX11_rest_75 : decode cX11_rest 75 = .ok (.aload_n 0, 1) := by decide +kernel
theorem dX11_rest_76 : decode cX11_rest 76 = .ok (.getfield 38, 3) := by decide +kernel
theorem dX11_rest_79 : decode cX11_rest 79 = .ok (.invokevirtual 296, 3) := by decide +kernel
theorem dX11_rest_82 : decode cX11_rest 82 = .ok (.invokevirtual 229, 3) := by decide +kernel
theorem dX11_rest_85 : decode cX11_rest 85 = .ok (.iload_n 1, 1) := by decide +kernel
theorem dX11_rest_86 : decode cX11_rest 86 = .ok (.ireturn, 1) := by decide +kernel
theorem bkX11_rest_0 {b : Int} {mem : qm} {Q : Int → qm → Prop}
    {P1 : Int → qm → Prop}
    (l1 : q_Ev yX1_start cX1_start 2 none 2 0 0 [(2, 26), (2, 5)] (q_sh0, q_rb b, mem) (qK (q_rb b) (P1)))
    {P2 : Int → qm → Int → qm → Prop}
    (l2 : ∀ (r1 : Int), ∀ (m1 : qm), P1 r1 m1 → q_in32 r1 → q_Ev yX1_noteWet cX1_noteWet 3 none 1 0 0 [(2, 26), (0, 0)] (q_sh0, q_rb b, m1) (qK (q_rb b) (P2 r1 m1)))
    (l3 : ∀ (r1 : Int), ∀ (m1 : qm), P1 r1 m1 → q_in32 r1 → ∀ (r2 : Int), ∀ (m2 : qm), P2 r1 m1 r2 m2 → q_in32 r2 → q_At yX11_rest cX11_rest 2 (some .int) 3 0 0 (qK (q_rb b) Q) 21 [(2, 0), (0, 0)] [] (q_sh0, q_rb b, m2)) :
    q_At yX11_rest cX11_rest 2 (some .int) 3 0 0 (qK (q_rb b) Q) 0 [(2, 0), (4, 0)] [] (q_sh0, q_rb b, mem) := by
  refine q_aload_n dX11_rest_0 rfl rfl ?_
  refine q_getR (ci := 11) (k := 4) dX11_rest_1 rfl (by decide) rfl tw353 (by decide) qs0 qw0_4 (by decide) ?_
  refine q_aload_n dX11_rest_4 rfl rfl ?_
  refine q_getR (ci := 11) (k := 1) dX11_rest_5 rfl (by decide) rfl tw350 (by decide) qs0 qw0_1 (by decide) ?_
  refine qx_invV (ci := 1) [(2, 5)] [(2, 5), (2, 26)] rfl qM_X1_start dX11_rest_8 tw767 rfl qs26 rfl rfl rfl rfl (l1) (fun r1 m1 p1 q1 => ?_)
  refine q_aload_n dX11_rest_11 rfl rfl ?_
  refine q_getR (ci := 11) (k := 4) dX11_rest_12 rfl (by decide) rfl tw353 (by decide) qs0 qw0_4 (by decide) ?_
  refine qx_iconst dX11_rest_15 rfl rfl ?_
  refine qx_invV (ci := 1) [(0, 0)] [(0, 0), (2, 26)] rfl qM_X1_noteWet dX11_rest_16 tw775 rfl qs26 rfl rfl rfl rfl (l2 r1 m1 p1 q1) (fun r2 m2 p2 q2 => ?_)
  refine qx_iconst dX11_rest_19 rfl rfl ?_
  refine qx_istore_n (L' := [(2, 0), (0, 0)]) dX11_rest_20 rfl rfl rfl rfl ?_
  exact l3 r1 m1 p1 q1 r2 m2 p2 q2
theorem bkX11_rest_21 {b : Int} {mem : qm} {Q : Int → qm → Prop}
    {v1 : Int}
    (o1 : 6000 ≤ v1 → (0 ≤ (0 : Int) ∧ (0 : Int) < 10))
    {P4 : Int → qm → Prop}
    (l2 : 6000 ≤ v1 → q_Ev yX1_lastWet cX1_lastWet 4 (some .int) 1 0 0 [(2, 26)] (q_sh0, q_rb b, (q_up (q_up (q_up mem 0 16 0) 169 (0 : Int) (mem 26 7)) 0 16 ((0 : Int) + 1))) (qK (q_rb b) (P4)))
    (o3 : 6000 ≤ v1 → ∀ (r4 : Int), ∀ (m4 : qm), P4 r4 m4 → q_in32 r4 → (0 ≤ (m4 0 16) ∧ (m4 0 16) < 10))
    (l4 : 6000 ≤ v1 → ∀ (r4 : Int), ∀ (m4 : qm), P4 r4 m4 → q_in32 r4 → Q v1 (q_up (q_up m4 169 (m4 0 16) r4) 0 16 ((m4 0 16) + 1)))
    {P6 : Int → qm → Prop}
    (l5 : v1 < 6000 → q_Ev yX1_isQuiet cX1_isQuiet 2 (some .boolean) 1 0 0 [(2, 26)] (q_sh0, q_rb b, mem) (qK (q_rb b) (P6)))
    (o6 : v1 < 6000 → ∀ (r6 : Int), ∀ (m6 : qm), P6 r6 m6 → q_in32 r6 → r6 ≠ 0 → (0 ≤ (0 : Int) ∧ (0 : Int) < 10))
    {P10 : Int → qm → Int → qm → Prop}
    (l7 : v1 < 6000 → ∀ (r6 : Int), ∀ (m6 : qm), P6 r6 m6 → q_in32 r6 → r6 ≠ 0 → q_Ev yX1_lastWet cX1_lastWet 4 (some .int) 1 0 0 [(2, 26)] (q_sh0, q_rb b, (q_up (q_up (q_up m6 0 16 0) 169 (0 : Int) (m6 26 7)) 0 16 ((0 : Int) + 1))) (qK (q_rb b) (P10 r6 m6)))
    (o8 : v1 < 6000 → ∀ (r6 : Int), ∀ (m6 : qm), P6 r6 m6 → q_in32 r6 → r6 ≠ 0 → ∀ (r10 : Int), ∀ (m10 : qm), P10 r6 m6 r10 m10 → q_in32 r10 → (0 ≤ (m10 0 16) ∧ (m10 0 16) < 10))
    (l9 : v1 < 6000 → ∀ (r6 : Int), ∀ (m6 : qm), P6 r6 m6 → q_in32 r6 → r6 ≠ 0 → ∀ (r10 : Int), ∀ (m10 : qm), P10 r6 m6 r10 m10 → q_in32 r10 → Q v1 (q_up (q_up m10 169 (m10 0 16) r10) 0 16 ((m10 0 16) + 1)))
    {P12 : Int → qm → Int → qm → Prop}
    (l10 : v1 < 6000 → ∀ (r6 : Int), ∀ (m6 : qm), P6 r6 m6 → q_in32 r6 → r6 = 0 → q_Ev yX1_strike cX1_strike 4 none 2 0 0 [(2, 26)] (q_sh0, q_rb b, m6) (qK (q_rb b) (P12 r6 m6)))
    (o11 : v1 < 6000 → ∀ (r6 : Int), ∀ (m6 : qm), P6 r6 m6 → q_in32 r6 → r6 = 0 → ∀ (r12 : Int), ∀ (m12 : qm), P12 r6 m6 r12 m12 → q_in32 r12 → q_in32 (v1 + 1))
    {P13 : Int → qm → Int → qm → Int → qm → Prop}
    (l12 : v1 < 6000 → ∀ (r6 : Int), ∀ (m6 : qm), P6 r6 m6 → q_in32 r6 → r6 = 0 → ∀ (r12 : Int), ∀ (m12 : qm), P12 r6 m6 r12 m12 → q_in32 r12 → q_Ev yX1_noteWet cX1_noteWet 3 none 1 0 0 [(2, 26), (0, (v1 + 1))] (q_sh0, q_rb b, m12) (qK (q_rb b) (P13 r6 m6 r12 m12)))
    (l13 : v1 < 6000 → ∀ (r6 : Int), ∀ (m6 : qm), P6 r6 m6 → q_in32 r6 → r6 = 0 → ∀ (r12 : Int), ∀ (m12 : qm), P12 r6 m6 r12 m12 → q_in32 r12 → ∀ (r13 : Int), ∀ (m13 : qm), P13 r6 m6 r12 m12 r13 m13 → q_in32 r13 → q_At yX11_rest cX11_rest 2 (some .int) 3 0 0 (qK (q_rb b) Q) 21 [(2, 0), (0, (v1 + 1))] [] (q_sh0, q_rb b, m13)) :
    q_At yX11_rest cX11_rest 2 (some .int) 3 0 0 (qK (q_rb b) Q) 21 [(2, 0), (0, v1)] [] (q_sh0, q_rb b, mem) := by
  refine q_iload_n dX11_rest_21 rfl rfl ?_
  refine qx_sipush dX11_rest_22 rfl rfl ?_
  refine qx_icmp_ge (tgt := 59) dX11_rest_25 (by decide) (fun c1 => ?_) (fun c1 => ?_)
  · skip
    refine q_aload_n dX11_rest_59 rfl rfl ?_
    refine qx_invV (ci := 11) [] [(2, 0)] rfl qM_X11_clearRow dX11_rest_60 tw691 rfl qs0 rfl rfl rfl rfl (spX11_clearRow) (fun r2 m2 p2 q2 => ?_)
    obtain rfl := p2
    refine q_aload_n dX11_rest_63 rfl rfl ?_
    refine q_aload_n dX11_rest_64 rfl rfl ?_
    refine q_getR (ci := 11) (k := 4) dX11_rest_65 rfl (by decide) rfl tw353 (by decide) qs0 qw0_4 (by decide) ?_
    refine qx_getI (ci := 1) (k := 7) (v := (mem 26 7)) dX11_rest_68 rfl rfl rfl tw162 rfl qs26 (q_up_c (by decide)) ?_
    refine qx_invV (ci := 11) [(0, (mem 26 7))] [(0, (mem 26 7)), (2, 0)] rfl qM_X11_tell dX11_rest_71 tw699 rfl qs0 rfl rfl rfl rfl (spX11_tell (by first | exact (o1 c1) | (simp only [q_up, Int.reduceEq, false_and, true_and, and_true, and_false, ite_false, ite_true, if_true, if_false]; exact (o1 c1)))) (fun r3 m3 p3 q3 => ?_)
    obtain rfl := p3
    refine q_aload_n dX11_rest_74 rfl rfl ?_
    refine q_aload_n dX11_rest_75 rfl rfl ?_
    refine q_getR (ci := 11) (k := 4) dX11_rest_76 rfl (by decide) rfl tw353 (by decide) qs0 qw0_4 (by decide) ?_
    refine qx_invV (ci := 1) [] [(2, 26), (2, 0)] rfl qM_X1_lastWet dX11_rest_79 tw792 rfl qs26 rfl rfl rfl rfl (l2 c1) (fun r4 m4 p4 q4 => ?_)
    refine qx_invV (ci := 11) [(0, r4)] [(0, r4), (2, 0)] rfl qM_X11_tell dX11_rest_82 tw699 rfl qs0 rfl rfl rfl rfl (spX11_tell (o3 c1 r4 m4 p4 q4)) (fun r5 m5 p5 q5 => ?_)
    obtain rfl := p5
    refine q_iload_n dX11_rest_85 rfl rfl ?_
    exact q_iret dX11_rest_86 (qK_i (l4 c1 r4 m4 p4 q4))
  · skip
    refine q_aload_n dX11_rest_28 rfl rfl ?_
    refine q_getR (ci := 11) (k := 4) dX11_rest_29 rfl (by decide) rfl tw353 (by decide) qs0 qw0_4 (by decide) ?_
    refine qx_invV (ci := 1) [] [(2, 26)] rfl qM_X1_isQuiet dX11_rest_32 tw779 rfl qs26 rfl rfl rfl rfl (l5 c1) (fun r6 m6 p6 q6 => ?_)
    refine qx_if_ne (tgt := 59) dX11_rest_35 (by decide) (fun c7 => ?_) (fun c7 => ?_)
    · skip
      refine q_aload_n dX11_rest_59 rfl rfl ?_
      refine qx_invV (ci := 11) [] [(2, 0)] rfl qM_X11_clearRow dX11_rest_60 tw691 rfl qs0 rfl rfl rfl rfl (spX11_clearRow) (fun r8 m8 p8 q8 => ?_)
      obtain rfl := p8
      refine q_aload_n dX11_rest_63 rfl rfl ?_
      refine q_aload_n dX11_rest_64 rfl rfl ?_
      refine q_getR (ci := 11) (k := 4) dX11_rest_65 rfl (by decide) rfl tw353 (by decide) qs0 qw0_4 (by decide) ?_
      refine qx_getI (ci := 1) (k := 7) (v := (m6 26 7)) dX11_rest_68 rfl rfl rfl tw162 rfl qs26 (q_up_c (by decide)) ?_
      refine qx_invV (ci := 11) [(0, (m6 26 7))] [(0, (m6 26 7)), (2, 0)] rfl qM_X11_tell dX11_rest_71 tw699 rfl qs0 rfl rfl rfl rfl (spX11_tell (by first | exact (o6 c1 r6 m6 p6 q6 c7) | (simp only [q_up, Int.reduceEq, false_and, true_and, and_true, and_false, ite_false, ite_true, if_true, if_false]; exact (o6 c1 r6 m6 p6 q6 c7)))) (fun r9 m9 p9 q9 => ?_)
      obtain rfl := p9
      refine q_aload_n dX11_rest_74 rfl rfl ?_
      refine q_aload_n dX11_rest_75 rfl rfl ?_
      refine q_getR (ci := 11) (k := 4) dX11_rest_76 rfl (by decide) rfl tw353 (by decide) qs0 qw0_4 (by decide) ?_
      refine qx_invV (ci := 1) [] [(2, 26), (2, 0)] rfl qM_X1_lastWet dX11_rest_79 tw792 rfl qs26 rfl rfl rfl rfl (l7 c1 r6 m6 p6 q6 c7) (fun r10 m10 p10 q10 => ?_)
      refine qx_invV (ci := 11) [(0, r10)] [(0, r10), (2, 0)] rfl qM_X11_tell dX11_rest_82 tw699 rfl qs0 rfl rfl rfl rfl (spX11_tell (o8 c1 r6 m6 p6 q6 c7 r10 m10 p10 q10)) (fun r11 m11 p11 q11 => ?_)
      obtain rfl := p11
      refine q_iload_n dX11_rest_85 rfl rfl ?_
      exact q_iret dX11_rest_86 (qK_i (l9 c1 r6 m6 p6 q6 c7 r10 m10 p10 q10))
    · skip
      refine q_aload_n dX11_rest_38 rfl rfl ?_
      refine q_getR (ci := 11) (k := 4) dX11_rest_39 rfl (by decide) rfl tw353 (by decide) qs0 qw0_4 (by decide) ?_
      refine qx_invV (ci := 1) [] [(2, 26)] rfl qM_X1_strike dX11_rest_42 tw783 rfl qs26 rfl rfl rfl rfl (l10 c1 r6 m6 p6 q6 c7) (fun r12 m12 p12 q12 => ?_)
      refine qx_iinc (L' := [(2, 0), (0, (v1 + 1))]) dX11_rest_45 rfl rfl rfl (o11 c1 r6 m6 p6 q6 c7 r12 m12 p12 q12) rfl ?_
      refine q_aload_n dX11_rest_48 rfl rfl ?_
      refine q_getR (ci := 11) (k := 4) dX11_rest_49 rfl (by decide) rfl tw353 (by decide) qs0 qw0_4 (by decide) ?_
      refine q_iload_n dX11_rest_52 rfl rfl ?_
      refine qx_invV (ci := 1) [(0, (v1 + 1))] [(0, (v1 + 1)), (2, 26)] rfl qM_X1_noteWet dX11_rest_53 tw775 rfl qs26 rfl rfl rfl rfl (l12 c1 r6 m6 p6 q6 c7 r12 m12 p12 q12) (fun r13 m13 p13 q13 => ?_)
      refine q_goto (tgt := 21) dX11_rest_56 (by decide) ?_
      exact l13 c1 r6 m6 p6 q6 c7 r12 m12 p12 q12 r13 m13 p13 q13
theorem dX11_bitsAbove_0 : decode cX11_bitsAbove 0 = .ok (.iconst 0, 1) := by decide +kernel
theorem dX11_bitsAbove_1 : decode cX11_bitsAbove 1 = .ok (.istore_n 2, 1) := by decide +kernel
theorem dX11_bitsAbove_2 : decode cX11_bitsAbove 2 = .ok (.iconst 0, 1) := by decide +kernel
theorem dX11_bitsAbove_3 : decode cX11_bitsAbove 3 = .ok (.istore_n 3, 1) := by decide +kernel
theorem dX11_bitsAbove_4 : decode cX11_bitsAbove 4 = .ok (.iload_n 3, 1) := by decide +kernel
theorem dX11_bitsAbove_5 : decode cX11_bitsAbove 5 = .ok (.aload_n 0, 1) := by decide +kernel
theorem dX11_bitsAbove_6 : decode cX11_bitsAbove 6 = .ok (.getfield 10, 3) := by decide +kernel
theorem dX11_bitsAbove_9 : decode cX11_bitsAbove 9 = .ok (.getfield 173, 3) := by decide +kernel
theorem dX11_bitsAbove_12 : decode cX11_bitsAbove 12 = .ok (.if_icmp .ge 64, 3) := by decide +kernel
theorem dX11_bitsAbove_15 : decode cX11_bitsAbove 15 = .ok (.iload_n 3, 1) := by decide +kernel
theorem dX11_bitsAbove_16 : decode cX11_bitsAbove 16 = .ok (.istore 4, 2) := by decide +kernel
theorem dX11_bitsAbove_18 : decode cX11_bitsAbove 18 = .ok (.iconst 0, 1) := by decide +kernel
theorem dX11_bitsAbove_19 : decode cX11_bitsAbove 19 = .ok (.istore 5, 2) := by decide +kernel
theorem dX11_bitsAbove_21 : decode cX11_bitsAbove 21 = .ok (.iload 5, 2) := by decide +kernel
theorem dX11_bitsAbove_23 : decode cX11_bitsAbove 23 = .ok (.bipush 9, 2) := by decide +kernel
theorem dX11_bitsAbove_25 : decode cX11_bitsAbove 25 = .ok (.if_icmp .ge 33, 3) := by decide +kernel
theorem dX11_bitsAbove_28 : decode cX11_bitsAbove 28 = .ok (.iload 4, 2) := by decide +kernel
theorem dX11_bitsAbove_30 : decode cX11_bitsAbove 30 = .ok (.iconst (-1), 1) := by decide +kernel
theorem dX11_bitsAbove_31 : decode cX11_bitsAbove 31 = .ok (.if_icmp .eq 27, 3) := by decide +kernel
theorem dX11_bitsAbove_34 : decode cX11_bitsAbove 34 = .ok (.iload 4, 2) := by decide +kernel
theorem dX11_bitsAbove_36 : decode cX11_bitsAbove 36 = .ok (.iload_n 1, 1) := by decide +kernel
theorem dX11_bitsAbove_37 : decode cX11_bitsAbove 37 = .ok (.if_icmp .eq 21, 3) := by decide +kernel
theorem dX11_bitsAbove_40 : decode cX11_bitsAbove 40 = .ok (.aload_n 0, 1) := by decide +kernel
theorem dX11_bitsAbove_41 : decode cX11_bitsAbove 41 = .ok (.getfield 19, 3) := by decide +kernel
theorem dX11_bitsAbove_44 : decode cX11_bitsAbove 44 = .ok (.getfield 157, 3) := by decide +kernel
theorem dX11_bitsAbove_47 : decode cX11_bitsAbove 47 = .ok (.iload 4, 2) := by decide +kernel
theorem dX11_bitsAbove_49 : decode cX11_bitsAbove 49 = .ok (.iaload, 1) := by decide +kernel
theorem dX11_bitsAbove_50 : decode cX11_bitsAbove 50 = .ok (.istore 4, 2) := by decide +kernel
theorem dX11_bitsAbove_52 : decode cX11_bitsAbove 52 = .ok (.iinc 5 1, 3) := by decide +kernel
theorem dX11_bitsAbove_55 : decode cX11_bitsAbove 55 = .ok (.goto (-34), 3) := by decide +kernel
theorem dX11_bitsAbove_58 : decode cX11_bitsAbove 58 = .ok (.iload 4, 2) := by decide +kernel
theorem dX11_bitsAbove_60 : decode cX11_bitsAbove 60 = .ok (.iload_n 1, 1) := by decide +kernel
theorem dX11_bitsAbove_61 : decode cX11_bitsAbove 61 = .ok (.if_icmp .ne 9, 3) := by decide +kernel
theorem dX11_bitsAbove_64 : decode cX11_bitsAbove 64 = .ok (.iload_n 2, 1) := by decide +kernel
theorem dX11_bitsAbove_65 : decode cX11_bitsAbove 65 = .ok (.iconst 1, 1) := by decide +kernel
theorem dX11_bitsAbove_66 : decode cX11_bitsAbove 66 = .ok (.iload_n 3, 1) := by decide +kernel
theorem dX11_bitsAbove_67 : decode cX11_bitsAbove 67 = .ok (.ishl, 1) := by decide +kernel
theorem dX11_bitsAbove_68 : decode cX11_bitsAbove 68 = .ok (.ior, 1) := by decide +kernel
theorem dX11_bitsAbove_69 : decode cX11_bitsAbove 69 = .ok (.istore_n 2, 1) := by decide +kernel
theorem dX11_bitsAbove_70 : decode cX11_bitsAbove 70 = .ok (.iinc 3 1, 3) := by decide +kernel
theorem dX11_bitsAbove_73 : decode cX11_bitsAbove 73 = .ok (.goto (-69), 3) := by decide +kernel
theorem dX11_bitsAbove_76 : decode cX11_bitsAbove 76 = .ok (.iload_n 2, 1) := by decide +kernel
theorem dX11_bitsAbove_77 : decode cX11_bitsAbove 77 = .ok (.ireturn, 1) := by decide +kernel
theorem bkX11_bitsAbove_0 {b : Int} {mem : qm} {Q : Int → qm → Prop}
    {j : Int}
    (l1 : q_At yX11_bitsAbove cX11_bitsAbove 6 (some .int) 1 0 0 (qK (q_rb b) Q) 4 [(2, 0), (0, j), (0, 0), (0, 0), (4, 0), (4, 0)] [] (q_sh0, q_rb b, mem)) :
    q_At yX11_bitsAbove cX11_bitsAbove 6 (some .int) 1 0 0 (qK (q_rb b) Q) 0 [(2, 0), (0, j), (4, 0), (4, 0), (4, 0), (4, 0)] [] (q_sh0, q_rb b, mem) := by
  refine qx_iconst dX11_bitsAbove_0 rfl rfl ?_
  refine qx_istore_n (L' := [(2, 0), (0, j), (0, 0), (4, 0), (4, 0), (4, 0)]) dX11_bitsAbove_1 rfl rfl rfl rfl ?_
  refine qx_iconst dX11_bitsAbove_2 rfl rfl ?_
  refine qx_istore_n (L' := [(2, 0), (0, j), (0, 0), (0, 0), (4, 0), (4, 0)]) dX11_bitsAbove_3 rfl rfl rfl rfl ?_
  exact l1
theorem bkX11_bitsAbove_4 {b : Int} {mem : qm} {Q : Int → qm → Prop}
    {j v2 v3 : Int}
    (l1 : (mem 1 3) ≤ v3 → Q v2 mem)
    (l2 : v3 < (mem 1 3) → q_At yX11_bitsAbove cX11_bitsAbove 6 (some .int) 1 0 0 (qK (q_rb b) Q) 21 [(2, 0), (0, j), (0, v2), (0, v3), (0, v3), (0, 0)] [] (q_sh0, q_rb b, mem)) :
    q_At yX11_bitsAbove cX11_bitsAbove 6 (some .int) 1 0 0 (qK (q_rb b) Q) 4 [(2, 0), (0, j), (0, v2), (0, v3), (4, 0), (4, 0)] [] (q_sh0, q_rb b, mem) := by
  refine q_iload_n dX11_bitsAbove_4 rfl rfl ?_
  refine q_aload_n dX11_bitsAbove_5 rfl rfl ?_
  refine q_getR (ci := 11) (k := 0) dX11_bitsAbove_6 rfl (by decide) rfl tw349 (by decide) qs0 qw0_0 (by decide) ?_
  refine qx_getI (ci := 9) (k := 3) (v := (mem 1 3)) dX11_bitsAbove_9 rfl rfl rfl tw53 rfl qs1 rfl ?_
  refine qx_icmp_ge (tgt := 76) dX11_bitsAbove_12 (by decide) (fun c1 => ?_) (fun c1 => ?_)
  · skip
    refine q_iload_n dX11_bitsAbove_76 rfl rfl ?_
    exact q_iret dX11_bitsAbove_77 (qK_i (l1 c1))
  · skip
    refine q_iload_n dX11_bitsAbove_15 rfl rfl ?_
    refine qx_istore (L' := [(2, 0), (0, j), (0, v2), (0, v3), (0, v3), (4, 0)]) dX11_bitsAbove_16 rfl rfl rfl ?_
    refine qx_iconst dX11_bitsAbove_18 rfl rfl ?_
    refine qx_istore (L' := [(2, 0), (0, j), (0, v2), (0, v3), (0, v3), (0, 0)]) dX11_bitsAbove_19 rfl rfl rfl ?_
    exact l2 c1
theorem bkX11_bitsAbove_21 {b : Int} {mem : qm} {Q : Int → qm → Prop}
    {j v2 v3 v4 v5 : Int}
    (o1 : 9 ≤ v5 → v4 ≠ j → q_in32 (v3 + 1))
    (l2 : 9 ≤ v5 → v4 ≠ j → q_At yX11_bitsAbove cX11_bitsAbove 6 (some .int) 1 0 0 (qK (q_rb b) Q) 4 [(2, 0), (0, j), (0, v2), (0, (v3 + 1)), (4, 0), (4, 0)] [] (q_sh0, q_rb b, mem))
    (o3 : 9 ≤ v5 → v4 = j → q_in32 (v3 + 1))
    (l4 : 9 ≤ v5 → v4 = j → q_At yX11_bitsAbove cX11_bitsAbove 6 (some .int) 1 0 0 (qK (q_rb b) Q) 4 [(2, 0), (0, j), (0, (q_oior v2 (q_oishl 1 v3))), (0, (v3 + 1)), (4, 0), (4, 0)] [] (q_sh0, q_rb b, mem))
    (o5 : v5 < 9 → v4 = (-1) → v4 ≠ j → q_in32 (v3 + 1))
    (l6 : v5 < 9 → v4 = (-1) → v4 ≠ j → q_At yX11_bitsAbove cX11_bitsAbove 6 (some .int) 1 0 0 (qK (q_rb b) Q) 4 [(2, 0), (0, j), (0, v2), (0, (v3 + 1)), (4, 0), (4, 0)] [] (q_sh0, q_rb b, mem))
    (o7 : v5 < 9 → v4 = (-1) → v4 = j → q_in32 (v3 + 1))
    (l8 : v5 < 9 → v4 = (-1) → v4 = j → q_At yX11_bitsAbove cX11_bitsAbove 6 (some .int) 1 0 0 (qK (q_rb b) Q) 4 [(2, 0), (0, j), (0, (q_oior v2 (q_oishl 1 v3))), (0, (v3 + 1)), (4, 0), (4, 0)] [] (q_sh0, q_rb b, mem))
    (o9 : v5 < 9 → v4 ≠ (-1) → v4 = j → v4 ≠ j → q_in32 (v3 + 1))
    (l10 : v5 < 9 → v4 ≠ (-1) → v4 = j → v4 ≠ j → q_At yX11_bitsAbove cX11_bitsAbove 6 (some .int) 1 0 0 (qK (q_rb b) Q) 4 [(2, 0), (0, j), (0, v2), (0, (v3 + 1)), (4, 0), (4, 0)] [] (q_sh0, q_rb b, mem))
    (o11 : v5 < 9 → v4 ≠ (-1) → v4 = j → v4 = j → q_in32 (v3 + 1))
    (l12 : v5 < 9 → v4 ≠ (-1) → v4 = j → v4 = j → q_At yX11_bitsAbove cX11_bitsAbove 6 (some .int) 1 0 0 (qK (q_rb b) Q) 4 [(2, 0), (0, j), (0, (q_oior v2 (q_oishl 1 v3))), (0, (v3 + 1)), (4, 0), (4, 0)] [] (q_sh0, q_rb b, mem))
    (o13 : v5 < 9 → v4 ≠ (-1) → v4 ≠ j → (0 ≤ v4 ∧ v4 < 9) ∧ q_in32 (v5 + 1))
    (l14 : v5 < 9 → v4 ≠ (-1) → v4 ≠ j → q_At yX11_bitsAbove cX11_bitsAbove 6 (some .int) 1 0 0 (qK (q_rb b) Q) 21 [(2, 0), (0, j), (0, v2), (0, v3), (0, (mem 11 v4)), (0, (v5 + 1))] [] (q_sh0, q_rb b, mem)) :
    q_At yX11_bitsAbove cX11_bitsAbove 6 (some .int) 1 0 0 (qK (q_rb b) Q) 21 [(2, 0), (0, j), (0, v2), (0, v3), (0, v4), (0, v5)] [] (q_sh0, q_rb b, mem) := by
  refine q_iload dX11_bitsAbove_21 rfl ?_
  refine qx_bipush dX11_bitsAbove_23 rfl rfl ?_
  refine qx_icmp_ge (tgt := 58) dX11_bitsAbove_25 (by decide) (fun c1 => ?_) (fun c1 => ?_)
  · skip
    refine q_iload dX11_bitsAbove_58 rfl ?_
    refine q_iload_n dX11_bitsAbove_60 rfl rfl ?_
    refine qx_icmp_ne (tgt := 70) dX11_bitsAbove_61 (by decide) (fun c2 => ?_) (fun c2 => ?_)
    · skip
      refine qx_iinc (L' := [(2, 0), (0, j), (0, v2), (0, (v3 + 1)), (0, v4), (0, v5)]) dX11_bitsAbove_70 rfl rfl rfl (o1 c1 c2) rfl ?_
      refine q_goto (tgt := 4) dX11_bitsAbove_73 (by decide) ?_
      refine q_kill (L' := [(2, 0), (0, j), (0, v2), (0, (v3 + 1)), (4, 0), (0, v5)]) 4 rfl ?_
      refine q_kill (L' := [(2, 0), (0, j), (0, v2), (0, (v3 + 1)), (4, 0), (4, 0)]) 5 rfl ?_
      exact l2 c1 c2
    · skip
      refine q_iload_n dX11_bitsAbove_64 rfl rfl ?_
      refine qx_iconst dX11_bitsAbove_65 rfl rfl ?_
      refine q_iload_n dX11_bitsAbove_66 rfl rfl ?_
      refine q_ishl dX11_bitsAbove_67 ?_
      refine q_ior dX11_bitsAbove_68 ?_
      refine qx_istore_n (L' := [(2, 0), (0, j), (0, (q_oior v2 (q_oishl 1 v3))), (0, v3), (0, v4), (0, v5)]) dX11_bitsAbove_69 rfl rfl rfl rfl ?_
      refine qx_iinc (L' := [(2, 0), (0, j), (0, (q_oior v2 (q_oishl 1 v3))), (0, (v3 + 1)), (0, v4), (0, v5)]) dX11_bitsAbove_70 rfl rfl rfl (o3 c1 c2) rfl ?_
      refine q_goto (tgt := 4) dX11_bitsAbove_73 (by decide) ?_
      refine q_kill (L' := [(2, 0), (0, j), (0, (q_oior v2 (q_oishl 1 v3))), (0, (v3 + 1)), (4, 0), (0, v5)]) 4 rfl ?_
      refine q_kill (L' := [(2, 0), (0, j), (0, (q_oior v2 (q_oishl 1 v3))), (0, (v3 + 1)), (4, 0), (4, 0)]) 5 rfl ?_
      exact l4 c1 c2
  · skip
    refine q_iload dX11_bitsAbove_28 rfl ?_
    refine qx_iconst dX11_bitsAbove_30 rfl rfl ?_
    refine qx_icmp_eq (tgt := 58) dX11_bitsAbove_31 (by decide) (fun c3 => ?_) (fun c3 => ?_)
    · skip
      refine q_iload dX11_bitsAbove_58 rfl ?_
      refine q_iload_n dX11_bitsAbove_60 rfl rfl ?_
      refine qx_icmp_ne (tgt := 70) dX11_bitsAbove_61 (by decide) (fun c4 => ?_) (fun c4 => ?_)
      · skip
        refine qx_iinc (L' := [(2, 0), (0, j), (0, v2), (0, (v3 + 1)), (0, v4), (0, v5)]) dX11_bitsAbove_70 rfl rfl rfl (o5 c1 c3 c4) rfl ?_
        refine q_goto (tgt := 4) dX11_bitsAbove_73 (by decide) ?_
        refine q_kill (L' := [(2, 0), (0, j), (0, v2), (0, (v3 + 1)), (4, 0), (0, v5)]) 4 rfl ?_
        refine q_kill (L' := [(2, 0), (0, j), (0, v2), (0, (v3 + 1)), (4, 0), (4, 0)]) 5 rfl ?_
        exact l6 c1 c3 c4
      · skip
        refine q_iload_n dX11_bitsAbove_64 rfl rfl ?_
        refine qx_iconst dX11_bitsAbove_65 rfl rfl ?_
        refine q_iload_n dX11_bitsAbove_66 rfl rfl ?_
        refine q_ishl dX11_bitsAbove_67 ?_
        refine q_ior dX11_bitsAbove_68 ?_
        refine qx_istore_n (L' := [(2, 0), (0, j), (0, (q_oior v2 (q_oishl 1 v3))), (0, v3), (0, v4), (0, v5)]) dX11_bitsAbove_69 rfl rfl rfl rfl ?_
        refine qx_iinc (L' := [(2, 0), (0, j), (0, (q_oior v2 (q_oishl 1 v3))), (0, (v3 + 1)), (0, v4), (0, v5)]) dX11_bitsAbove_70 rfl rfl rfl (o7 c1 c3 c4) rfl ?_
        refine q_goto (tgt := 4) dX11_bitsAbove_73 (by decide) ?_
        refine q_kill (L' := [(2, 0), (0, j), (0, (q_oior v2 (q_oishl 1 v3))), (0, (v3 + 1)), (4, 0), (0, v5)]) 4 rfl ?_
        refine q_kill (L' := [(2, 0), (0, j), (0, (q_oior v2 (q_oishl 1 v3))), (0, (v3 + 1)), (4, 0), (4, 0)]) 5 rfl ?_
        exact l8 c1 c3 c4
    · skip
      refine q_iload dX11_bitsAbove_34 rfl ?_
      refine q_iload_n dX11_bitsAbove_36 rfl rfl ?_
      refine qx_icmp_eq (tgt := 58) dX11_bitsAbove_37 (by decide) (fun c5 => ?_) (fun c5 => ?_)
      · skip
        refine q_iload dX11_bitsAbove_58 rfl ?_
        refine q_iload_n dX11_bitsAbove_60 rfl rfl ?_
        refine qx_icmp_ne (tgt := 70) dX11_bitsAbove_61 (by decide) (fun c6 => ?_) (fun c6 => ?_)
        · skip
          refine qx_iinc (L' := [(2, 0), (0, j), (0, v2), (0, (v3 + 1)), (0, v4), (0, v5)]) dX11_bitsAbove_70 rfl rfl rfl (o9 c1 c3 c5 c6) rfl ?_
          refine q_goto (tgt := 4) dX11_bitsAbove_73 (by decide) ?_
          refine q_kill (L' := [(2, 0), (0, j), (0, v2), (0, (v3 + 1)), (4, 0), (0, v5)]) 4 rfl ?_
          refine q_kill (L' := [(2, 0), (0, j), (0, v2), (0, (v3 + 1)), (4, 0), (4, 0)]) 5 rfl ?_
          exact l10 c1 c3 c5 c6
        · skip
          refine q_iload_n dX11_bitsAbove_64 rfl rfl ?_
          refine qx_iconst dX11_bitsAbove_65 rfl rfl ?_
          refine q_iload_n dX11_bitsAbove_66 rfl rfl ?_
          refine q_ishl dX11_bitsAbove_67 ?_
          refine q_ior dX11_bitsAbove_68 ?_
          refine qx_istore_n (L' := [(2, 0), (0, j), (0, (q_oior v2 (q_oishl 1 v3))), (0, v3), (0, v4), (0, v5)]) dX11_bitsAbove_69 rfl rfl rfl rfl ?_
          refine qx_iinc (L' := [(2, 0), (0, j), (0, (q_oior v2 (q_oishl 1 v3))), (0, (v3 + 1)), (0, v4), (0, v5)]) dX11_bitsAbove_70 rfl rfl rfl (o11 c1 c3 c5 c6) rfl ?_
          refine q_goto (tgt := 4) dX11_bitsAbove_73 (by decide) ?_
          refine q_kill (L' := [(2, 0), (0, j), (0, (q_oior v2 (q_oishl 1 v3))), (0, (v3 + 1)), (4, 0), (0, v5)]) 4 rfl ?_
          refine q_kill (L' := [(2, 0), (0, j), (0, (q_oior v2 (q_oishl 1 v3))), (0, (v3 + 1)), (4, 0), (4, 0)]) 5 rfl ?_
          exact l12 c1 c3 c5 c6
      · skip
        refine q_aload_n dX11_bitsAbove_40 rfl rfl ?_
        refine q_getR (ci := 11) (k := 1) dX11_bitsAbove_41 rfl (by decide) rfl tw350 (by decide) qs0 qw0_1 (by decide) ?_
        refine q_getR (ci := 7) (k := 5) dX11_bitsAbove_44 rfl (by decide) rfl tw92 (by decide) qs5 qw5_5 (by decide) ?_
        refine q_iload dX11_bitsAbove_47 rfl ?_
        refine qx_iald (v := (mem 11 v4)) dX11_bitsAbove_49 qs11 (o13 c1 c3 c5).1 rfl ?_
        refine qx_istore (L' := [(2, 0), (0, j), (0, v2), (0, v3), (0, (mem 11 v4)), (0, v5)]) dX11_bitsAbove_50 rfl rfl rfl ?_
        refine qx_iinc (L' := [(2, 0), (0, j), (0, v2), (0, v3), (0, (mem 11 v4)), (0, (v5 + 1))]) dX11_bitsAbove_52 rfl rfl rfl (o13 c1 c3 c5).2 rfl ?_
        refine q_goto (tgt := 21) dX11_bitsAbove_55 (by decide) ?_
        exact l14 c1 c3 c5
theorem dX11_above_0 : decode cX11_above 0 = .ok (.aload_n 0, 1) := by decide +kernel
theorem dX11_above_1 : decode cX11_above 1 = .ok (.iload_n 1, 1) := by decide +kernel
theorem dX11_above_2 : decode cX11_above 2 = .ok (.invokevirtual 131, 3) := by decide +kernel
theorem dX11_above_5 : decode cX11_above 5 = .ok (.ifCond .eq 11, 3) := by decide +kernel
theorem dX11_above_8 : decode cX11_above 8 = .ok (.aload_n 0, 1) := by decide +kernel
theorem dX11_above_9 : decode cX11_above 9 = .ok (.iload_n 1, 1) := by decide +kernel
theorem dX11_above_10 : decode cX11_above 10 = .ok (.invokevirtual 303, 3) := by decide +kernel
theorem dX11_above_13 : decode cX11_above 13 = .ok (.goto 4, 3) := by decide +kernel
theorem dX11_above_16 : decode cX11_above 16 = .ok (.iconst (-1), 1) := by decide +kernel
theorem dX11_above_17 : decode cX11_above 17 = .ok (.ireturn, 1) := by decide +kernel
theorem bkX11_above_0 {b : Int} {mem : qm} {Q : Int → qm → Prop}
    {j : Int}
    {P2 : Int → qm → Prop}
    (l1 : (0 ≤ j ∧ j < (mem 1 3)) → q_Ev yX11_bitsAbove cX11_bitsAbove 6 (some .int) 1 0 0 [(2, 0), (0, j)] (q_sh0, q_rb b, mem) (qK (q_rb b) (P2)))
    (l2 : (0 ≤ j ∧ j < (mem 1 3)) → ∀ (r2 : Int), ∀ (m2 : qm), P2 r2 m2 → q_in32 r2 → Q r2 m2)
    (l3 : ¬ (0 ≤ j ∧ j < (mem 1 3)) → Q (-1) mem) :
    q_At yX11_above cX11_above 2 (some .int) 2 0 0 (qK (q_rb b) Q) 0 [(2, 0), (0, j)] [] (q_sh0, q_rb b, mem) := by
  refine q_aload_n dX11_above_0 rfl rfl ?_
  refine q_iload_n dX11_above_1 rfl rfl ?_
  refine qx_invV (ci := 11) [(0, j)] [(0, j), (2, 0)] rfl qM_X11_isJar dX11_above_2 tw576 rfl qs0 rfl rfl rfl rfl (spX11_isJar) (fun r1 m1 p1 q1 => ?_)
  obtain ⟨p1e, ⟨p1f, p1⟩ | ⟨p1f, p1⟩⟩ := p1
  · rw [p1e, p1f]
    refine qx_if_eq (tgt := 16) dX11_above_5 (by decide) (fun z => absurd z (by decide)) (fun _ => ?_)
    refine q_aload_n dX11_above_8 rfl rfl ?_
    refine q_iload_n dX11_above_9 rfl rfl ?_
    refine qx_invV (ci := 11) [(0, j)] [(0, j), (2, 0)] rfl qM_X11_bitsAbove dX11_above_10 tw817 rfl qs0 rfl rfl rfl rfl (l1 p1) (fun r2 m2 p2 q2 => ?_)
    refine q_goto (tgt := 17) dX11_above_13 (by decide) ?_
    exact q_iret dX11_above_17 (qK_i (l2 p1 r2 m2 p2 q2))
  · rw [p1e, p1f]
    refine qx_if_eq (tgt := 16) dX11_above_5 (by decide) (fun _ => ?_) (fun z => absurd z (by decide))
    refine qx_iconst dX11_above_16 rfl rfl ?_
    exact q_iret dX11_above_17 (qK_i (l3 p1))
theorem dX11_least_0 : decode cX11_least 0 = .ok (.aload_n 0, 1) := by decide +kernel
theorem dX11_least_1 : decode cX11_least 1 = .ok (.iload_n 1, 1) := by decide +kernel
theorem dX11_least_2 : decode cX11_least 2 = .ok (.invokevirtual 131, 3) := by decide +kernel
theorem dX11_least_5 : decode cX11_least 5 = .ok (.ifCond .eq 26, 3) := by decide +kernel
theorem dX11_least_8 : decode cX11_least 8 = .ok (.aload_n 0, 1) := by decide +kernel
theorem dX11_least_9 : decode cX11_least 9 = .ok (.iload_n 2, 1) := by decide +kernel
theorem dX11_least_10 : decode cX11_least 10 = .ok (.invokevirtual 131, 3) := by decide +kernel
theorem dX11_least_13 : decode cX11_least 13 = .ok (.ifCond .eq 18, 3) := by decide +kernel
theorem dX11_least_16 : decode cX11_least 16 = .ok (.iload_n 3, 1) := by decide +kernel
theorem dX11_least_17 : decode cX11_least 17 = .ok (.invokestatic 306, 3) := by decide +kernel
theorem dX11_least_20 : decode cX11_least 20 = .ok (.ifCond .eq 11, 3) := by decide +kernel
theorem dX11_least_23 : decode cX11_least 23 = .ok (.iload 4, 2) := by decide +kernel
theorem dX11_least_25 : decode cX11_least 25 = .ok (.invokestatic 214, 3) := by decide +kernel
theorem dX11_least_28 : decode cX11_least 28 = .ok (.ifCond .ne 5, 3) := by decide +kernel
theorem dX11_least_31 : decode cX11_least 31 = .ok (.iconst (-1), 1) := by decide +kernel
theorem dX11_least_32 : decode cX11_least 32 = .ok (.ireturn, 1) := by decide +kernel
theorem dX11_least_33 : decode cX11_least 33 = .ok (.aload_n 0, 1) := by decide +kernel
theorem dX11_least_34 : decode cX11_least 34 = .ok (.iload_n 1, 1) := by decide +kernel
theorem dX11_least_35 : decode cX11_least 35 = .ok (.invokevirtual 195, 3) := by decide +kernel
theorem dX11_least_38 : decode cX11_least 38 = .ok (.istore 5, 2) := by decide +kernel
theorem dX11_least_40 : decode cX11_least 40 = .ok (.iconst 0, 1) := by decide +kernel
theorem dX11_least_41 : decode cX11_least 41 = .ok (.istore 6, 2) := by decide +kernel
theorem dX11_least_43 : decode cX11_least 43 = .ok (.iload 6, 2) := by decide +kernel
theorem dX11_least_45 : decode cX11_least 45 = .ok (.iload 5, 2) := by decide +kernel
theorem dX11_least_47 : decode cX11_least 47 = .ok (.if_icmp .gt 74, 3) := by decide +kernel
theorem dX11_least_50 : decode cX11_least 50 = .ok (.aload_n 0, 1) := by decide +kernel
theorem dX11_least_51 : decode cX11_least 51 = .ok (.getfield 38, 3) := by decide +kernel
theorem dX11_least_54 : decode cX11_least 54 = .ok (.aload_n 0, 1) := by decide +kernel
theorem dX11_least_55 : decode cX11_least 55 = .ok (.getfield 19, 3) := by decide +kernel
theorem dX11_least_58 : decode cX11_least 58 = .ok (.invokevirtual 282, 3) := by decide +kernel
theorem dX11_least_61 : decode cX11_least 61 = .ok (.aload_n 0, 1) := by decide +kernel
theorem dX11_least_62 : decode cX11_least 62 = .ok (.getfield 38, 3) := by decide +kernel
theorem dX11_least_65 : decode cX11_least 65 = .ok (.getfield 299, 3) := by decide +kernel
theorem dX11_least_68 : decode cX11_least 68 = .ok (.iload_n 1, 1) := by decide +kernel
theorem dX11_least_69 : decode cX11_least 69 = .ok (.dup2, 1) := by decide +kernel
theorem dX11_least_70 : decode cX11_least 70 = .ok (.iaload, 1) := by decide +kernel
theorem dX11_least_71 : decode cX11_least 71 = .ok (.iload 6, 2) := by decide +kernel
theorem dX11_least_73 : decode cX11_least 73 = .ok (.iadd, 1) := by decide +kernel
theorem dX11_least_74 : decode cX11_least 74 = .ok (.iastore, 1) := by decide +kernel
theorem dX11_least_75 : decode cX11_least 75 = .ok (.aload_n 0, 1) := by decide +kernel
theorem dX11_least_76 : decode cX11_least 76 = .ok (.getfield 38, 3) := by decide +kernel
theorem dX11_least_79 : decode cX11_least 79 = .ok (.iload 4, 2) := by decide +kernel
theorem dX11_least_81 : decode cX11_least 81 = .ok (.invokevirtual 300, 3) := by decide +kernel
theorem dX11_least_84 : decode cX11_least 84 = .ok (.aload_n 0, 1) := by decide +kernel
theorem dX11_least_85 : decode cX11_least 85 = .ok (.getfield 38, 3) := by decide +kernel
theorem dX11_least_88 : decode cX11_least 88 = .ok (.getfield 299, 3) := by decide +kernel
theorem dX11_least_91 : decode cX11_least 91 = .ok (.iload_n 2, 1) := by decide +kernel
theorem dX11_least_92 : decode cX11_least 92 = .ok (.iaload, 1) := by decide +kernel
theorem dX11_least_93 : decode cX11_least 93 = .ok (.iload_n 3, 1) := by decide +kernel
theorem dX11_least_94 : decode cX11_least 94 = .ok (.if_icmp .lt 21, 3) := by decide +kernel
theorem dX11_least_97 : decode cX11_least 97 = .ok (.aload_n 0, 1) := by decide +kernel
theorem dX11_least_98 : decode cX11_least 98 = .ok (.invokevirtual 223, 3) := by decide +kernel
theorem dX11_least_101 : decode cX11_least 101 = .ok (.aload_n 0, 1) := by decide +kernel
theorem dX11_least_102 : decode cX11_least 102 = .ok (.aload_n 0, 1) := by decide +kernel
theorem dX11_least_103 : decode cX11_least 103 = .ok (.getfield 38, 3) := by decide +kernel
theorem dX11_least_106 : decode cX11_least 106 = .ok (.getfield 294, 3) := by decide +kernel
theorem dX11_least_109 : decode cX11_least 109 = .ok (.invokevirtual 229, 3) := by decide +kernel
theorem dX11_least_112 : decode cX11_least 112 = .ok (.iload 6, 2) := by decide +kernel
theorem dX11_least_114 : decode cX11_least 114 = .ok (.ireturn, 1) := by decide +kernel
theorem dX11_least_115 : decode cX11_least 115 = .ok (.iinc 6 1, 3) := by decide +kernel
theorem dX11_least_118 : decode cX11_least 118 = .ok (.goto (-75), 3) := by decide +kernel
theorem dX11_least_121 : decode cX11_least 121 = .ok (.bipush (-2), 2) := by decide +kernel
theorem dX11_least_123 : decode cX11_least 123 = .ok (.ireturn, 1) := by decide +kernel
theorem bkX11_least_0 {b : Int} {mem : qm} {Q : Int → qm → Prop}
    {x j w v : Int}
    (o1 : (0 ≤ x ∧ x < (mem 1 3)) → (0 ≤ j ∧ j < (mem 1 3)) → (0 ≤ w ∧ w ≤ 60) → (0 ≤ v ∧ v ≤ 200) → (0 ≤ x ∧ x < 9) ∧ q_in32 ((mem 2 x) - (mem 8 x)))
    (l2 : (0 ≤ x ∧ x < (mem 1 3)) → (0 ≤ j ∧ j < (mem 1 3)) → (0 ≤ w ∧ w ≤ 60) → (0 ≤ v ∧ v ≤ 200) → q_At yX11_least cX11_least 7 (some .int) 4 0 0 (qK (q_rb b) Q) 43 [(2, 0), (0, x), (0, j), (0, w), (0, v), (0, ((mem 2 x) - (mem 8 x))), (0, 0)] [] (q_sh0, q_rb b, mem))
    (l3 : (0 ≤ x ∧ x < (mem 1 3)) → (0 ≤ j ∧ j < (mem 1 3)) → (0 ≤ w ∧ w ≤ 60) → ¬ (0 ≤ v ∧ v ≤ 200) → Q (-1) mem)
    (l4 : (0 ≤ x ∧ x < (mem 1 3)) → (0 ≤ j ∧ j < (mem 1 3)) → ¬ (0 ≤ w ∧ w ≤ 60) → Q (-1) mem)
    (l5 : (0 ≤ x ∧ x < (mem 1 3)) → ¬ (0 ≤ j ∧ j < (mem 1 3)) → Q (-1) mem)
    (l6 : ¬ (0 ≤ x ∧ x < (mem 1 3)) → Q (-1) mem) :
    q_At yX11_least cX11_least 7 (some .int) 4 0 0 (qK (q_rb b) Q) 0 [(2, 0), (0, x), (0, j), (0, w), (0, v), (4, 0), (4, 0)] [] (q_sh0, q_rb b, mem) := by
  refine q_aload_n dX11_least_0 rfl rfl ?_
  refine q_iload_n dX11_least_1 rfl rfl ?_
  refine qx_invV (ci := 11) [(0, x)] [(0, x), (2, 0)] rfl qM_X11_isJar dX11_least_2 tw576 rfl qs0 rfl rfl rfl rfl (spX11_isJar) (fun r1 m1 p1 q1 => ?_)
  obtain ⟨p1e, ⟨p1f, p1⟩ | ⟨p1f, p1⟩⟩ := p1
  · rw [p1e, p1f]
    refine qx_if_eq (tgt := 31) dX11_least_5 (by decide) (fun z => absurd z (by decide)) (fun _ => ?_)
    refine q_aload_n dX11_least_8 rfl rfl ?_
    refine q_iload_n dX11_least_9 rfl rfl ?_
    refine qx_invV (ci := 11) [(0, j)] [(0, j), (2, 0)] rfl qM_X11_isJar dX11_least_10 tw576 rfl qs0 rfl rfl rfl rfl (spX11_isJar) (fun r2 m2 p2 q2 => ?_)
    obtain ⟨p2e, ⟨p2f, p2⟩ | ⟨p2f, p2⟩⟩ := p2
    · rw [p2e, p2f]
      refine qx_if_eq (tgt := 31) dX11_least_13 (by decide) (fun z => absurd z (by decide)) (fun _ => ?_)
      refine q_iload_n dX11_least_16 rfl rfl ?_
      refine qx_invS [(0, w)] [(0, w)] rfl qM_X11_isLevel dX11_least_17 tw825 rfl rfl rfl rfl (spX11_isLevel) (fun r3 m3 p3 q3 => ?_)
      obtain ⟨p3e, ⟨p3f, p3⟩ | ⟨p3f, p3⟩⟩ := p3
      · rw [p3e, p3f]
        refine qx_if_eq (tgt := 31) dX11_least_20 (by decide) (fun z => absurd z (by decide)) (fun _ => ?_)
        refine q_iload dX11_least_23 rfl ?_
        refine qx_invS [(0, v)] [(0, v)] rfl qM_X11_isSpan dX11_least_25 tw668 rfl rfl rfl rfl (spX11_isSpan) (fun r4 m4 p4 q4 => ?_)
        obtain ⟨p4e, ⟨p4f, p4⟩ | ⟨p4f, p4⟩⟩ := p4
        · rw [p4e, p4f]
          refine qx_if_ne (tgt := 33) dX11_least_28 (by decide) (fun _ => ?_) (fun z => absurd z (by decide))
          refine q_aload_n dX11_least_33 rfl rfl ?_
          refine q_iload_n dX11_least_34 rfl rfl ?_
          refine qx_invV (ci := 11) [(0, x)] [(0, x), (2, 0)] rfl qM_X11_roomIn dX11_least_35 tw616 rfl qs0 rfl rfl rfl rfl (spX11_roomIn (o1 p1 p2 p3 p4)) (fun r5 m5 p5 q5 => ?_)
          obtain ⟨p5e, p5f⟩ := p5
          rw [p5e, p5f]
          refine qx_istore (L' := [(2, 0), (0, x), (0, j), (0, w), (0, v), (0, ((mem 2 x) - (mem 8 x))), (4, 0)]) dX11_least_38 rfl rfl rfl ?_
          refine qx_iconst dX11_least_40 rfl rfl ?_
          refine qx_istore (L' := [(2, 0), (0, x), (0, j), (0, w), (0, v), (0, ((mem 2 x) - (mem 8 x))), (0, 0)]) dX11_least_41 rfl rfl rfl ?_
          exact l2 p1 p2 p3 p4
        · rw [p4e, p4f]
          refine qx_if_ne (tgt := 33) dX11_least_28 (by decide) (fun z => absurd z (by decide)) (fun _ => ?_)
          refine qx_iconst dX11_least_31 rfl rfl ?_
          exact q_iret dX11_least_32 (qK_i (l3 p1 p2 p3 p4))
      · rw [p3e, p3f]
        refine qx_if_eq (tgt := 31) dX11_least_20 (by decide) (fun _ => ?_) (fun z => absurd z (by decide))
        refine qx_iconst dX11_least_31 rfl rfl ?_
        exact q_iret dX11_least_32 (qK_i (l4 p1 p2 p3))
    · rw [p2e, p2f]
      refine qx_if_eq (tgt := 31) dX11_least_13 (by decide) (fun _ => ?_) (fun z => absurd z (by decide))
      refine qx_iconst dX11_least_31 rfl rfl ?_
      exact q_iret dX11_least_32 (qK_i (l5 p1 p2))
  · rw [p1e, p1f]
    refine qx_if_eq (tgt := 31) dX11_least_5 (by decide) (fun _ => ?_) (fun z => absurd z (by decide))
    refine qx_iconst dX11_least_31 rfl rfl ?_
    exact q_iret dX11_least_32 (qK_i (l6 p1))
theorem bkX11_least_43 {b : Int} {mem : qm} {Q : Int → qm → Prop}
    {x j w v v5 v6 : Int}
    (l1 : v5 < v6 → Q (-2) mem)
    {P2 : Int → qm → Prop}
    (l2 : v6 ≤ v5 → q_Ev yX1_start cX1_start 2 none 2 0 0 [(2, 26), (2, 5)] (q_sh0, q_rb b, mem) (qK (q_rb b) (P2)))
    (o3 : v6 ≤ v5 → ∀ (r2 : Int), ∀ (m2 : qm), P2 r2 m2 → q_in32 r2 → (0 ≤ x ∧ x < 9) ∧ q_in32 ((m2 27 x) + v6))
    {P3 : Int → qm → Int → qm → Prop}
    (l4 : v6 ≤ v5 → ∀ (r2 : Int), ∀ (m2 : qm), P2 r2 m2 → q_in32 r2 → q_Ev yX1_strikeAll cX1_strikeAll 3 none 3 0 0 [(2, 26), (0, v)] (q_sh0, q_rb b, (q_up m2 27 x ((m2 27 x) + v6))) (qK (q_rb b) (P3 r2 m2)))
    (o5 : v6 ≤ v5 → ∀ (r2 : Int), ∀ (m2 : qm), P2 r2 m2 → q_in32 r2 → ∀ (r3 : Int), ∀ (m3 : qm), P3 r2 m2 r3 m3 → q_in32 r3 → (0 ≤ j ∧ j < 9))
    (o6 : v6 ≤ v5 → ∀ (r2 : Int), ∀ (m2 : qm), P2 r2 m2 → q_in32 r2 → ∀ (r3 : Int), ∀ (m3 : qm), P3 r2 m2 r3 m3 → q_in32 r3 → (m3 27 j) < w → q_in32 (v6 + 1))
    (l7 : v6 ≤ v5 → ∀ (r2 : Int), ∀ (m2 : qm), P2 r2 m2 → q_in32 r2 → ∀ (r3 : Int), ∀ (m3 : qm), P3 r2 m2 r3 m3 → q_in32 r3 → (m3 27 j) < w → q_At yX11_least cX11_least 7 (some .int) 4 0 0 (qK (q_rb b) Q) 43 [(2, 0), (0, x), (0, j), (0, w), (0, v), (0, v5), (0, (v6 + 1))] [] (q_sh0, q_rb b, m3))
    (o8 : v6 ≤ v5 → ∀ (r2 : Int), ∀ (m2 : qm), P2 r2 m2 → q_in32 r2 → ∀ (r3 : Int), ∀ (m3 : qm), P3 r2 m2 r3 m3 → q_in32 r3 → w ≤ (m3 27 j) → (0 ≤ (0 : Int) ∧ (0 : Int) < 10))
    (l9 : v6 ≤ v5 → ∀ (r2 : Int), ∀ (m2 : qm), P2 r2 m2 → q_in32 r2 → ∀ (r3 : Int), ∀ (m3 : qm), P3 r2 m2 r3 m3 → q_in32 r3 → w ≤ (m3 27 j) → Q v6 (q_up (q_up (q_up m3 0 16 0) 169 (0 : Int) (m3 26 7)) 0 16 ((0 : Int) + 1))) :
    q_At yX11_least cX11_least 7 (some .int) 4 0 0 (qK (q_rb b) Q) 43 [(2, 0), (0, x), (0, j), (0, w), (0, v), (0, v5), (0, v6)] [] (q_sh0, q_rb b, mem) := by
  refine q_iload dX11_least_43 rfl ?_
  refine q_iload dX11_least_45 rfl ?_
  refine qx_icmp_gt (tgt := 121) dX11_least_47 (by decide) (fun c1 => ?_) (fun c1 => ?_)
  · skip
    refine qx_bipush dX11_least_121 rfl rfl ?_
    exact q_iret dX11_least_123 (qK_i (l1 c1))
  · skip
    refine q_aload_n dX11_least_50 rfl rfl ?_
    refine q_getR (ci := 11) (k := 4) dX11_least_51 rfl (by decide) rfl tw353 (by decide) qs0 qw0_4 (by decide) ?_
    refine q_aload_n dX11_least_54 rfl rfl ?_
    refine q_getR (ci := 11) (k := 1) dX11_least_55 rfl (by decide) rfl tw350 (by decide) qs0 qw0_1 (by decide) ?_
    refine qx_invV (ci := 1) [(2, 5)] [(2, 5), (2, 26)] rfl qM_X1_start dX11_least_58 tw767 rfl qs26 rfl rfl rfl rfl (l2 c1) (fun r2 m2 p2 q2 => ?_)
    refine q_aload_n dX11_least_61 rfl rfl ?_
    refine q_getR (ci := 11) (k := 4) dX11_least_62 rfl (by decide) rfl tw353 (by decide) qs0 qw0_4 (by decide) ?_
    refine q_getR (ci := 1) (k := 1) dX11_least_65 rfl (by decide) rfl tw153 (by decide) qs26 qw26_1 (by decide) ?_
    refine q_iload_n dX11_least_68 rfl rfl ?_
    refine q_dup2 dX11_least_69 (fun h => by cases h) (fun h => by cases h) ?_
    refine qx_iald (v := (m2 27 x)) dX11_least_70 qs27 (o3 c1 r2 m2 p2 q2).1 rfl ?_
    refine q_iload dX11_least_71 rfl ?_
    refine qx_iadd dX11_least_73 (o3 c1 r2 m2 p2 q2).2 ?_
    refine q_iast dX11_least_74 qs27 ((o3 c1 r2 m2 p2 q2).1).1 ((o3 c1 r2 m2 p2 q2).1).2 ?_
    refine q_aload_n dX11_least_75 rfl rfl ?_
    refine q_getR (ci := 11) (k := 4) dX11_least_76 rfl (by decide) rfl tw353 (by decide) qs0 qw0_4 (by decide) ?_
    refine q_iload dX11_least_79 rfl ?_
    refine qx_invV (ci := 1) [(0, v)] [(0, v), (2, 26)] rfl qM_X1_strikeAll dX11_least_81 tw804 rfl qs26 rfl rfl rfl rfl (l4 c1 r2 m2 p2 q2) (fun r3 m3 p3 q3 => ?_)
    refine q_aload_n dX11_least_84 rfl rfl ?_
    refine q_getR (ci := 11) (k := 4) dX11_least_85 rfl (by decide) rfl tw353 (by decide) qs0 qw0_4 (by decide) ?_
    refine q_getR (ci := 1) (k := 1) dX11_least_88 rfl (by decide) rfl tw153 (by decide) qs26 qw26_1 (by decide) ?_
    refine q_iload_n dX11_least_91 rfl rfl ?_
    refine qx_iald (v := (m3 27 j)) dX11_least_92 qs27 (o5 c1 r2 m2 p2 q2 r3 m3 p3 q3) rfl ?_
    refine q_iload_n dX11_least_93 rfl rfl ?_
    refine qx_icmp_lt (tgt := 115) dX11_least_94 (by decide) (fun c4 => ?_) (fun c4 => ?_)
    · skip
      refine qx_iinc (L' := [(2, 0), (0, x), (0, j), (0, w), (0, v), (0, v5), (0, (v6 + 1))]) dX11_least_115 rfl rfl rfl (o6 c1 r2 m2 p2 q2 r3 m3 p3 q3 c4) rfl ?_
      refine q_goto (tgt := 43) dX11_least_118 (by decide) ?_
      exact l7 c1 r2 m2 p2 q2 r3 m3 p3 q3 c4
    · skip
      refine q_aload_n dX11_least_97 rfl rfl ?_
      refine qx_invV (ci := 11) [] [(2, 0)] rfl qM_X11_clearRow dX11_least_98 tw691 rfl qs0 rfl rfl rfl rfl (spX11_clearRow) (fun r5 m5 p5 q5 => ?_)
      obtain rfl := p5
      refine q_aload_n dX11_least_101 rfl rfl ?_
      refine q_aload_n dX11_least_102 rfl rfl ?_
      refine q_getR (ci := 11) (k := 4) dX11_least_103 rfl (by decide) rfl tw353 (by decide) qs0 qw0_4 (by decide) ?_
      refine qx_getI (ci := 1) (k := 7) (v := (m3 26 7)) dX11_least_106 rfl rfl rfl tw162 rfl qs26 (q_up_c (by decide)) ?_
      refine qx_invV (ci := 11) [(0, (m3 26 7))] [(0, (m3 26 7)), (2, 0)] rfl qM_X11_tell dX11_least_109 tw699 rfl qs0 rfl rfl rfl rfl (spX11_tell (by first | exact (o8 c1 r2 m2 p2 q2 r3 m3 p3 q3 c4) | (simp only [q_up, Int.reduceEq, false_and, true_and, and_true, and_false, ite_false, ite_true, if_true, if_false]; exact (o8 c1 r2 m2 p2 q2 r3 m3 p3 q3 c4)))) (fun r6 m6 p6 q6 => ?_)
      obtain rfl := p6
      refine q_iload dX11_least_112 rfl ?_
      exact q_iret dX11_least_114 (qK_i (l9 c1 r2 m2 p2 q2 r3 m3 p3 q3 c4))
theorem dJ6_bitCount_0f7a4_0 : decode cJ6_bitCount_0f7a4 0 = .ok (.iload_n 0, 1) := by decide +kernel
theorem dJ6_bitCount_0f7a4_1 : decode cJ6_bitCount_0f7a4 1 = .ok (.iload_n 0, 1) := by decide +kernel
theorem dJ6_bitCount_0f7a4_2 : decode cJ6_bitCount_0f7a4 2 = .ok (.iconst 1, 1) := by decide +kernel
theorem dJ6_bitCount_0f7a4_3 : decode cJ6_bitCount_0f7a4 3 = .ok (.iushr, 1) := by decide +kernel
theorem dJ6_bitCount_0f7a4_4 : decode cJ6_bitCount_0f7a4 4 = .ok (.ldc_w 265, 3) := by decide +kernel
theorem dJ6_bitCount_0f7a4_7 : decode cJ6_bitCount_0f7a4 7 = .ok (.iand, 1) := by decide +kernel
theorem dJ6_bitCount_0f7a4_8 : decode cJ6_bitCount_0f7a4 8 = .ok (.isub, 1) := by decide +kernel
theorem dJ6_bitCount_0f7a4_9 : decode cJ6_bitCount_0f7a4 9 = .ok (.istore_n 0, 1) := by decide +kernel
theorem dJ6_bitCount_0f7a4_10 : decode cJ6_bitCount_0f7a4 10 = .ok (.iload_n 0, 1) := by decide +kernel
theorem dJ6_bitCount_0f7a4_11 : decode cJ6_bitCount_0f7a4 11 = .ok (.ldc_w 266, 3) := by decide +kernel
theorem dJ6_bitCount_0f7a4_14 : decode cJ6_bitCount_0f7a4 14 = .ok (.iand, 1) := by decide +kernel
theorem dJ6_bitCount_0f7a4_15 : decode cJ6_bitCount_0f7a4 15 = .ok (.iload_n 0, 1) := by decide +kernel
theorem dJ6_bitCount_0f7a4_16 : decode cJ6_bitCount_0f7a4 16 = .ok (.iconst 2, 1) := by decide +kernel
theorem dJ6_bitCount_0f7a4_17 : decode cJ6_bitCount_0f7a4 17 = .ok (.iushr, 1) := by decide +kernel
theorem dJ6_bitCount_0f7a4_18 : decode cJ6_bitCount_0f7a4 18 = .ok (.ldc_w 266, 3) := by decide +kernel
theorem dJ6_bitCount_0f7a4_21 : decode cJ6_bitCount_0f7a4 21 = .ok (.iand, 1) := by decide +kernel
theorem dJ6_bitCount_0f7a4_22 : decode cJ6_bitCount_0f7a4 22 = .ok (.iadd, 1) := by decide +kernel
theorem dJ6_bitCount_0f7a4_23 : decode cJ6_bitCount_0f7a4 23 = .ok (.istore_n 0, 1) := by decide +kernel
theorem dJ6_bitCount_0f7a4_24 : decode cJ6_bitCount_0f7a4 24 = .ok (.iload_n 0, 1) := by decide +kernel
theorem dJ6_bitCount_0f7a4_25 : decode cJ6_bitCount_0f7a4 25 = .ok (.iload_n 0, 1) := by decide +kernel
theorem dJ6_bitCount_0f7a4_26 : decode cJ6_bitCount_0f7a4 26 = .ok (.iconst 4, 1) := by decide +kernel
theorem dJ6_bitCount_0f7a4_27 : decode cJ6_bitCount_0f7a4 27 = .ok (.iushr, 1) := by decide +kernel
theorem dJ6_bitCount_0f7a4_28 : decode cJ6_bitCount_0f7a4 28 = .ok (.iadd, 1) := by decide +kernel
theorem dJ6_bitCount_0f7a4_29 : decode cJ6_bitCount_0f7a4 29 = .ok (.ldc_w 267, 3) := by decide +kernel
theorem dJ6_bitCount_0f7a4_32 : decode cJ6_bitCount_0f7a4 32 = .ok (.iand, 1) := by decide +kernel
theorem dJ6_bitCount_0f7a4_33 : decode cJ6_bitCount_0f7a4 33 = .ok (.istore_n 0, 1) := by decide +kernel
theorem dJ6_bitCount_0f7a4_34 : decode cJ6_bitCount_0f7a4 34 = .ok (.iload_n 0, 1) := by decide +kernel
theorem dJ6_bitCount_0f7a4_35 : decode cJ6_bitCount_0f7a4 35 = .ok (.iload_n 0, 1) := by decide +kernel
theorem dJ6_bitCount_0f7a4_36 : decode cJ6_bitCount_0f7a4 36 = .ok (.bipush 8, 2) := by decide +kernel
theorem dJ6_bitCount_0f7a4_38 : decode cJ6_bitCount_0f7a4 38 = .ok (.iushr, 1) := by decide +kernel
theorem dJ6_bitCount_0f7a4_39 : decode cJ6_bitCount_0f7a4 39 = .ok (.iadd, 1) := by decide +kernel
theorem dJ6_bitCount_0f7a4_40 : decode cJ6_bitCount_0f7a4 40 = .ok (.istore_n 0, 1) := by decide +kernel
theorem dJ6_bitCount_0f7a4_41 : decode cJ6_bitCount_0f7a4 41 = .ok (.iload_n 0, 1) := by decide +kernel
theorem dJ6_bitCount_0f7a4_42 : decode cJ6_bitCount_0f7a4 42 = .ok (.iload_n 0, 1) := by decide +kernel
theorem dJ6_bitCount_0f7a4_43 : decode cJ6_bitCount_0f7a4 43 = .ok (.bipush 16, 2) := by decide +kernel
theorem dJ6_bitCount_0f7a4_45 : decode cJ6_bitCount_0f7a4 45 = .ok (.iushr, 1) := by decide +kernel
theorem dJ6_bitCount_0f7a4_46 : decode cJ6_bitCount_0f7a4 46 = .ok (.iadd, 1) := by decide +kernel
theorem dJ6_bitCount_0f7a4_47 : decode cJ6_bitCount_0f7a4 47 = .ok (.istore_n 0, 1) := by decide +kernel
theorem dJ6_bitCount_0f7a4_48 : decode cJ6_bitCount_0f7a4 48 = .ok (.iload_n 0, 1) := by decide +kernel
theorem dJ6_bitCount_0f7a4_49 : decode cJ6_bitCount_0f7a4 49 = .ok (.bipush 63, 2) := by decide +kernel
theorem dJ6_bitCount_0f7a4_51 : decode cJ6_bitCount_0f7a4 51 = .ok (.iand, 1) := by decide +kernel
theorem dJ6_bitCount_0f7a4_52 : decode cJ6_bitCount_0f7a4 52 = .ok (.ireturn, 1) := by decide +kernel
theorem bkJ6_bitCount_0f7a4_0 {b : Int} {mem : qm} {Q : Int → qm → Prop}
    {v : Int}
    (l1 : Q (q_oiand (q_w32 ((q_w32 ((q_oiand (q_w32 ((q_w32 ((q_oiand (q_w32 (v - (q_oiand (q_oiushr v 1) 1431655765))) 858993459) + (q_oiand (q_oiushr (q_w32 (v - (q_oiand (q_oiushr v 1) 1431655765))) 2) 858993459))) + (q_oiushr (q_w32 ((q_oiand (q_w32 (v - (q_oiand (q_oiushr v 1) 1431655765))) 858993459) + (q_oiand (q_oiushr (q_w32 (v - (q_oiand (q_oiushr v 1) 1431655765))) 2) 858993459))) 4))) 252645135) + (q_oiushr (q_oiand (q_w32 ((q_w32 ((q_oiand (q_w32 (v - (q_oiand (q_oiushr v 1) 1431655765))) 858993459) + (q_oiand (q_oiushr (q_w32 (v - (q_oiand (q_oiushr v 1) 1431655765))) 2) 858993459))) + (q_oiushr (q_w32 ((q_oiand (q_w32 (v - (q_oiand (q_oiushr v 1) 1431655765))) 858993459) + (q_oiand (q_oiushr (q_w32 (v - (q_oiand (q_oiushr v 1) 1431655765))) 2) 858993459))) 4))) 252645135) 8))) + (q_oiushr (q_w32 ((q_oiand (q_w32 ((q_w32 ((q_oiand (q_w32 (v - (q_oiand (q_oiushr v 1) 1431655765))) 858993459) + (q_oiand (q_oiushr (q_w32 (v - (q_oiand (q_oiushr v 1) 1431655765))) 2) 858993459))) + (q_oiushr (q_w32 ((q_oiand (q_w32 (v - (q_oiand (q_oiushr v 1) 1431655765))) 858993459) + (q_oiand (q_oiushr (q_w32 (v - (q_oiand (q_oiushr v 1) 1431655765))) 2) 858993459))) 4))) 252645135) + (q_oiushr (q_oiand (q_w32 ((q_w32 ((q_oiand (q_w32 (v - (q_oiand (q_oiushr v 1) 1431655765))) 858993459) + (q_oiand (q_oiushr (q_w32 (v - (q_oiand (q_oiushr v 1) 1431655765))) 2) 858993459))) + (q_oiushr (q_w32 ((q_oiand (q_w32 (v - (q_oiand (q_oiushr v 1) 1431655765))) 858993459) + (q_oiand (q_oiushr (q_w32 (v - (q_oiand (q_oiushr v 1) 1431655765))) 2) 858993459))) 4))) 252645135) 8))) 16))) 63) mem) :
    q_At yJ6_bitCount_0f7a4 cJ6_bitCount_0f7a4 1 (some .int) 1 0 0 (qK (q_rb b) Q) 0 [(0, v)] [] (q_sh0, q_rb b, mem) := by
  refine q_iload_n dJ6_bitCount_0f7a4_0 rfl rfl ?_
  refine q_iload_n dJ6_bitCount_0f7a4_1 rfl rfl ?_
  refine qx_iconst dJ6_bitCount_0f7a4_2 rfl rfl ?_
  refine q_iushr dJ6_bitCount_0f7a4_3 ?_
  refine q_ldcw (v := 1431655765) dJ6_bitCount_0f7a4_4 tw847 rfl (q_inb_ok rfl) ?_
  refine q_iand dJ6_bitCount_0f7a4_7 ?_
  refine q_isub dJ6_bitCount_0f7a4_8 ?_
  refine qx_istore_n (L' := [(0, (q_w32 (v - (q_oiand (q_oiushr v 1) 1431655765))))]) dJ6_bitCount_0f7a4_9 rfl rfl rfl rfl ?_
  refine q_iload_n dJ6_bitCount_0f7a4_10 rfl rfl ?_
  refine q_ldcw (v := 858993459) dJ6_bitCount_0f7a4_11 tw848 rfl (q_inb_ok rfl) ?_
  refine q_iand dJ6_bitCount_0f7a4_14 ?_
  refine q_iload_n dJ6_bitCount_0f7a4_15 rfl rfl ?_
  refine qx_iconst dJ6_bitCount_0f7a4_16 rfl rfl ?_
  refine q_iushr dJ6_bitCount_0f7a4_17 ?_
  refine q_ldcw (v := 858993459) dJ6_bitCount_0f7a4_18 tw848 rfl (q_inb_ok rfl) ?_
  refine q_iand dJ6_bitCount_0f7a4_21 ?_
  refine q_iadd dJ6_bitCount_0f7a4_22 ?_
  refine qx_istore_n (L' := [(0, (q_w32 ((q_oiand (q_w32 (v - (q_oiand (q_oiushr v 1) 1431655765))) 858993459) + (q_oiand (q_oiushr (q_w32 (v - (q_oiand (q_oiushr v 1) 1431655765))) 2) 858993459))))]) dJ6_bitCount_0f7a4_23 rfl rfl rfl rfl ?_
  refine q_iload_n dJ6_bitCount_0f7a4_24 rfl rfl ?_
  refine q_iload_n dJ6_bitCount_0f7a4_25 rfl rfl ?_
  refine qx_iconst dJ6_bitCount_0f7a4_26 rfl rfl ?_
  refine q_iushr dJ6_bitCount_0f7a4_27 ?_
  refine q_iadd dJ6_bitCount_0f7a4_28 ?_
  refine q_ldcw (v := 252645135) dJ6_bitCount_0f7a4_29 tw849 rfl (q_inb_ok rfl) ?_
  refine q_iand dJ6_bitCount_0f7a4_32 ?_
  refine qx_istore_n (L' := [(0, (q_oiand (q_w32 ((q_w32 ((q_oiand (q_w32 (v - (q_oiand (q_oiushr v 1) 1431655765))) 858993459) + (q_oiand (q_oiushr (q_w32 (v - (q_oiand (q_oiushr v 1) 1431655765))) 2) 858993459))) + (q_oiushr (q_w32 ((q_oiand (q_w32 (v - (q_oiand (q_oiushr v 1) 1431655765))) 858993459) + (q_oiand (q_oiushr (q_w32 (v - (q_oiand (q_oiushr v 1) 1431655765))) 2) 858993459))) 4))) 252645135))]) dJ6_bitCount_0f7a4_33 rfl rfl rfl rfl ?_
  refine q_iload_n dJ6_bitCount_0f7a4_34 rfl rfl ?_
  refine q_iload_n dJ6_bitCount_0f7a4_35 rfl rfl ?_
  refine qx_bipush dJ6_bitCount_0f7a4_36 rfl rfl ?_
  refine q_iushr dJ6_bitCount_0f7a4_38 ?_
  refine q_iadd dJ6_bitCount_0f7a4_39 ?_
  refine qx_istore_n (L' := [(0, (q_w32 ((q_oiand (q_w32 ((q_w32 ((q_oiand (q_w32 (v - (q_oiand (q_oiushr v 1) 1431655765))) 858993459) + (q_oiand (q_oiushr (q_w32 (v - (q_oiand (q_oiushr v 1) 1431655765))) 2) 858993459))) + (q_oiushr (q_w32 ((q_oiand (q_w32 (v - (q_oiand (q_oiushr v 1) 1431655765))) 858993459) + (q_oiand (q_oiushr (q_w32 (v - (q_oiand (q_oiushr v 1) 1431655765))) 2) 858993459))) 4))) 252645135) + (q_oiushr (q_oiand (q_w32 ((q_w32 ((q_oiand (q_w32 (v - (q_oiand (q_oiushr v 1) 1431655765))) 858993459) + (q_oiand (q_oiushr (q_w32 (v - (q_oiand (q_oiushr v 1) 1431655765))) 2) 858993459))) + (q_oiushr (q_w32 ((q_oiand (q_w32 (v - (q_oiand (q_oiushr v 1) 1431655765))) 858993459) + (q_oiand (q_oiushr (q_w32 (v - (q_oiand (q_oiushr v 1) 1431655765))) 2) 858993459))) 4))) 252645135) 8))))]) dJ6_bitCount_0f7a4_40 rfl rfl rfl rfl ?_
  refine q_iload_n dJ6_bitCount_0f7a4_41 rfl rfl ?_
  refine q_iload_n dJ6_bitCount_0f7a4_42 rfl rfl ?_
  refine qx_bipush dJ6_bitCount_0f7a4_43 rfl rfl ?_
  refine q_iushr dJ6_bitCount_0f7a4_45 ?_
  refine q_iadd dJ6_bitCount_0f7a4_46 ?_
  refine qx_istore_n (L' := [(0, (q_w32 ((q_w32 ((q_oiand (q_w32 ((q_w32 ((q_oiand (q_w32 (v - (q_oiand (q_oiushr v 1) 1431655765))) 858993459) + (q_oiand (q_oiushr (q_w32 (v - (q_oiand (q_oiushr v 1) 1431655765))) 2) 858993459))) + (q_oiushr (q_w32 ((q_oiand (q_w32 (v - (q_oiand (q_oiushr v 1) 1431655765))) 858993459) + (q_oiand (q_oiushr (q_w32 (v - (q_oiand (q_oiushr v 1) 1431655765))) 2) 858993459))) 4))) 252645135) + (q_oiushr (q_oiand (q_w32 ((q_w32 ((q_oiand (q_w32 (v - (q_oiand (q_oiushr v 1) 1431655765))) 858993459) + (q_oiand (q_oiushr (q_w32 (v - (q_oiand (q_oiushr v 1) 1431655765))) 2) 858993459))) + (q_oiushr (q_w32 ((q_oiand (q_w32 (v - (q_oiand (q_oiushr v 1) 1431655765))) 858993459) + (q_oiand (q_oiushr (q_w32 (v - (q_oiand (q_oiushr v 1) 1431655765))) 2) 858993459))) 4))) 252645135) 8))) + (q_oiushr (q_w32 ((q_oiand (q_w32 ((q_w32 ((q_oiand (q_w32 (v - (q_oiand (q_oiushr v 1) 1431655765))) 858993459) + (q_oiand (q_oiushr (q_w32 (v - (q_oiand (q_oiushr v 1) 1431655765))) 2) 858993459))) + (q_oiushr (q_w32 ((q_oiand (q_w32 (v - (q_oiand (q_oiushr v 1) 1431655765))) 858993459) + (q_oiand (q_oiushr (q_w32 (v - (q_oiand (q_oiushr v 1) 1431655765))) 2) 858993459))) 4))) 252645135) + (q_oiushr (q_oiand (q_w32 ((q_w32 ((q_oiand (q_w32 (v - (q_oiand (q_oiushr v 1) 1431655765))) 858993459) + (q_oiand (q_oiushr (q_w32 (v - (q_oiand (q_oiushr v 1) 1431655765))) 2) 858993459))) + (q_oiushr (q_w32 ((q_oiand (q_w32 (v - (q_oiand (q_oiushr v 1) 1431655765))) 858993459) + (q_oiand (q_oiushr (q_w32 (v - (q_oiand (q_oiushr v 1) 1431655765))) 2) 858993459))) 4))) 252645135) 8))) 16))))]) dJ6_bitCount_0f7a4_47 rfl rfl rfl rfl ?_
  refine q_iload_n dJ6_bitCount_0f7a4_48 rfl rfl ?_
  refine qx_bipush dJ6_bitCount_0f7a4_49 rfl rfl ?_
  refine q_iand dJ6_bitCount_0f7a4_51 ?_
  exact q_iret dJ6_bitCount_0f7a4_52 (qK_i (l1))
theorem dX11_goStopped_0 : decode cX11_goStopped 0 = .ok (.aload_n 0, 1) := by decide +kernel
theorem dX11_goStopped_1 : decode cX11_goStopped 1 = .ok (.getfield 38, 3) := by decide +kernel
theorem dX11_goStopped_4 : decode cX11_goStopped 4 = .ok (.aload_n 0, 1) := by decide +kernel
theorem dX11_goStopped_5 : decode cX11_goStopped 5 = .ok (.getfield 19, 3) := by decide +kernel
theorem dX11_goStopped_8 : decode cX11_goStopped 8 = .ok (.invokevirtual 282, 3) := by decide +kernel
theorem dX11_goStopped_11 : decode cX11_goStopped 11 = .ok (.iconst 0, 1) := by decide +kernel
theorem dX11_goStopped_12 : decode cX11_goStopped 12 = .ok (.istore_n 3, 1) := by decide +kernel
theorem dX11_goStopped_13 : decode cX11_goStopped 13 = .ok (.iload_n 3, 1) := by decide +kernel
theorem dX11_goStopped_14 : decode cX11_goStopped 14 = .ok (.aload_n 0, 1) := by decide +kernel
theorem dX11_goStopped_15 : decode cX11_goStopped 15 = .ok (.getfield 10, 3) := by decide +kernel
theorem dX11_goStopped_18 : decode cX11_goStopped 18 = .ok (.getfield 173, 3) := by decide +kernel
theorem dX11_goStopped_21 : decode cX11_goStopped 21 = .ok (.if_icmp .ge 27, 3) := by decide +kernel
theorem dX11_goStopped_24 : decode cX11_goStopped 24 = .ok (.iload_n 1, 1) := by decide +kernel
theorem dX11_goStopped_25 : decode cX11_goStopped 25 = .ok (.iload_n 3, 1) := by decide +kernel
theorem dX11_goStopped_26 : decode cX11_goStopped 26 = .ok (.ishr, 1) := by decide +kernel
theorem dX11_goStopped_27 : decode cX11_goStopped 27 = .ok (.iconst 1, 1) := by decide +kernel
theorem dX11_goStopped_28 : decode cX11_goStopped 28 = .ok (.iand, 1) := by decide +kernel
theorem dX11_goStopped_29 : decode cX11_goStopped 29 = .ok (.ifCond .eq 13, 3) := by decide +kernel
theorem dX11_goStopped_32 : decode cX11_goStopped 32 = .ok (.aload_n 0, 1) := by decide +kernel
theorem dX11_goStopped_33 : decode cX11_goStopped 33 = .ok (.getfield 38, 3) := by decide +kernel
theorem dX11_goStopped_36 : decode cX11_goStopped 36 = .ok (.getfield 324, 3) := by decide +kernel
theorem dX11_goStopped_39 : decode cX11_goStopped 39 = .ok (.iload_n 3, 1) := by decide +kernel
theorem dX11_goStopped_40 : decode cX11_goStopped 40 = .ok (.iconst 0, 1) := by decide +kernel
theorem dX11_goStopped_41 : decode cX11_goStopped 41 = .ok (.iastore, 1) := by decide +kernel
theorem dX11_goStopped_42 : decode cX11_goStopped 42 = .ok (.iinc 3 1, 3) := by decide +kernel
theorem dX11_goStopped_45 : decode cX11_goStopped 45 = .ok (.goto (-32), 3) := by decide +kernel
theorem dX11_goStopped_48 : decode cX11_goStopped 48 = .ok (.aload_n 0, 1) := by decide +kernel
theorem dX11_goStopped_49 : decode cX11_goStopped 49 = .ok (.getfield 38, 3) := by decide +kernel
theorem dX11_goStopped_52 : decode cX11_goStopped 52 = .ok (.iload_n 2, 1) := by decide +kernel
theorem dX11_goStopped_53 : decode cX11_goStopped 53 = .ok (.invokevirtual 300, 3) := by decide +kernel
theorem dX11_goStopped_56 : decode cX11_goStopped 56 = .ok (.return_, 1) := by decide +kernel
theorem bkX11_goStopped_0 {b : Int} {mem : qm} {Q : Int → qm → Prop}
    {w v : Int}
    {P1 : Int → qm → Prop}
    (l1 : q_Ev yX1_start cX1_start 2 none 2 0 0 [(2, 26), (2, 5)] (q_sh0, q_rb b, mem) (qK (q_rb b) (P1)))
    (l2 : ∀ (r1 : Int), ∀ (m1 : qm), P1 r1 m1 → q_in32 r1 → q_At yX11_goStopped cX11_goStopped 4 none 4 0 0 (qK (q_rb b) Q) 13 [(2, 0), (0, w), (0, v), (0, 0)] [] (q_sh0, q_rb b, m1)) :
    q_At yX11_goStopped cX11_goStopped 4 none 4 0 0 (qK (q_rb b) Q) 0 [(2, 0), (0, w), (0, v), (4, 0)] [] (q_sh0, q_rb b, mem) := by
  refine q_aload_n dX11_goStopped_0 rfl rfl ?_
  refine q_getR (ci := 11) (k := 4) dX11_goStopped_1 rfl (by decide) rfl tw353 (by decide) qs0 qw0_4 (by decide) ?_
  refine q_aload_n dX11_goStopped_4 rfl rfl ?_
  refine q_getR (ci := 11) (k := 1) dX11_goStopped_5 rfl (by decide) rfl tw350 (by decide) qs0 qw0_1 (by decide) ?_
  refine qx_invV (ci := 1) [(2, 5)] [(2, 5), (2, 26)] rfl qM_X1_start dX11_goStopped_8 tw767 rfl qs26 rfl rfl rfl rfl (l1) (fun r1 m1 p1 q1 => ?_)
  refine qx_iconst dX11_goStopped_11 rfl rfl ?_
  refine qx_istore_n (L' := [(2, 0), (0, w), (0, v), (0, 0)]) dX11_goStopped_12 rfl rfl rfl rfl ?_
  exact l2 r1 m1 p1 q1
theorem bkX11_goStopped_13 {b : Int} {mem : qm} {Q : Int → qm → Prop}
    {w v v3 : Int}
    {P2 : Int → qm → Prop}
    (l1 : (mem 1 3) ≤ v3 → q_Ev yX1_strikeAll cX1_strikeAll 3 none 3 0 0 [(2, 26), (0, v)] (q_sh0, q_rb b, mem) (qK (q_rb b) (P2)))
    (l2 : (mem 1 3) ≤ v3 → ∀ (r2 : Int), ∀ (m2 : qm), P2 r2 m2 → q_in32 r2 → Q 0 m2)
    (o3 : v3 < (mem 1 3) → (q_oiand (q_oishr w v3) 1) = 0 → q_in32 (v3 + 1))
    (l4 : v3 < (mem 1 3) → (q_oiand (q_oishr w v3) 1) = 0 → q_At yX11_goStopped cX11_goStopped 4 none 4 0 0 (qK (q_rb b) Q) 13 [(2, 0), (0, w), (0, v), (0, (v3 + 1))] [] (q_sh0, q_rb b, mem))
    (o5 : v3 < (mem 1 3) → (q_oiand (q_oishr w v3) 1) ≠ 0 → (0 ≤ v3 ∧ v3 < 9) ∧ q_in32 (v3 + 1))
    (l6 : v3 < (mem 1 3) → (q_oiand (q_oishr w v3) 1) ≠ 0 → q_At yX11_goStopped cX11_goStopped 4 none 4 0 0 (qK (q_rb b) Q) 13 [(2, 0), (0, w), (0, v), (0, (v3 + 1))] [] (q_sh0, q_rb b, (q_up mem 28 v3 0))) :
    q_At yX11_goStopped cX11_goStopped 4 none 4 0 0 (qK (q_rb b) Q) 13 [(2, 0), (0, w), (0, v), (0, v3)] [] (q_sh0, q_rb b, mem) := by
  refine q_iload_n dX11_goStopped_13 rfl rfl ?_
  refine q_aload_n dX11_goStopped_14 rfl rfl ?_
  refine q_getR (ci := 11) (k := 0) dX11_goStopped_15 rfl (by decide) rfl tw349 (by decide) qs0 qw0_0 (by decide) ?_
  refine qx_getI (ci := 9) (k := 3) (v := (mem 1 3)) dX11_goStopped_18 rfl rfl rfl tw53 rfl qs1 rfl ?_
  refine qx_icmp_ge (tgt := 48) dX11_goStopped_21 (by decide) (fun c1 => ?_) (fun c1 => ?_)
  · skip
    refine q_aload_n dX11_goStopped_48 rfl rfl ?_
    refine q_getR (ci := 11) (k := 4) dX11_goStopped_49 rfl (by decide) rfl tw353 (by decide) qs0 qw0_4 (by decide) ?_
    refine q_iload_n dX11_goStopped_52 rfl rfl ?_
    refine qx_invV (ci := 1) [(0, v)] [(0, v), (2, 26)] rfl qM_X1_strikeAll dX11_goStopped_53 tw804 rfl qs26 rfl rfl rfl rfl (l1 c1) (fun r2 m2 p2 q2 => ?_)
    exact q_vret dX11_goStopped_56 (qK_i (l2 c1 r2 m2 p2 q2))
  · skip
    refine q_iload_n dX11_goStopped_24 rfl rfl ?_
    refine q_iload_n dX11_goStopped_25 rfl rfl ?_
    refine q_ishr dX11_goStopped_26 ?_
    refine qx_iconst dX11_goStopped_27 rfl rfl ?_
    refine q_iand dX11_goStopped_28 ?_
    refine qx_if_eq (tgt := 42) dX11_goStopped_29 (by decide) (fun c3 => ?_) (fun c3 => ?_)
    · skip
      refine qx_iinc (L' := [(2, 0), (0, w), (0, v), (0, (v3 + 1))]) dX11_goStopped_42 rfl rfl rfl (o3 c1 c3) rfl ?_
      refine q_goto (tgt := 13) dX11_goStopped_45 (by decide) ?_
      exact l4 c1 c3
    · skip
      refine q_aload_n dX11_goStopped_32 rfl rfl ?_
      refine q_getR (ci := 11) (k := 4) dX11_goStopped_33 rfl (by decide) rfl tw353 (by decide) qs0 qw0_4 (by decide) ?_
      refine q_getR (ci := 1) (k := 2) dX11_goStopped_36 rfl (by decide) rfl tw155 (by decide) qs26 qw26_2 (by decide) ?_
      refine q_iload_n dX11_goStopped_39 rfl rfl ?_
      refine qx_iconst dX11_goStopped_40 rfl rfl ?_
      refine q_iast dX11_goStopped_41 qs28 ((o5 c1 c3).1).1 ((o5 c1 c3).1).2 ?_
      refine qx_iinc (L' := [(2, 0), (0, w), (0, v), (0, (v3 + 1))]) dX11_goStopped_42 rfl rfl rfl (o5 c1 c3).2 rfl ?_
      refine q_goto (tgt := 13) dX11_goStopped_45 (by decide) ?_
      exact l6 c1 c3
theorem dX11_worthStopping_0 : decode cX11_worthStopping 0 = .ok (.iconst 0, 1) := by decide +kernel
theorem dX11_worthStopping_1 : decode cX11_worthStopping 1 = .ok (.istore_n 2, 1) := by decide +kernel
theorem dX11_worthStopping_2 : decode cX11_worthStopping 2 = .ok (.iconst 0, 1) := by decide +kernel
theorem dX11_worthStopping_3 : decode cX11_worthStopping 3 = .ok (.istore_n 3, 1) := by decide +kernel
theorem dX11_worthStopping_4 : decode cX11_worthStopping 4 = .ok (.iload_n 3, 1) := by decide +kernel
theorem dX11_worthStopping_5 : decode cX11_worthStopping 5 = .ok (.aload_n 0, 1) := by decide +kernel
theorem dX11_worthStopping_6 : decode cX11_worthStopping 6 = .ok (.getfield 10, 3) := by decide +kernel
theorem dX11_worthStopping_9 : decode cX11_worthStopping 9 = .ok (.getfield 173, 3) := by decide +kernel
theorem dX11_worthStopping_12 : decode cX11_worthStopping 12 = .ok (.if_icmp .ge 40, 3) := by decide +kernel
theorem dX11_worthStopping_15 : decode cX11_worthStopping 15 = .ok (.aload_n 0, 1) := by decide +kernel
theorem dX11_worthStopping_16 : decode cX11_worthStopping 16 = .ok (.getfield 19, 3) := by decide +kernel
theorem dX11_worthStopping_19 : decode cX11_worthStopping 19 = .ok (.getfield 148, 3) := by decide +kernel
theorem dX11_worthStopping_22 : decode cX11_worthStopping 22 = .ok (.iload_n 3, 1) := by decide +kernel
theorem dX11_worthStopping_23 : decode cX11_worthStopping 23 = .ok (.iaload, 1) := by decide +kernel
theorem dX11_worthStopping_24 : decode cX11_worthStopping 24 = .ok (.ifCond .le 22, 3) := by decide +kernel
theorem dX11_worthStopping_27 : decode cX11_worthStopping 27 = .ok (.aload_n 0, 1) := by decide +kernel
theorem dX11_worthStopping_28 : decode cX11_worthStopping 28 = .ok (.getfield 19, 3) := by decide +kernel
theorem dX11_worthStopping_31 : decode cX11_worthStopping 31 = .ok (.getfield 160, 3) := by decide +kernel
theorem dX11_worthStopping_34 : decode cX11_worthStopping 34 = .ok (.iload_n 3, 1) := by decide +kernel
theorem dX11_worthStopping_35 : decode cX11_worthStopping 35 = .ok (.iaload, 1) := by decide +kernel
theorem dX11_worthStopping_36 : decode cX11_worthStopping 36 = .ok (.iload_n 1, 1) := by decide +kernel
theorem dX11_worthStopping_37 : decode cX11_worthStopping 37 = .ok (.if_icmp .ge 9, 3) := by decide +kernel
theorem dX11_worthStopping_40 : decode cX11_worthStopping 40 = .ok (.iload_n 2, 1) := by decide +kernel
theorem dX11_worthStopping_41 : decode cX11_worthStopping 41 = .ok (.iconst 1, 1) := by decide +kernel
theorem dX11_worthStopping_42 : decode cX11_worthStopping 42 = .ok (.iload_n 3, 1) := by decide +kernel
theorem dX11_worthStopping_43 : decode cX11_worthStopping 43 = .ok (.ishl, 1) := by decide +kernel
theorem dX11_worthStopping_44 : decode cX11_worthStopping 44 = .ok (.ior, 1) := by decide +kernel
theorem dX11_worthStopping_45 : decode cX11_worthStopping 45 = .ok (.istore_n 2, 1) := by decide +kernel
theorem dX11_worthStopping_46 : decode cX11_worthStopping 46 = .ok (.iinc 3 1, 3) := by decide +kernel
theorem dX11_worthStopping_49 : decode cX11_worthStopping 49 = .ok (.goto (-45), 3) := by decide +kernel
theorem dX11_worthStopping_52 : decode cX11_worthStopping 52 = .ok (.iload_n 2, 1) := by decide +kernel
theorem dX11_worthStopping_53 : decode cX11_worthStopping 53 = .ok (.ireturn, 1) := by decide +kernel
theorem bkX11_worthStopping_0 {b : Int} {mem : qm} {Q : Int → qm → Prop}
    {v : Int}
    (l1 : q_At yX11_worthStopping cX11_worthStopping 4 (some .int) 1 0 0 (qK (q_rb b) Q) 4 [(2, 0), (0, v), (0, 0), (0, 0)] [] (q_sh0, q_rb b, mem)) :
    q_At yX11_worthStopping cX11_worthStopping 4 (some .int) 1 0 0 (qK (q_rb b) Q) 0 [(2, 0), (0, v), (4, 0), (4, 0)] [] (q_sh0, q_rb b, mem) := by
  refine qx_iconst dX11_worthStopping_0 rfl rfl ?_
  refine qx_istore_n (L' := [(2, 0), (0, v), (0, 0), (4, 0)]) dX11_worthStopping_1 rfl rfl rfl rfl ?_
  refine qx_iconst dX11_worthStopping_2 rfl rfl ?_
  refine qx_istore_n (L' := [(2, 0), (0, v), (0, 0), (0, 0)]) dX11_worthStopping_3 rfl rfl rfl rfl ?_
  exact l1
theorem bkX11_worthStopping_4 {b : Int} {mem : qm} {Q : Int → qm → Prop}
    {v v2 v3 : Int}
    (l1 : (mem 1 3) ≤ v3 → Q v2 mem)
    (o2 : v3 < (mem 1 3) → (0 ≤ v3 ∧ v3 < 9))
    (o3 : v3 < (mem 1 3) → (mem 10 v3) ≤ 0 → q_in32 (v3 + 1))
    (l4 : v3 < (mem 1 3) → (mem 10 v3) ≤ 0 → q_At yX11_worthStopping cX11_worthStopping 4 (some .int) 1 0 0 (qK (q_rb b) Q) 4 [(2, 0), (0, v), (0, v2), (0, (v3 + 1))] [] (q_sh0, q_rb b, mem))
    (o5 : v3 < (mem 1 3) → 0 < (mem 10 v3) → v ≤ (mem 9 v3) → q_in32 (v3 + 1))
    (l6 : v3 < (mem 1 3) → 0 < (mem 10 v3) → v ≤ (mem 9 v3) → q_At yX11_worthStopping cX11_worthStopping 4 (some .int) 1 0 0 (qK (q_rb b) Q) 4 [(2, 0), (0, v), (0, v2), (0, (v3 + 1))] [] (q_sh0, q_rb b, mem))
    (o7 : v3 < (mem 1 3) → 0 < (mem 10 v3) → (mem 9 v3) < v → q_in32 (v3 + 1))
    (l8 : v3 < (mem 1 3) → 0 < (mem 10 v3) → (mem 9 v3) < v → q_At yX11_worthStopping cX11_worthStopping 4 (some .int) 1 0 0 (qK (q_rb b) Q) 4 [(2, 0), (0, v), (0, (q_oior v2 (q_oishl 1 v3))), (0, (v3 + 1))] [] (q_sh0, q_rb b, mem)) :
    q_At yX11_worthStopping cX11_worthStopping 4 (some .int) 1 0 0 (qK (q_rb b) Q) 4 [(2, 0), (0, v), (0, v2), (0, v3)] [] (q_sh0, q_rb b, mem) := by
  refine q_iload_n dX11_worthStopping_4 rfl rfl ?_
  refine q_aload_n dX11_worthStopping_5 rfl rfl ?_
  refine q_getR (ci := 11) (k := 0) dX11_worthStopping_6 rfl (by decide) rfl tw349 (by decide) qs0 qw0_0 (by decide) ?_
  refine qx_getI (ci := 9) (k := 3) (v := (mem 1 3)) dX11_worthStopping_9 rfl rfl rfl tw53 rfl qs1 rfl ?_
  refine qx_icmp_ge (tgt := 52) dX11_worthStopping_12 (by decide) (fun c1 => ?_) (fun c1 => ?_)
  · skip
    refine q_iload_n dX11_worthStopping_52 rfl rfl ?_
    exact q_iret dX11_worthStopping_53 (qK_i (l1 c1))
  · skip
    refine q_aload_n dX11_worthStopping_15 rfl rfl ?_
    refine q_getR (ci := 11) (k := 1) dX11_worthStopping_16 rfl (by decide) rfl tw350 (by decide) qs0 qw0_1 (by decide) ?_
    refine q_getR (ci := 7) (k := 4) dX11_worthStopping_19 rfl (by decide) rfl tw87 (by decide) qs5 qw5_4 (by decide) ?_
    refine q_iload_n dX11_worthStopping_22 rfl rfl ?_
    refine qx_iald (v := (mem 10 v3)) dX11_worthStopping_23 qs10 (o2 c1) rfl ?_
    refine qx_if_le (tgt := 46) dX11_worthStopping_24 (by decide) (fun c2 => ?_) (fun c2 => ?_)
    · skip
      refine qx_iinc (L' := [(2, 0), (0, v), (0, v2), (0, (v3 + 1))]) dX11_worthStopping_46 rfl rfl rfl (o3 c1 c2) rfl ?_
      refine q_goto (tgt := 4) dX11_worthStopping_49 (by decide) ?_
      exact l4 c1 c2
    · skip
      refine q_aload_n dX11_worthStopping_27 rfl rfl ?_
      refine q_getR (ci := 11) (k := 1) dX11_worthStopping_28 rfl (by decide) rfl tw350 (by decide) qs0 qw0_1 (by decide) ?_
      refine q_getR (ci := 7) (k := 3) dX11_worthStopping_31 rfl (by decide) rfl tw82 (by decide) qs5 qw5_3 (by decide) ?_
      refine q_iload_n dX11_worthStopping_34 rfl rfl ?_
      refine qx_iald (v := (mem 9 v3)) dX11_worthStopping_35 qs9 (o2 c1) rfl ?_
      refine q_iload_n dX11_worthStopping_36 rfl rfl ?_
      refine qx_icmp_ge (tgt := 46) dX11_worthStopping_37 (by decide) (fun c3 => ?_) (fun c3 => ?_)
      · skip
        refine qx_iinc (L' := [(2, 0), (0, v), (0, v2), (0, (v3 + 1))]) dX11_worthStopping_46 rfl rfl rfl (o5 c1 c2 c3) rfl ?_
        refine q_goto (tgt := 4) dX11_worthStopping_49 (by decide) ?_
        exact l6 c1 c2 c3
      · skip
        refine q_iload_n dX11_worthStopping_40 rfl rfl ?_
        refine qx_iconst dX11_worthStopping_41 rfl rfl ?_
        refine q_iload_n dX11_worthStopping_42 rfl rfl ?_
        refine q_ishl dX11_worthStopping_43 ?_
        refine q_ior dX11_worthStopping_44 ?_
        refine qx_istore_n (L' := [(2, 0), (0, v), (0, (q_oior v2 (q_oishl 1 v3))), (0, v3)]) dX11_worthStopping_45 rfl rfl rfl rfl ?_
        refine qx_iinc (L' := [(2, 0), (0, v), (0, (q_oior v2 (q_oishl 1 v3))), (0, (v3 + 1))]) dX11_worthStopping_46 rfl rfl rfl (o7 c1 c2 c3) rfl ?_
        refine q_goto (tgt := 4) dX11_worthStopping_49 (by decide) ?_
        exact l8 c1 c2 c3
theorem dX11_isChoice_0 : decode cX11_isChoice 0 = .ok (.iload_n 0, 1) := by decide +kernel
theorem dX11_isChoice_1 : decode cX11_isChoice 1 = .ok (.iload_n 1, 1) := by decide +kernel
theorem dX11_isChoice_2 : decode cX11_isChoice 2 = .ok (.iconst (-1), 1) := by decide +kernel
theorem dX11_isChoice_3 : decode cX11_isChoice 3 = .ok (.ixor, 1) := by decide +kernel
theorem dX11_isChoice_4 : decode cX11_isChoice 4 = .ok (.iand, 1) := by decide +kernel
theorem dX11_isChoice_5 : decode cX11_isChoice 5 = .ok (.ifCond .ne 15, 3) := by decide +kernel
theorem dX11_isChoice_8 : decode cX11_isChoice 8 = .ok (.iload_n 0, 1) := by decide +kernel
theorem dX11_isChoice_9 : decode cX11_isChoice 9 = .ok (.invokestatic 315, 3) := by decide +kernel
theorem dX11_isChoice_12 : decode cX11_isChoice 12 = .ok (.iload_n 2, 1) := by decide +kernel
theorem dX11_isChoice_13 : decode cX11_isChoice 13 = .ok (.if_icmp .ne 7, 3) := by decide +kernel
theorem dX11_isChoice_16 : decode cX11_isChoice 16 = .ok (.iconst 1, 1) := by decide +kernel
theorem dX11_isChoice_17 : decode cX11_isChoice 17 = .ok (.goto 4, 3) := by decide +kernel
theorem dX11_isChoice_20 : decode cX11_isChoice 20 = .ok (.iconst 0, 1) := by decide +kernel
theorem dX11_isChoice_21 : decode cX11_isChoice 21 = .ok (.ireturn, 1) := by decide +kernel
theorem bkX11_isChoice_0 {b : Int} {mem : qm} {Q : Int → qm → Prop}
    {x y z : Int}
    (l1 : (q_oiand x (q_oixor y (-1))) ≠ 0 → Q 0 mem)
    {P2 : Int → qm → Prop}
    (l2 : (q_oiand x (q_oixor y (-1))) = 0 → q_Ev yJ6_bitCount_0f7a4 cJ6_bitCount_0f7a4 1 (some .int) 1 0 0 [(0, x)] (q_sh0, q_rb b, mem) (qK (q_rb b) (P2)))
    (l3 : (q_oiand x (q_oixor y (-1))) = 0 → ∀ (r2 : Int), ∀ (m2 : qm), P2 r2 m2 → q_in32 r2 → r2 ≠ z → Q 0 m2)
    (l4 : (q_oiand x (q_oixor y (-1))) = 0 → ∀ (r2 : Int), ∀ (m2 : qm), P2 r2 m2 → q_in32 r2 → r2 = z → Q 1 m2) :
    q_At yX11_isChoice cX11_isChoice 3 (some .boolean) 2 0 0 (qK (q_rb b) Q) 0 [(0, x), (0, y), (0, z)] [] (q_sh0, q_rb b, mem) := by
  refine q_iload_n dX11_isChoice_0 rfl rfl ?_
  refine q_iload_n dX11_isChoice_1 rfl rfl ?_
  refine qx_iconst dX11_isChoice_2 rfl rfl ?_
  refine q_ixor dX11_isChoice_3 ?_
  refine q_iand dX11_isChoice_4 ?_
  refine qx_if_ne (tgt := 20) dX11_isChoice_5 (by decide) (fun c1 => ?_) (fun c1 => ?_)
  · skip
    refine qx_iconst dX11_isChoice_20 rfl rfl ?_
    exact q_zret dX11_isChoice_21 (by decide) (qK_i (l1 c1))
  · skip
    refine q_iload_n dX11_isChoice_8 rfl rfl ?_
    refine qx_invS [(0, x)] [(0, x)] rfl qM_J6_bitCount_0f7a4 dX11_isChoice_9 tw844 rfl rfl rfl rfl (l2 c1) (fun r2 m2 p2 q2 => ?_)
    refine q_iload_n dX11_isChoice_12 rfl rfl ?_
    refine qx_icmp_ne (tgt := 20) dX11_isChoice_13 (by decide) (fun c3 => ?_) (fun c3 => ?_)
    · skip
      refine qx_iconst dX11_isChoice_20 rfl rfl ?_
      exact q_zret dX11_isChoice_21 (by decide) (qK_i (l3 c1 r2 m2 p2 q2 c3))
    · skip
      refine qx_iconst dX11_isChoice_16 rfl rfl ?_
      refine q_goto (tgt := 21) dX11_isChoice_17 (by decide) ?_
      exact q_zret dX11_isChoice_21 (by decide) (qK_i (l4 c1 r2 m2 p2 q2 c3))
theorem dX11_stops_0 : decode cX11_stops 0 = .ok (.aload_n 0, 1) := by decide +kernel
theorem dX11_stops_1 : decode cX11_stops 1 = .ok (.iload_n 1, 1) := by decide +kernel
theorem dX11_stops_2 : decode cX11_stops 2 = .ok (.invokevirtual 131, 3) := by decide +kernel
theorem dX11_stops_5 : decode cX11_stops 5 = .ok (.ifCond .eq 17, 3) := by decide +kernel
theorem dX11_stops_8 : decode cX11_stops 8 = .ok (.iload_n 2, 1) := by decide +kernel
theorem dX11_stops_9 : decode cX11_stops 9 = .ok (.invokestatic 306, 3) := by decide +kernel
theorem dX11_stops_12 : decode cX11_stops 12 = .ok (.ifCond .eq 10, 3) := by decide +kernel
theorem dX11_stops_15 : decode cX11_stops 15 = .ok (.iload_n 3, 1) := by decide +kernel
theorem dX11_stops_16 : decode cX11_stops 16 = .ok (.invokestatic 214, 3) := by decide +kernel
theorem dX11_stops_19 : decode cX11_stops 19 = .ok (.ifCond .ne 5, 3) := by decide +kernel
theorem dX11_stops_22 : decode cX11_stops 22 = .ok (.iconst (-1), 1) := by decide +kernel
theorem dX11_stops_23 : decode cX11_stops 23 = .ok (.ireturn, 1) := by decide +kernel
theorem dX11_stops_24 : decode cX11_stops 24 = .ok (.aload_n 0, 1) := by decide +kernel
theorem dX11_stops_25 : decode cX11_stops 25 = .ok (.iconst 0, 1) := by decide +kernel
theorem dX11_stops_26 : decode cX11_stops 26 = .ok (.iload_n 3, 1) := by decide +kernel
theorem dX11_stops_27 : decode cX11_stops 27 = .ok (.invokevirtual 309, 3) := by decide +kernel
theorem dX11_stops_30 : decode cX11_stops 30 = .ok (.aload_n 0, 1) := by decide +kernel
theorem dX11_stops_31 : decode cX11_stops 31 = .ok (.getfield 38, 3) := by decide +kernel
theorem dX11_stops_34 : decode cX11_stops 34 = .ok (.getfield 299, 3) := by decide +kernel
theorem dX11_stops_37 : decode cX11_stops 37 = .ok (.iload_n 1, 1) := by decide +kernel
theorem dX11_stops_38 : decode cX11_stops 38 = .ok (.iaload, 1) := by decide +kernel
theorem dX11_stops_39 : decode cX11_stops 39 = .ok (.iload_n 2, 1) := by decide +kernel
theorem dX11_stops_40 : decode cX11_stops 40 = .ok (.if_icmp .lt 7, 3) := by decide +kernel
theorem dX11_stops_43 : decode cX11_stops 43 = .ok (.iconst 0, 1) := by decide +kernel
theorem dX11_stops_44 : decode cX11_stops 44 = .ok (.goto 12, 3) := by decide +kernel
theorem dX11_stops_47 : decode cX11_stops 47 = .ok (.aload_n 0, 1) := by decide +kernel
theorem dX11_stops_48 : decode cX11_stops 48 = .ok (.iload_n 3, 1) := by decide +kernel
theorem dX11_stops_49 : decode cX11_stops 49 = .ok (.invokevirtual 312, 3) := by decide +kernel
theorem dX11_stops_52 : decode cX11_stops 52 = .ok (.iconst 1, 1) := by decide +kernel
theorem dX11_stops_53 : decode cX11_stops 53 = .ok (.iload_n 1, 1) := by decide +kernel
theorem dX11_stops_54 : decode cX11_stops 54 = .ok (.ishl, 1) := by decide +kernel
theorem dX11_stops_55 : decode cX11_stops 55 = .ok (.iand, 1) := by decide +kernel
theorem dX11_stops_56 : decode cX11_stops 56 = .ok (.istore 4, 2) := by decide +kernel
theorem dX11_stops_58 : decode cX11_stops 58 = .ok (.iload 4, 2) := by decide +kernel
theorem dX11_stops_60 : decode cX11_stops 60 = .ok (.ifCond .eq 10, 3) := by decide +kernel
theorem dX11_stops_63 : decode cX11_stops 63 = .ok (.aload_n 0, 1) := by decide +kernel
theorem dX11_stops_64 : decode cX11_stops 64 = .ok (.iload 4, 2) := by decide +kernel
theorem dX11_stops_66 : decode cX11_stops 66 = .ok (.iload_n 3, 1) := by decide +kernel
theorem dX11_stops_67 : decode cX11_stops 67 = .ok (.invokevirtual 309, 3) := by decide +kernel
theorem dX11_stops_70 : decode cX11_stops 70 = .ok (.aload_n 0, 1) := by decide +kernel
theorem dX11_stops_71 : decode cX11_stops 71 = .ok (.getfield 38, 3) := by decide +kernel
theorem dX11_stops_74 : decode cX11_stops 74 = .ok (.getfield 299, 3) := by decide +kernel
theorem dX11_stops_77 : decode cX11_stops 77 = .ok (.iload_n 1, 1) := by decide +kernel
theorem dX11_stops_78 : decode cX11_stops 78 = .ok (.iaload, 1) := by decide +kernel
theorem dX11_stops_79 : decode cX11_stops 79 = .ok (.iload_n 2, 1) := by decide +kernel
theorem dX11_stops_80 : decode cX11_stops 80 = .ok (.if_icmp .ge 6, 3) := by decide +kernel
theorem dX11_stops_83 : decode cX11_stops 83 = .ok (.bipush (-2), 2) := by decide +kernel
theorem dX11_stops_85 : decode cX11_stops 85 = .ok (.ireturn, 1) := by decide +kernel
theorem dX11_stops_86 : decode cX11_stops 86 = .ok (.aload_n 0, 1) := by decide +kernel
theorem dX11_stops_87 : decode cX11_stops 87 = .ok (.invokevirtual 223, 3) := by decide +kernel
theorem dX11_stops_90 : decode cX11_stops 90 = .ok (.aload_n 0, 1) := by decide +kernel
theorem dX11_stops_91 : decode cX11_stops 91 = .ok (.iload 4, 2) := by decide +kernel
theorem dX11_stops_93 : decode cX11_stops 93 = .ok (.invokevirtual 229, 3) := by decide +kernel
theorem dX11_stops_96 : decode cX11_stops 96 = .ok (.aload_n 0, 1) := by decide +kernel
theorem dX11_stops_97 : decode cX11_stops 97 = .ok (.aload_n 0, 1) := by decide +kernel
theorem dX11_stops_98 : decode cX11_stops 98 = .ok (.getfield 38, 3) := by decide +kernel
theorem dX11_stops_101 : decode cX11_stops 101 = .ok (.getfield 299, 3) := by decide +kernel
theorem dX11_stops_104 : decode cX11_stops 104 = .ok (.iload_n 1, 1) := by decide +kernel
theorem dX11_stops_105 : decode cX11_stops 105 = .ok (.iaload, 1) := by decide +kernel
theorem dX11_stops_106 : decode cX11_stops 106 = .ok (.invokevirtual 229, 3) := by decide +kernel
theorem dX11_stops_109 : decode cX11_stops 109 = .ok (.iload 4, 2) := by decide +kernel
theorem dX11_stops_111 : decode cX11_stops 111 = .ok (.ifCond .ne 7, 3) := by decide +kernel
theorem dX11_stops_114 : decode cX11_stops 114 = .ok (.iconst 0, 1) := by decide +kernel
theorem dX11_stops_115 : decode cX11_stops 115 = .ok (.goto 4, 3) := by decide +kernel
theorem dX11_stops_118 : decode cX11_stops 118 = .ok (.iconst 1, 1) := by decide +kernel
theorem dX11_stops_119 : decode cX11_stops 119 = .ok (.ireturn, 1) := by decide +kernel
theorem bkX11_stops_0 {b : Int} {mem : qm} {Q : Int → qm → Prop}
    {j w v : Int}
    {P4 : Int → qm → Prop}
    (l1 : (0 ≤ j ∧ j < (mem 1 3)) → (0 ≤ w ∧ w ≤ 60) → (0 ≤ v ∧ v ≤ 200) → q_Ev yX11_goStopped cX11_goStopped 4 none 4 0 0 [(2, 0), (0, 0), (0, v)] (q_sh0, q_rb b, mem) (qK (q_rb b) (P4)))
    (o2 : (0 ≤ j ∧ j < (mem 1 3)) → (0 ≤ w ∧ w ≤ 60) → (0 ≤ v ∧ v ≤ 200) → ∀ (r4 : Int), ∀ (m4 : qm), P4 r4 m4 → q_in32 r4 → (0 ≤ j ∧ j < 9))
    {P6 : Int → qm → Int → qm → Prop}
    (l3 : (0 ≤ j ∧ j < (mem 1 3)) → (0 ≤ w ∧ w ≤ 60) → (0 ≤ v ∧ v ≤ 200) → ∀ (r4 : Int), ∀ (m4 : qm), P4 r4 m4 → q_in32 r4 → (m4 27 j) < w → q_Ev yX11_worthStopping cX11_worthStopping 4 (some .int) 1 0 0 [(2, 0), (0, v)] (q_sh0, q_rb b, m4) (qK (q_rb b) (P6 r4 m4)))
    (o4 : (0 ≤ j ∧ j < (mem 1 3)) → (0 ≤ w ∧ w ≤ 60) → (0 ≤ v ∧ v ≤ 200) → ∀ (r4 : Int), ∀ (m4 : qm), P4 r4 m4 → q_in32 r4 → (m4 27 j) < w → ∀ (r6 : Int), ∀ (m6 : qm), P6 r4 m4 r6 m6 → q_in32 r6 → (q_oiand r6 (q_oishl 1 j)) = 0 → w ≤ (m6 27 j) → (0 ≤ (0 : Int) ∧ (0 : Int) < 10) ∧ (0 ≤ ((0 : Int) + 1) ∧ ((0 : Int) + 1) < 10))
    (l5 : (0 ≤ j ∧ j < (mem 1 3)) → (0 ≤ w ∧ w ≤ 60) → (0 ≤ v ∧ v ≤ 200) → ∀ (r4 : Int), ∀ (m4 : qm), P4 r4 m4 → q_in32 r4 → (m4 27 j) < w → ∀ (r6 : Int), ∀ (m6 : qm), P6 r4 m4 r6 m6 → q_in32 r6 → (q_oiand r6 (q_oishl 1 j)) = 0 → w ≤ (m6 27 j) → (q_oiand r6 (q_oishl 1 j)) ≠ 0 → Q 1 (q_up (q_up (q_up (q_up (q_up m6 0 16 0) 169 (0 : Int) (q_oiand r6 (q_oishl 1 j))) 0 16 ((0 : Int) + 1)) 169 ((0 : Int) + 1) (m6 27 j)) 0 16 (((0 : Int) + 1) + 1)))
    (l6 : (0 ≤ j ∧ j < (mem 1 3)) → (0 ≤ w ∧ w ≤ 60) → (0 ≤ v ∧ v ≤ 200) → ∀ (r4 : Int), ∀ (m4 : qm), P4 r4 m4 → q_in32 r4 → (m4 27 j) < w → ∀ (r6 : Int), ∀ (m6 : qm), P6 r4 m4 r6 m6 → q_in32 r6 → (q_oiand r6 (q_oishl 1 j)) = 0 → w ≤ (m6 27 j) → (q_oiand r6 (q_oishl 1 j)) = 0 → Q 0 (q_up (q_up (q_up (q_up (q_up m6 0 16 0) 169 (0 : Int) (q_oiand r6 (q_oishl 1 j))) 0 16 ((0 : Int) + 1)) 169 ((0 : Int) + 1) (m6 27 j)) 0 16 (((0 : Int) + 1) + 1)))
    (l7 : (0 ≤ j ∧ j < (mem 1 3)) → (0 ≤ w ∧ w ≤ 60) → (0 ≤ v ∧ v ≤ 200) → ∀ (r4 : Int), ∀ (m4 : qm), P4 r4 m4 → q_in32 r4 → (m4 27 j) < w → ∀ (r6 : Int), ∀ (m6 : qm), P6 r4 m4 r6 m6 → q_in32 r6 → (q_oiand r6 (q_oishl 1 j)) = 0 → (m6 27 j) < w → Q (-2) m6)
    {P13 : Int → qm → Int → qm → Int → qm → Prop}
    (l8 : (0 ≤ j ∧ j < (mem 1 3)) → (0 ≤ w ∧ w ≤ 60) → (0 ≤ v ∧ v ≤ 200) → ∀ (r4 : Int), ∀ (m4 : qm), P4 r4 m4 → q_in32 r4 → (m4 27 j) < w → ∀ (r6 : Int), ∀ (m6 : qm), P6 r4 m4 r6 m6 → q_in32 r6 → (q_oiand r6 (q_oishl 1 j)) ≠ 0 → q_Ev yX11_goStopped cX11_goStopped 4 none 4 0 0 [(2, 0), (0, (q_oiand r6 (q_oishl 1 j))), (0, v)] (q_sh0, q_rb b, m6) (qK (q_rb b) (P13 r4 m4 r6 m6)))
    (o9 : (0 ≤ j ∧ j < (mem 1 3)) → (0 ≤ w ∧ w ≤ 60) → (0 ≤ v ∧ v ≤ 200) → ∀ (r4 : Int), ∀ (m4 : qm), P4 r4 m4 → q_in32 r4 → (m4 27 j) < w → ∀ (r6 : Int), ∀ (m6 : qm), P6 r4 m4 r6 m6 → q_in32 r6 → (q_oiand r6 (q_oishl 1 j)) ≠ 0 → ∀ (r13 : Int), ∀ (m13 : qm), P13 r4 m4 r6 m6 r13 m13 → q_in32 r13 → w ≤ (m13 27 j) → (0 ≤ (0 : Int) ∧ (0 : Int) < 10) ∧ (0 ≤ ((0 : Int) + 1) ∧ ((0 : Int) + 1) < 10))
    (l10 : (0 ≤ j ∧ j < (mem 1 3)) → (0 ≤ w ∧ w ≤ 60) → (0 ≤ v ∧ v ≤ 200) → ∀ (r4 : Int), ∀ (m4 : qm), P4 r4 m4 → q_in32 r4 → (m4 27 j) < w → ∀ (r6 : Int), ∀ (m6 : qm), P6 r4 m4 r6 m6 → q_in32 r6 → (q_oiand r6 (q_oishl 1 j)) ≠ 0 → ∀ (r13 : Int), ∀ (m13 : qm), P13 r4 m4 r6 m6 r13 m13 → q_in32 r13 → w ≤ (m13 27 j) → (q_oiand r6 (q_oishl 1 j)) ≠ 0 → Q 1 (q_up (q_up (q_up (q_up (q_up m13 0 16 0) 169 (0 : Int) (q_oiand r6 (q_oishl 1 j))) 0 16 ((0 : Int) + 1)) 169 ((0 : Int) + 1) (m13 27 j)) 0 16 (((0 : Int) + 1) + 1)))
    (l11 : (0 ≤ j ∧ j < (mem 1 3)) → (0 ≤ w ∧ w ≤ 60) → (0 ≤ v ∧ v ≤ 200) → ∀ (r4 : Int), ∀ (m4 : qm), P4 r4 m4 → q_in32 r4 → (m4 27 j) < w → ∀ (r6 : Int), ∀ (m6 : qm), P6 r4 m4 r6 m6 → q_in32 r6 → (q_oiand r6 (q_oishl 1 j)) ≠ 0 → ∀ (r13 : Int), ∀ (m13 : qm), P13 r4 m4 r6 m6 r13 m13 → q_in32 r13 → w ≤ (m13 27 j) → (q_oiand r6 (q_oishl 1 j)) = 0 → Q 0 (q_up (q_up (q_up (q_up (q_up m13 0 16 0) 169 (0 : Int) (q_oiand r6 (q_oishl 1 j))) 0 16 ((0 : Int) + 1)) 169 ((0 : Int) + 1) (m13 27 j)) 0 16 (((0 : Int) + 1) + 1)))
    (l12 : (0 ≤ j ∧ j < (mem 1 3)) → (0 ≤ w ∧ w ≤ 60) → (0 ≤ v ∧ v ≤ 200) → ∀ (r4 : Int), ∀ (m4 : qm), P4 r4 m4 → q_in32 r4 → (m4 27 j) < w → ∀ (r6 : Int), ∀ (m6 : qm), P6 r4 m4 r6 m6 → q_in32 r6 → (q_oiand r6 (q_oishl 1 j)) ≠ 0 → ∀ (r13 : Int), ∀ (m13 : qm), P13 r4 m4 r6 m6 r13 m13 → q_in32 r13 → (m13 27 j) < w → Q (-2) m13)
    (o13 : (0 ≤ j ∧ j < (mem 1 3)) → (0 ≤ w ∧ w ≤ 60) → (0 ≤ v ∧ v ≤ 200) → ∀ (r4 : Int), ∀ (m4 : qm), P4 r4 m4 → q_in32 r4 → w ≤ (m4 27 j) → w ≤ (m4 27 j) → (0 ≤ (0 : Int) ∧ (0 : Int) < 10) ∧ (0 ≤ ((0 : Int) + 1) ∧ ((0 : Int) + 1) < 10))
    (l14 : (0 ≤ j ∧ j < (mem 1 3)) → (0 ≤ w ∧ w ≤ 60) → (0 ≤ v ∧ v ≤ 200) → ∀ (r4 : Int), ∀ (m4 : qm), P4 r4 m4 → q_in32 r4 → w ≤ (m4 27 j) → w ≤ (m4 27 j) → Q 0 (q_up (q_up (q_up (q_up (q_up m4 0 16 0) 169 (0 : Int) 0) 0 16 ((0 : Int) + 1)) 169 ((0 : Int) + 1) (m4 27 j)) 0 16 (((0 : Int) + 1) + 1)))
    (l15 : (0 ≤ j ∧ j < (mem 1 3)) → (0 ≤ w ∧ w ≤ 60) → (0 ≤ v ∧ v ≤ 200) → ∀ (r4 : Int), ∀ (m4 : qm), P4 r4 m4 → q_in32 r4 → w ≤ (m4 27 j) → (m4 27 j) < w → Q (-2) m4)
    (l16 : (0 ≤ j ∧ j < (mem 1 3)) → (0 ≤ w ∧ w ≤ 60) → ¬ (0 ≤ v ∧ v ≤ 200) → Q (-1) mem)
    (l17 : (0 ≤ j ∧ j < (mem 1 3)) → ¬ (0 ≤ w ∧ w ≤ 60) → Q (-1) mem)
    (l18 : ¬ (0 ≤ j ∧ j < (mem 1 3)) → Q (-1) mem) :
    q_At yX11_stops cX11_stops 5 (some .int) 5 0 0 (qK (q_rb b) Q) 0 [(2, 0), (0, j), (0, w), (0, v), (4, 0)] [] (q_sh0, q_rb b, mem) := by
  refine q_aload_n dX11_stops_0 rfl rfl ?_
  refine q_iload_n dX11_stops_1 rfl rfl ?_
  refine qx_invV (ci := 11) [(0, j)] [(0, j), (2, 0)] rfl qM_X11_isJar dX11_stops_2 tw576 rfl qs0 rfl rfl rfl rfl (spX11_isJar) (fun r1 m1 p1 q1 => ?_)
  obtain ⟨p1e, ⟨p1f, p1⟩ | ⟨p1f, p1⟩⟩ := p1
  · rw [p1e, p1f]
    refine qx_if_eq (tgt := 22) dX11_stops_5 (by decide) (fun z => absurd z (by decide)) (fun _ => ?_)
    refine q_iload_n dX11_stops_8 rfl rfl ?_
    refine qx_invS [(0, w)] [(0, w)] rfl qM_X11_isLevel dX11_stops_9 tw825 rfl rfl rfl rfl (spX11_isLevel) (fun r2 m2 p2 q2 => ?_)
    obtain ⟨p2e, ⟨p2f, p2⟩ | ⟨p2f, p2⟩⟩ := p2
    · rw [p2e, p2f]
      refine qx_if_eq (tgt := 22) dX11_stops_12 (by decide) (fun z => absurd z (by decide)) (fun _ => ?_)
      refine q_iload_n dX11_stops_15 rfl rfl ?_
      refine qx_invS [(0, v)] [(0, v)] rfl qM_X11_isSpan dX11_stops_16 tw668 rfl rfl rfl rfl (spX11_isSpan) (fun r3 m3 p3 q3 => ?_)
      obtain ⟨p3e, ⟨p3f, p3⟩ | ⟨p3f, p3⟩⟩ := p3
      · rw [p3e, p3f]
        refine qx_if_ne (tgt := 24) dX11_stops_19 (by decide) (fun _ => ?_) (fun z => absurd z (by decide))
        refine q_aload_n dX11_stops_24 rfl rfl ?_
        refine qx_iconst dX11_stops_25 rfl rfl ?_
        refine q_iload_n dX11_stops_26 rfl rfl ?_
        refine qx_invV (ci := 11) [(0, 0), (0, v)] [(0, v), (0, 0), (2, 0)] rfl qM_X11_goStopped dX11_stops_27 tw832 rfl qs0 rfl rfl rfl rfl (l1 p1 p2 p3) (fun r4 m4 p4 q4 => ?_)
        refine q_aload_n dX11_stops_30 rfl rfl ?_
        refine q_getR (ci := 11) (k := 4) dX11_stops_31 rfl (by decide) rfl tw353 (by decide) qs0 qw0_4 (by decide) ?_
        refine q_getR (ci := 1) (k := 1) dX11_stops_34 rfl (by decide) rfl tw153 (by decide) qs26 qw26_1 (by decide) ?_
        refine q_iload_n dX11_stops_37 rfl rfl ?_
        refine qx_iald (v := (m4 27 j)) dX11_stops_38 qs27 (o2 p1 p2 p3 r4 m4 p4 q4) rfl ?_
        refine q_iload_n dX11_stops_39 rfl rfl ?_
        refine qx_icmp_lt (tgt := 47) dX11_stops_40 (by decide) (fun c5 => ?_) (fun c5 => ?_)
        · skip
          refine q_aload_n dX11_stops_47 rfl rfl ?_
          refine q_iload_n dX11_stops_48 rfl rfl ?_
          refine qx_invV (ci := 11) [(0, v)] [(0, v), (2, 0)] rfl qM_X11_worthStopping dX11_stops_49 tw836 rfl qs0 rfl rfl rfl rfl (l3 p1 p2 p3 r4 m4 p4 q4 c5) (fun r6 m6 p6 q6 => ?_)
          refine qx_iconst dX11_stops_52 rfl rfl ?_
          refine q_iload_n dX11_stops_53 rfl rfl ?_
          refine q_ishl dX11_stops_54 ?_
          refine q_iand dX11_stops_55 ?_
          refine qx_istore (L' := [(2, 0), (0, j), (0, w), (0, v), (0, (q_oiand r6 (q_oishl 1 j)))]) dX11_stops_56 rfl rfl rfl ?_
          refine q_iload dX11_stops_58 rfl ?_
          refine qx_if_eq (tgt := 70) dX11_stops_60 (by decide) (fun c7 => ?_) (fun c7 => ?_)
          · skip
            refine q_aload_n dX11_stops_70 rfl rfl ?_
            refine q_getR (ci := 11) (k := 4) dX11_stops_71 rfl (by decide) rfl tw353 (by decide) qs0 qw0_4 (by decide) ?_
            refine q_getR (ci := 1) (k := 1) dX11_stops_74 rfl (by decide) rfl tw153 (by decide) qs26 qw26_1 (by decide) ?_
            refine q_iload_n dX11_stops_77 rfl rfl ?_
            refine qx_iald (v := (m6 27 j)) dX11_stops_78 qs27 (o2 p1 p2 p3 r4 m4 p4 q4) rfl ?_
            refine q_iload_n dX11_stops_79 rfl rfl ?_
            refine qx_icmp_ge (tgt := 86) dX11_stops_80 (by decide) (fun c8 => ?_) (fun c8 => ?_)
            · skip
              refine q_aload_n dX11_stops_86 rfl rfl ?_
              refine qx_invV (ci := 11) [] [(2, 0)] rfl qM_X11_clearRow dX11_stops_87 tw691 rfl qs0 rfl rfl rfl rfl (spX11_clearRow) (fun r9 m9 p9 q9 => ?_)
              obtain rfl := p9
              refine q_aload_n dX11_stops_90 rfl rfl ?_
              refine q_iload dX11_stops_91 rfl ?_
              refine qx_invV (ci := 11) [(0, (q_oiand r6 (q_oishl 1 j)))] [(0, (q_oiand r6 (q_oishl 1 j))), (2, 0)] rfl qM_X11_tell dX11_stops_93 tw699 rfl qs0 rfl rfl rfl rfl (spX11_tell (by first | exact (o4 p1 p2 p3 r4 m4 p4 q4 c5 r6 m6 p6 q6 c7 c8).1 | (simp only [q_up, Int.reduceEq, false_and, true_and, and_true, and_false, ite_false, ite_true, if_true, if_false]; exact (o4 p1 p2 p3 r4 m4 p4 q4 c5 r6 m6 p6 q6 c7 c8).1))) (fun r10 m10 p10 q10 => ?_)
              obtain rfl := p10
              refine q_aload_n dX11_stops_96 rfl rfl ?_
              refine q_aload_n dX11_stops_97 rfl rfl ?_
              refine q_getR (ci := 11) (k := 4) dX11_stops_98 rfl (by decide) rfl tw353 (by decide) qs0 qw0_4 (by decide) ?_
              refine q_getR (ci := 1) (k := 1) dX11_stops_101 rfl (by decide) rfl tw153 (by decide) qs26 qw26_1 (by decide) ?_
              refine q_iload_n dX11_stops_104 rfl rfl ?_
              refine qx_iald (v := (m6 27 j)) dX11_stops_105 qs27 (o2 p1 p2 p3 r4 m4 p4 q4) ((q_up_c (by decide)).trans ((q_up_c (by decide)).trans (q_up_c (by decide)))) ?_
              refine qx_invV (ci := 11) [(0, (m6 27 j))] [(0, (m6 27 j)), (2, 0)] rfl qM_X11_tell dX11_stops_106 tw699 rfl qs0 rfl rfl rfl rfl (spX11_tell (by first | exact (o4 p1 p2 p3 r4 m4 p4 q4 c5 r6 m6 p6 q6 c7 c8).2 | (simp only [q_up, Int.reduceEq, false_and, true_and, and_true, and_false, ite_false, ite_true, if_true, if_false]; exact (o4 p1 p2 p3 r4 m4 p4 q4 c5 r6 m6 p6 q6 c7 c8).2))) (fun r11 m11 p11 q11 => ?_)
              obtain rfl := p11
              refine q_iload dX11_stops_109 rfl ?_
              refine qx_if_ne (tgt := 118) dX11_stops_111 (by decide) (fun c12 => ?_) (fun c12 => ?_)
              · skip
                refine qx_iconst dX11_stops_118 rfl rfl ?_
                exact q_iret dX11_stops_119 (qK_i (l5 p1 p2 p3 r4 m4 p4 q4 c5 r6 m6 p6 q6 c7 c8 c12))
              · skip
                refine qx_iconst dX11_stops_114 rfl rfl ?_
                refine q_goto (tgt := 119) dX11_stops_115 (by decide) ?_
                exact q_iret dX11_stops_119 (qK_i (l6 p1 p2 p3 r4 m4 p4 q4 c5 r6 m6 p6 q6 c7 c8 c12))
            · skip
              refine qx_bipush dX11_stops_83 rfl rfl ?_
              exact q_iret dX11_stops_85 (qK_i (l7 p1 p2 p3 r4 m4 p4 q4 c5 r6 m6 p6 q6 c7 c8))
          · skip
            refine q_aload_n dX11_stops_63 rfl rfl ?_
            refine q_iload dX11_stops_64 rfl ?_
            refine q_iload_n dX11_stops_66 rfl rfl ?_
            refine qx_invV (ci := 11) [(0, (q_oiand r6 (q_oishl 1 j))), (0, v)] [(0, v), (0, (q_oiand r6 (q_oishl 1 j))), (2, 0)] rfl qM_X11_goStopped dX11_stops_67 tw832 rfl qs0 rfl rfl rfl rfl (l8 p1 p2 p3 r4 m4 p4 q4 c5 r6 m6 p6 q6 c7) (fun r13 m13 p13 q13 => ?_)
            refine q_aload_n dX11_stops_70 rfl rfl ?_
            refine q_getR (ci := 11) (k := 4) dX11_stops_71 rfl (by decide) rfl tw353 (by decide) qs0 qw0_4 (by decide) ?_
            refine q_getR (ci := 1) (k := 1) dX11_stops_74 rfl (by decide) rfl tw153 (by decide) qs26 qw26_1 (by decide) ?_
            refine q_iload_n dX11_stops_77 rfl rfl ?_
            refine qx_iald (v := (m13 27 j)) dX11_stops_78 qs27 (o2 p1 p2 p3 r4 m4 p4 q4) rfl ?_
            refine q_iload_n dX11_stops_79 rfl rfl ?_
            refine qx_icmp_ge (tgt := 86) dX11_stops_80 (by decide) (fun c14 => ?_) (fun c14 => ?_)
            · skip
              refine q_aload_n dX11_stops_86 rfl rfl ?_
              refine qx_invV (ci := 11) [] [(2, 0)] rfl qM_X11_clearRow dX11_stops_87 tw691 rfl qs0 rfl rfl rfl rfl (spX11_clearRow) (fun r15 m15 p15 q15 => ?_)
              obtain rfl := p15
              refine q_aload_n dX11_stops_90 rfl rfl ?_
              refine q_iload dX11_stops_91 rfl ?_
              refine qx_invV (ci := 11) [(0, (q_oiand r6 (q_oishl 1 j)))] [(0, (q_oiand r6 (q_oishl 1 j))), (2, 0)] rfl qM_X11_tell dX11_stops_93 tw699 rfl qs0 rfl rfl rfl rfl (spX11_tell (by first | exact (o9 p1 p2 p3 r4 m4 p4 q4 c5 r6 m6 p6 q6 c7 r13 m13 p13 q13 c14).1 | (simp only [q_up, Int.reduceEq, false_and, true_and, and_true, and_false, ite_false, ite_true, if_true, if_false]; exact (o9 p1 p2 p3 r4 m4 p4 q4 c5 r6 m6 p6 q6 c7 r13 m13 p13 q13 c14).1))) (fun r16 m16 p16 q16 => ?_)
              obtain rfl := p16
              refine q_aload_n dX11_stops_96 rfl rfl ?_
              refine q_aload_n dX11_stops_97 rfl rfl ?_
              refine q_getR (ci := 11) (k := 4) dX11_stops_98 rfl (by decide) rfl tw353 (by decide) qs0 qw0_4 (by decide) ?_
              refine q_getR (ci := 1) (k := 1) dX11_stops_101 rfl (by decide) rfl tw153 (by decide) qs26 qw26_1 (by decide) ?_
              refine q_iload_n dX11_stops_104 rfl rfl ?_
              refine qx_iald (v := (m13 27 j)) dX11_stops_105 qs27 (o2 p1 p2 p3 r4 m4 p4 q4) ((q_up_c (by decide)).trans ((q_up_c (by decide)).trans (q_up_c (by decide)))) ?_
              refine qx_invV (ci := 11) [(0, (m13 27 j))] [(0, (m13 27 j)), (2, 0)] rfl qM_X11_tell dX11_stops_106 tw699 rfl qs0 rfl rfl rfl rfl (spX11_tell (by first | exact (o9 p1 p2 p3 r4 m4 p4 q4 c5 r6 m6 p6 q6 c7 r13 m13 p13 q13 c14).2 | (simp only [q_up, Int.reduceEq, false_and, true_and, and_true, and_false, ite_false, ite_true, if_true, if_false]; exact (o9 p1 p2 p3 r4 m4 p4 q4 c5 r6 m6 p6 q6 c7 r13 m13 p13 q13 c14).2))) (fun r17 m17 p17 q17 => ?_)
              obtain rfl := p17
              refine q_iload dX11_stops_109 rfl ?_
              refine qx_if_ne (tgt := 118) dX11_stops_111 (by decide) (fun c18 => ?_) (fun c18 => ?_)
              · skip
                refine qx_iconst dX11_stops_118 rfl rfl ?_
                exact q_iret dX11_stops_119 (qK_i (l10 p1 p2 p3 r4 m4 p4 q4 c5 r6 m6 p6 q6 c7 r13 m13 p13 q13 c14 c18))
              · skip
                refine qx_iconst dX11_stops_114 rfl rfl ?_
                refine q_goto (tgt := 119) dX11_stops_115 (by decide) ?_
                exact q_iret dX11_stops_119 (qK_i (l11 p1 p2 p3 r4 m4 p4 q4 c5 r6 m6 p6 q6 c7 r13 m13 p13 q13 c14 c18))
            · skip
              refine qx_bipush dX11_stops_83 rfl rfl ?_
              exact q_iret dX11_stops_85 (qK_i (l12 p1 p2 p3 r4 m4 p4 q4 c5 r6 m6 p6 q6 c7 r13 m13 p13 q13 c14))
        · skip
          refine qx_iconst dX11_stops_43 rfl rfl ?_
          refine q_goto (tgt := 56) dX11_stops_44 (by decide) ?_
          refine qx_istore (L' := [(2, 0), (0, j), (0, w), (0, v), (0, 0)]) dX11_stops_56 rfl rfl rfl ?_
          refine q_iload dX11_stops_58 rfl ?_
          refine qx_if_eq (tgt := 70) dX11_stops_60 (by decide) (fun _ => ?_) (fun z => absurd z (by decide))
          refine q_aload_n dX11_stops_70 rfl rfl ?_
          refine q_getR (ci := 11) (k := 4) dX11_stops_71 rfl (by decide) rfl tw353 (by decide) qs0 qw0_4 (by decide) ?_
          refine q_getR (ci := 1) (k := 1) dX11_stops_74 rfl (by decide) rfl tw153 (by decide) qs26 qw26_1 (by decide) ?_
          refine q_iload_n dX11_stops_77 rfl rfl ?_
          refine qx_iald (v := (m4 27 j)) dX11_stops_78 qs27 (o2 p1 p2 p3 r4 m4 p4 q4) rfl ?_
          refine q_iload_n dX11_stops_79 rfl rfl ?_
          refine qx_icmp_ge (tgt := 86) dX11_stops_80 (by decide) (fun c19 => ?_) (fun c19 => ?_)
          · skip
            refine q_aload_n dX11_stops_86 rfl rfl ?_
            refine qx_invV (ci := 11) [] [(2, 0)] rfl qM_X11_clearRow dX11_stops_87 tw691 rfl qs0 rfl rfl rfl rfl (spX11_clearRow) (fun r20 m20 p20 q20 => ?_)
            obtain rfl := p20
            refine q_aload_n dX11_stops_90 rfl rfl ?_
            refine q_iload dX11_stops_91 rfl ?_
            refine qx_invV (ci := 11) [(0, 0)] [(0, 0), (2, 0)] rfl qM_X11_tell dX11_stops_93 tw699 rfl qs0 rfl rfl rfl rfl (spX11_tell (by first | exact (o13 p1 p2 p3 r4 m4 p4 q4 c5 c19).1 | (simp only [q_up, Int.reduceEq, false_and, true_and, and_true, and_false, ite_false, ite_true, if_true, if_false]; exact (o13 p1 p2 p3 r4 m4 p4 q4 c5 c19).1))) (fun r21 m21 p21 q21 => ?_)
            obtain rfl := p21
            refine q_aload_n dX11_stops_96 rfl rfl ?_
            refine q_aload_n dX11_stops_97 rfl rfl ?_
            refine q_getR (ci := 11) (k := 4) dX11_stops_98 rfl (by decide) rfl tw353 (by decide) qs0 qw0_4 (by decide) ?_
            refine q_getR (ci := 1) (k := 1) dX11_stops_101 rfl (by decide) rfl tw153 (by decide) qs26 qw26_1 (by decide) ?_
            refine q_iload_n dX11_stops_104 rfl rfl ?_
            refine qx_iald (v := (m4 27 j)) dX11_stops_105 qs27 (o2 p1 p2 p3 r4 m4 p4 q4) ((q_up_c (by decide)).trans ((q_up_c (by decide)).trans (q_up_c (by decide)))) ?_
            refine qx_invV (ci := 11) [(0, (m4 27 j))] [(0, (m4 27 j)), (2, 0)] rfl qM_X11_tell dX11_stops_106 tw699 rfl qs0 rfl rfl rfl rfl (spX11_tell (by first | exact (o13 p1 p2 p3 r4 m4 p4 q4 c5 c19).2 | (simp only [q_up, Int.reduceEq, false_and, true_and, and_true, and_false, ite_false, ite_true, if_true, if_false]; exact (o13 p1 p2 p3 r4 m4 p4 q4 c5 c19).2))) (fun r22 m22 p22 q22 => ?_)
            obtain rfl := p22
            refine q_iload dX11_stops_109 rfl ?_
            refine qx_if_ne (tgt := 118) dX11_stops_111 (by decide) (fun z => absurd z (by decide)) (fun _ => ?_)
            refine qx_iconst dX11_stops_114 rfl rfl ?_
            refine q_goto (tgt := 119) dX11_stops_115 (by decide) ?_
            exact q_iret dX11_stops_119 (qK_i (l14 p1 p2 p3 r4 m4 p4 q4 c5 c19))
          · skip
            refine qx_bipush dX11_stops_83 rfl rfl ?_
            exact q_iret dX11_stops_85 (qK_i (l15 p1 p2 p3 r4 m4 p4 q4 c5 c19))
      · rw [p3e, p3f]
        refine qx_if_ne (tgt := 24) dX11_stops_19 (by decide) (fun z => absurd z (by decide)) (fun _ => ?_)
        refine qx_iconst dX11_stops_22 rfl rfl ?_
        exact q_iret dX11_stops_23 (qK_i (l16 p1 p2 p3))
    · rw [p2e, p2f]
      refine qx_if_eq (tgt := 22) dX11_stops_12 (by decide) (fun _ => ?_) (fun z => absurd z (by decide))
      refine qx_iconst dX11_stops_22 rfl rfl ?_
      exact q_iret dX11_stops_23 (qK_i (l17 p1 p2))
  · rw [p1e, p1f]
    refine qx_if_eq (tgt := 22) dX11_stops_5 (by decide) (fun _ => ?_) (fun z => absurd z (by decide))
    refine qx_iconst dX11_stops_22 rfl rfl ?_
    exact q_iret dX11_stops_23 (qK_i (l18 p1))
theorem dX11_saves_0 : decode cX11_saves 0 = .ok (.iload_n 1, 1) := by decide +kernel
theorem dX11_saves_1 : decode cX11_saves 1 = .ok (.ifCond .lt 16, 3) := by decide +kernel
theorem dX11_saves_4 : decode cX11_saves 4 = .ok (.iload_n 1, 1) := by decide +kernel
theorem dX11_saves_5 : decode cX11_saves 5 = .ok (.bipush 9, 2) := by decide +kernel
theorem dX11_saves_7 : decode cX11_saves 7 = .ok (.if_icmp .gt 10, 3) := by decide +kernel
theorem dX11_saves_10 : decode cX11_saves 10 = .ok (.iload_n 2, 1) := by decide +kernel
theorem dX11_saves_11 : decode cX11_saves 11 = .ok (.invokestatic 214, 3) := by decide +kernel
theorem dX11_saves_14 : decode cX11_saves 14 = .ok (.ifCond .ne 5, 3) := by decide +kernel
theorem dX11_saves_17 : decode cX11_saves 17 = .ok (.iconst (-1), 1) := by decide +kernel
theorem dX11_saves_18 : decode cX11_saves 18 = .ok (.ireturn, 1) := by decide +kernel
theorem dX11_saves_19 : decode cX11_saves 19 = .ok (.aload_n 0, 1) := by decide +kernel
theorem dX11_saves_20 : decode cX11_saves 20 = .ok (.iload_n 2, 1) := by decide +kernel
theorem dX11_saves_21 : decode cX11_saves 21 = .ok (.invokevirtual 312, 3) := by decide +kernel
theorem dX11_saves_24 : decode cX11_saves 24 = .ok (.istore_n 3, 1) := by decide +kernel
theorem dX11_saves_25 : decode cX11_saves 25 = .ok (.iload_n 1, 1) := by decide +kernel
theorem dX11_saves_26 : decode cX11_saves 26 = .ok (.iload_n 3, 1) := by decide +kernel
theorem dX11_saves_27 : decode cX11_saves 27 = .ok (.invokestatic 315, 3) := by decide +kernel
theorem dX11_saves_30 : decode cX11_saves 30 = .ok (.invokestatic 180, 3) := by decide +kernel
theorem dX11_saves_33 : decode cX11_saves 33 = .ok (.istore 4, 2) := by decide +kernel
theorem dX11_saves_35 : decode cX11_saves 35 = .ok (.aload_n 0, 1) := by decide +kernel
theorem dX11_saves_36 : decode cX11_saves 36 = .ok (.iconst 0, 1) := by decide +kernel
theorem dX11_saves_37 : decode cX11_saves 37 = .ok (.iload_n 2, 1) := by decide +kernel
theorem dX11_saves_38 : decode cX11_saves 38 = .ok (.invokevirtual 309, 3) := by decide +kernel
theorem dX11_saves_41 : decode cX11_saves 41 = .ok (.aload_n 0, 1) := by decide +kernel
theorem dX11_saves_42 : decode cX11_saves 42 = .ok (.getfield 38, 3) := by decide +kernel
theorem dX11_saves_45 : decode cX11_saves 45 = .ok (.getfield 294, 3) := by decide +kernel
theorem dX11_saves_48 : decode cX11_saves 48 = .ok (.istore 5, 2) := by decide +kernel
theorem dX11_saves_50 : decode cX11_saves 50 = .ok (.iconst 0, 1) := by decide +kernel
theorem dX11_saves_51 : decode cX11_saves 51 = .ok (.istore 6, 2) := by decide +kernel
theorem dX11_saves_53 : decode cX11_saves 53 = .ok (.iconst 1, 1) := by decide +kernel
theorem dX11_saves_54 : decode cX11_saves 54 = .ok (.istore 7, 2) := by decide +kernel
theorem dX11_saves_56 : decode cX11_saves 56 = .ok (.iload 7, 2) := by decide +kernel
theorem dX11_saves_58 : decode cX11_saves 58 = .ok (.iload 4, 2) := by decide +kernel
theorem dX11_saves_60 : decode cX11_saves 60 = .ok (.if_icmp .gt 75, 3) := by decide +kernel
theorem dX11_saves_63 : decode cX11_saves 63 = .ok (.iload 5, 2) := by decide +kernel
theorem dX11_saves_65 : decode cX11_saves 65 = .ok (.ifCond .le 70, 3) := by decide +kernel
theorem dX11_saves_68 : decode cX11_saves 68 = .ok (.iconst 1, 1) := by decide +kernel
theorem dX11_saves_69 : decode cX11_saves 69 = .ok (.istore 8, 2) := by decide +kernel
theorem dX11_saves_71 : decode cX11_saves 71 = .ok (.iload 8, 2) := by decide +kernel
theorem dX11_saves_73 : decode cX11_saves 73 = .ok (.iload_n 3, 1) := by decide +kernel
theorem dX11_saves_74 : decode cX11_saves 74 = .ok (.if_icmp .gt 55, 3) := by decide +kernel
theorem dX11_saves_77 : decode cX11_saves 77 = .ok (.iload 8, 2) := by decide +kernel
theorem dX11_saves_79 : decode cX11_saves 79 = .ok (.iload_n 3, 1) := by decide +kernel
theorem dX11_saves_80 : decode cX11_saves 80 = .ok (.iload 7, 2) := by decide +kernel
theorem dX11_saves_82 : decode cX11_saves 82 = .ok (.invokestatic 320, 3) := by decide +kernel
theorem dX11_saves_85 : decode cX11_saves 85 = .ok (.ifCond .ne 6, 3) := by decide +kernel
theorem dX11_saves_88 : decode cX11_saves 88 = .ok (.goto 35, 3) := by decide +kernel
theorem dX11_saves_91 : decode cX11_saves 91 = .ok (.aload_n 0, 1) := by decide +kernel
theorem dX11_saves_92 : decode cX11_saves 92 = .ok (.iload 8, 2) := by decide +kernel
theorem dX11_saves_94 : decode cX11_saves 94 = .ok (.iload_n 2, 1) := by decide +kernel
theorem dX11_saves_95 : decode cX11_saves 95 = .ok (.invokevirtual 309, 3) := by decide +kernel
theorem dX11_saves_98 : decode cX11_saves 98 = .ok (.aload_n 0, 1) := by decide +kernel
theorem dX11_saves_99 : decode cX11_saves 99 = .ok (.getfield 38, 3) := by decide +kernel
theorem dX11_saves_102 : decode cX11_saves 102 = .ok (.getfield 294, 3) := by decide +kernel
theorem dX11_saves_105 : decode cX11_saves 105 = .ok (.iload 5, 2) := by decide +kernel
theorem dX11_saves_107 : decode cX11_saves 107 = .ok (.if_icmp .ge 16, 3) := by decide +kernel
theorem dX11_saves_110 : decode cX11_saves 110 = .ok (.aload_n 0, 1) := by decide +kernel
theorem dX11_saves_111 : decode cX11_saves 111 = .ok (.getfield 38, 3) := by decide +kernel
theorem dX11_saves_114 : decode cX11_saves 114 = .ok (.getfield 294, 3) := by decide +kernel
theorem dX11_saves_117 : decode cX11_saves 117 = .ok (.istore 5, 2) := by decide +kernel
theorem dX11_saves_119 : decode cX11_saves 119 = .ok (.iload 8, 2) := by decide +kernel
theorem dX11_saves_121 : decode cX11_saves 121 = .ok (.istore 6, 2) := by decide +kernel
theorem dX11_saves_123 : decode cX11_saves 123 = .ok (.iinc 8 1, 3) := by decide +kernel
theorem dX11_saves_126 : decode cX11_saves 126 = .ok (.goto (-55), 3) := by decide +kernel
theorem dX11_saves_129 : decode cX11_saves 129 = .ok (.iinc 7 1, 3) := by decide +kernel
theorem dX11_saves_132 : decode cX11_saves 132 = .ok (.goto (-76), 3) := by decide +kernel
theorem dX11_saves_135 : decode cX11_saves 135 = .ok (.aload_n 0, 1) := by decide +kernel
theorem dX11_saves_136 : decode cX11_saves 136 = .ok (.invokevirtual 223, 3) := by decide +kernel
theorem dX11_saves_139 : decode cX11_saves 139 = .ok (.aload_n 0, 1) := by decide +kernel
theorem dX11_saves_140 : decode cX11_saves 140 = .ok (.iload 6, 2) := by decide +kernel
theorem dX11_saves_142 : decode cX11_saves 142 = .ok (.invokevirtual 229, 3) := by decide +kernel
theorem dX11_saves_145 : decode cX11_saves 145 = .ok (.iload 5, 2) := by decide +kernel
theorem dX11_saves_147 : decode cX11_saves 147 = .ok (.ireturn, 1) := by decide +kernel
theorem bkX11_saves_0 {b : Int} {mem : qm} {Q : Int → qm → Prop}
    {w v : Int}
    (l1 : w < 0 → Q (-1) mem)
    (l2 : 0 ≤ w → 9 < w → Q (-1) mem)
    {P4 : Int → qm → Prop}
    (l3 : 0 ≤ w → w ≤ 9 → (0 ≤ v ∧ v ≤ 200) → q_Ev yX11_worthStopping cX11_worthStopping 4 (some .int) 1 0 0 [(2, 0), (0, v)] (q_sh0, q_rb b, mem) (qK (q_rb b) (P4)))
    {P5 : Int → qm → Int → qm → Prop}
    (l4 : 0 ≤ w → w ≤ 9 → (0 ≤ v ∧ v ≤ 200) → ∀ (r4 : Int), ∀ (m4 : qm), P4 r4 m4 → q_in32 r4 → q_Ev yJ6_bitCount_0f7a4 cJ6_bitCount_0f7a4 1 (some .int) 1 0 0 [(0, r4)] (q_sh0, q_rb b, m4) (qK (q_rb b) (P5 r4 m4)))
    {P6 : Int → qm → Int → qm → Int → qm → Prop}
    (l5 : 0 ≤ w → w ≤ 9 → (0 ≤ v ∧ v ≤ 200) → ∀ (r4 : Int), ∀ (m4 : qm), P4 r4 m4 → q_in32 r4 → ∀ (r5 : Int), ∀ (m5 : qm), P5 r4 m4 r5 m5 → q_in32 r5 → q_Ev yX11_goStopped cX11_goStopped 4 none 4 0 0 [(2, 0), (0, 0), (0, v)] (q_sh0, q_rb b, m5) (qK (q_rb b) (P6 r4 m4 r5 m5)))
    (l6 : 0 ≤ w → w ≤ 9 → (0 ≤ v ∧ v ≤ 200) → ∀ (r4 : Int), ∀ (m4 : qm), P4 r4 m4 → q_in32 r4 → ∀ (r5 : Int), ∀ (m5 : qm), P5 r4 m4 r5 m5 → q_in32 r5 → ∀ (r6 : Int), ∀ (m6 : qm), P6 r4 m4 r5 m5 r6 m6 → q_in32 r6 → q_At yX11_saves cX11_saves 9 (some .int) 5 0 0 (qK (q_rb b) Q) 56 [(2, 0), (0, w), (0, v), (0, r4), (0, (min w r5)), (0, (m6 26 7)), (0, 0), (0, 1), (4, 0)] [] (q_sh0, q_rb b, m6))
    (l7 : 0 ≤ w → w ≤ 9 → ¬ (0 ≤ v ∧ v ≤ 200) → Q (-1) mem) :
    q_At yX11_saves cX11_saves 9 (some .int) 5 0 0 (qK (q_rb b) Q) 0 [(2, 0), (0, w), (0, v), (4, 0), (4, 0), (4, 0), (4, 0), (4, 0), (4, 0)] [] (q_sh0, q_rb b, mem) := by
  refine q_iload_n dX11_saves_0 rfl rfl ?_
  refine qx_if_lt (tgt := 17) dX11_saves_1 (by decide) (fun c1 => ?_) (fun c1 => ?_)
  · skip
    refine qx_iconst dX11_saves_17 rfl rfl ?_
    exact q_iret dX11_saves_18 (qK_i (l1 c1))
  · skip
    refine q_iload_n dX11_saves_4 rfl rfl ?_
    refine qx_bipush dX11_saves_5 rfl rfl ?_
    refine qx_icmp_gt (tgt := 17) dX11_saves_7 (by decide) (fun c2 => ?_) (fun c2 => ?_)
    · skip
      refine qx_iconst dX11_saves_17 rfl rfl ?_
      exact q_iret dX11_saves_18 (qK_i (l2 c1 c2))
    · skip
      refine q_iload_n dX11_saves_10 rfl rfl ?_
      refine qx_invS [(0, v)] [(0, v)] rfl qM_X11_isSpan dX11_saves_11 tw668 rfl rfl rfl rfl (spX11_isSpan) (fun r3 m3 p3 q3 => ?_)
      obtain ⟨p3e, ⟨p3f, p3⟩ | ⟨p3f, p3⟩⟩ := p3
      · rw [p3e, p3f]
        refine qx_if_ne (tgt := 19) dX11_saves_14 (by decide) (fun _ => ?_) (fun z => absurd z (by decide))
        refine q_aload_n dX11_saves_19 rfl rfl ?_
        refine q_iload_n dX11_saves_20 rfl rfl ?_
        refine qx_invV (ci := 11) [(0, v)] [(0, v), (2, 0)] rfl qM_X11_worthStopping dX11_saves_21 tw836 rfl qs0 rfl rfl rfl rfl (l3 c1 c2 p3) (fun r4 m4 p4 q4 => ?_)
        refine qx_istore_n (L' := [(2, 0), (0, w), (0, v), (0, r4), (4, 0), (4, 0), (4, 0), (4, 0), (4, 0)]) dX11_saves_24 rfl rfl rfl rfl ?_
        refine q_iload_n dX11_saves_25 rfl rfl ?_
        refine q_iload_n dX11_saves_26 rfl rfl ?_
        refine qx_invS [(0, r4)] [(0, r4), (0, w)] rfl qM_J6_bitCount_0f7a4 dX11_saves_27 tw844 rfl rfl rfl rfl (l4 c1 c2 p3 r4 m4 p4 q4) (fun r5 m5 p5 q5 => ?_)
        refine q_min dX11_saves_30 tw595 tw429 tw15 tw430 (by decide) (Nat.le_of_ble_eq_true rfl) ?_
        refine qx_istore (L' := [(2, 0), (0, w), (0, v), (0, r4), (0, (min w r5)), (4, 0), (4, 0), (4, 0), (4, 0)]) dX11_saves_33 rfl rfl rfl ?_
        refine q_aload_n dX11_saves_35 rfl rfl ?_
        refine qx_iconst dX11_saves_36 rfl rfl ?_
        refine q_iload_n dX11_saves_37 rfl rfl ?_
        refine qx_invV (ci := 11) [(0, 0), (0, v)] [(0, v), (0, 0), (2, 0)] rfl qM_X11_goStopped dX11_saves_38 tw832 rfl qs0 rfl rfl rfl rfl (l5 c1 c2 p3 r4 m4 p4 q4 r5 m5 p5 q5) (fun r6 m6 p6 q6 => ?_)
        refine q_aload_n dX11_saves_41 rfl rfl ?_
        refine q_getR (ci := 11) (k := 4) dX11_saves_42 rfl (by decide) rfl tw353 (by decide) qs0 qw0_4 (by decide) ?_
        refine qx_getI (ci := 1) (k := 7) (v := (m6 26 7)) dX11_saves_45 rfl rfl rfl tw162 rfl qs26 rfl ?_
        refine qx_istore (L' := [(2, 0), (0, w), (0, v), (0, r4), (0, (min w r5)), (0, (m6 26 7)), (4, 0), (4, 0), (4, 0)]) dX11_saves_48 rfl rfl rfl ?_
        refine qx_iconst dX11_saves_50 rfl rfl ?_
        refine qx_istore (L' := [(2, 0), (0, w), (0, v), (0, r4), (0, (min w r5)), (0, (m6 26 7)), (0, 0), (4, 0), (4, 0)]) dX11_saves_51 rfl rfl rfl ?_
        refine qx_iconst dX11_saves_53 rfl rfl ?_
        refine qx_istore (L' := [(2, 0), (0, w), (0, v), (0, r4), (0, (min w r5)), (0, (m6 26 7)), (0, 0), (0, 1), (4, 0)]) dX11_saves_54 rfl rfl rfl ?_
        exact l6 c1 c2 p3 r4 m4 p4 q4 r5 m5 p5 q5 r6 m6 p6 q6
      · rw [p3e, p3f]
        refine qx_if_ne (tgt := 19) dX11_saves_14 (by decide) (fun z => absurd z (by decide)) (fun _ => ?_)
        refine qx_iconst dX11_saves_17 rfl rfl ?_
        exact q_iret dX11_saves_18 (qK_i (l7 c1 c2 p3))
theorem bkX11_saves_56 {b : Int} {mem : qm} {Q : Int → qm → Prop}
    {w v v3 v4 v5 v6 v7 : Int}
    (o1 : v4 < v7 → (0 ≤ (0 : Int) ∧ (0 : Int) < 10))
    (l2 : v4 < v7 → Q v5 (q_up (q_up (q_up mem 0 16 0) 169 (0 : Int) v6) 0 16 ((0 : Int) + 1)))
    (o3 : v7 ≤ v4 → v5 ≤ 0 → (0 ≤ (0 : Int) ∧ (0 : Int) < 10))
    (l4 : v7 ≤ v4 → v5 ≤ 0 → Q v5 (q_up (q_up (q_up mem 0 16 0) 169 (0 : Int) v6) 0 16 ((0 : Int) + 1)))
    (l5 : v7 ≤ v4 → 0 < v5 → q_At yX11_saves cX11_saves 9 (some .int) 5 0 0 (qK (q_rb b) Q) 71 [(2, 0), (0, w), (0, v), (0, v3), (0, v4), (0, v5), (0, v6), (0, v7), (0, 1)] [] (q_sh0, q_rb b, mem)) :
    q_At yX11_saves cX11_saves 9 (some .int) 5 0 0 (qK (q_rb b) Q) 56 [(2, 0), (0, w), (0, v), (0, v3), (0, v4), (0, v5), (0, v6), (0, v7), (4, 0)] [] (q_sh0, q_rb b, mem) := by
  refine q_iload dX11_saves_56 rfl ?_
  refine q_iload dX11_saves_58 rfl ?_
  refine qx_icmp_gt (tgt := 135) dX11_saves_60 (by decide) (fun c1 => ?_) (fun c1 => ?_)
  · skip
    refine q_aload_n dX11_saves_135 rfl rfl ?_
    refine qx_invV (ci := 11) [] [(2, 0)] rfl qM_X11_clearRow dX11_saves_136 tw691 rfl qs0 rfl rfl rfl rfl (spX11_clearRow) (fun r2 m2 p2 q2 => ?_)
    obtain rfl := p2
    refine q_aload_n dX11_saves_139 rfl rfl ?_
    refine q_iload dX11_saves_140 rfl ?_
    refine qx_invV (ci := 11) [(0, v6)] [(0, v6), (2, 0)] rfl qM_X11_tell dX11_saves_142 tw699 rfl qs0 rfl rfl rfl rfl (spX11_tell (by first | exact (o1 c1) | (simp only [q_up, Int.reduceEq, false_and, true_and, and_true, and_false, ite_false, ite_true, if_true, if_false]; exact (o1 c1)))) (fun r3 m3 p3 q3 => ?_)
    obtain rfl := p3
    refine q_iload dX11_saves_145 rfl ?_
    exact q_iret dX11_saves_147 (qK_i (l2 c1))
  · skip
    refine q_iload dX11_saves_63 rfl ?_
    refine qx_if_le (tgt := 135) dX11_saves_65 (by decide) (fun c4 => ?_) (fun c4 => ?_)
    · skip
      refine q_aload_n dX11_saves_135 rfl rfl ?_
      refine qx_invV (ci := 11) [] [(2, 0)] rfl qM_X11_clearRow dX11_saves_136 tw691 rfl qs0 rfl rfl rfl rfl (spX11_clearRow) (fun r5 m5 p5 q5 => ?_)
      obtain rfl := p5
      refine q_aload_n dX11_saves_139 rfl rfl ?_
      refine q_iload dX11_saves_140 rfl ?_
      refine qx_invV (ci := 11) [(0, v6)] [(0, v6), (2, 0)] rfl qM_X11_tell dX11_saves_142 tw699 rfl qs0 rfl rfl rfl rfl (spX11_tell (by first | exact (o3 c1 c4) | (simp only [q_up, Int.reduceEq, false_and, true_and, and_true, and_false, ite_false, ite_true, if_true, if_false]; exact (o3 c1 c4)))) (fun r6 m6 p6 q6 => ?_)
      obtain rfl := p6
      refine q_iload dX11_saves_145 rfl ?_
      exact q_iret dX11_saves_147 (qK_i (l4 c1 c4))
    · skip
      refine qx_iconst dX11_saves_68 rfl rfl ?_
      refine qx_istore (L' := [(2, 0), (0, w), (0, v), (0, v3), (0, v4), (0, v5), (0, v6), (0, v7), (0, 1)]) dX11_saves_69 rfl rfl rfl ?_
      exact l5 c1 c4
theorem bkX11_saves_71 {b : Int} {mem : qm} {Q : Int → qm → Prop}
    {w v v3 v4 v5 v6 v7 v8 : Int}
    (o1 : v3 < v8 → q_in32 (v7 + 1))
    (l2 : v3 < v8 → q_At yX11_saves cX11_saves 9 (some .int) 5 0 0 (qK (q_rb b) Q) 56 [(2, 0), (0, w), (0, v), (0, v3), (0, v4), (0, v5), (0, v6), (0, (v7 + 1)), (4, 0)] [] (q_sh0, q_rb b, mem))
    {P2 : Int → qm → Prop}
    (l3 : v8 ≤ v3 → q_Ev yX11_isChoice cX11_isChoice 3 (some .boolean) 2 0 0 [(0, v8), (0, v3), (0, v7)] (q_sh0, q_rb b, mem) (qK (q_rb b) (P2)))
    {P4 : Int → qm → Int → qm → Prop}
    (l4 : v8 ≤ v3 → ∀ (r2 : Int), ∀ (m2 : qm), P2 r2 m2 → q_in32 r2 → r2 ≠ 0 → q_Ev yX11_goStopped cX11_goStopped 4 none 4 0 0 [(2, 0), (0, v8), (0, v)] (q_sh0, q_rb b, m2) (qK (q_rb b) (P4 r2 m2)))
    (o5 : v8 ≤ v3 → ∀ (r2 : Int), ∀ (m2 : qm), P2 r2 m2 → q_in32 r2 → r2 ≠ 0 → ∀ (r4 : Int), ∀ (m4 : qm), P4 r2 m2 r4 m4 → q_in32 r4 → v5 ≤ (m4 26 7) → q_in32 (v8 + 1))
    (l6 : v8 ≤ v3 → ∀ (r2 : Int), ∀ (m2 : qm), P2 r2 m2 → q_in32 r2 → r2 ≠ 0 → ∀ (r4 : Int), ∀ (m4 : qm), P4 r2 m2 r4 m4 → q_in32 r4 → v5 ≤ (m4 26 7) → q_At yX11_saves cX11_saves 9 (some .int) 5 0 0 (qK (q_rb b) Q) 71 [(2, 0), (0, w), (0, v), (0, v3), (0, v4), (0, v5), (0, v6), (0, v7), (0, (v8 + 1))] [] (q_sh0, q_rb b, m4))
    (o7 : v8 ≤ v3 → ∀ (r2 : Int), ∀ (m2 : qm), P2 r2 m2 → q_in32 r2 → r2 ≠ 0 → ∀ (r4 : Int), ∀ (m4 : qm), P4 r2 m2 r4 m4 → q_in32 r4 → (m4 26 7) < v5 → q_in32 (v8 + 1))
    (l8 : v8 ≤ v3 → ∀ (r2 : Int), ∀ (m2 : qm), P2 r2 m2 → q_in32 r2 → r2 ≠ 0 → ∀ (r4 : Int), ∀ (m4 : qm), P4 r2 m2 r4 m4 → q_in32 r4 → (m4 26 7) < v5 → q_At yX11_saves cX11_saves 9 (some .int) 5 0 0 (qK (q_rb b) Q) 71 [(2, 0), (0, w), (0, v), (0, v3), (0, v4), (0, (m4 26 7)), (0, v8), (0, v7), (0, (v8 + 1))] [] (q_sh0, q_rb b, m4))
    (o9 : v8 ≤ v3 → ∀ (r2 : Int), ∀ (m2 : qm), P2 r2 m2 → q_in32 r2 → r2 = 0 → q_in32 (v8 + 1))
    (l10 : v8 ≤ v3 → ∀ (r2 : Int), ∀ (m2 : qm), P2 r2 m2 → q_in32 r2 → r2 = 0 → q_At yX11_saves cX11_saves 9 (some .int) 5 0 0 (qK (q_rb b) Q) 71 [(2, 0), (0, w), (0, v), (0, v3), (0, v4), (0, v5), (0, v6), (0, v7), (0, (v8 + 1))] [] (q_sh0, q_rb b, m2)) :
    q_At yX11_saves cX11_saves 9 (some .int) 5 0 0 (qK (q_rb b) Q) 71 [(2, 0), (0, w), (0, v), (0, v3), (0, v4), (0, v5), (0, v6), (0, v7), (0, v8)] [] (q_sh0, q_rb b, mem) := by
  refine q_iload dX11_saves_71 rfl ?_
  refine q_iload_n dX11_saves_73 rfl rfl ?_
  refine qx_icmp_gt (tgt := 129) dX11_saves_74 (by decide) (fun c1 => ?_) (fun c1 => ?_)
  · skip
    refine qx_iinc (L' := [(2, 0), (0, w), (0, v), (0, v3), (0, v4), (0, v5), (0, v6), (0, (v7 + 1)), (0, v8)]) dX11_saves_129 rfl rfl rfl (o1 c1) rfl ?_
    refine q_goto (tgt := 56) dX11_saves_132 (by decide) ?_
    refine q_kill (L' := [(2, 0), (0, w), (0, v), (0, v3), (0, v4), (0, v5), (0, v6), (0, (v7 + 1)), (4, 0)]) 8 rfl ?_
    exact l2 c1
  · skip
    refine q_iload dX11_saves_77 rfl ?_
    refine q_iload_n dX11_saves_79 rfl rfl ?_
    refine q_iload dX11_saves_80 rfl ?_
    refine qx_invS [(0, v8), (0, v3), (0, v7)] [(0, v7), (0, v3), (0, v8)] rfl qM_X11_isChoice dX11_saves_82 tw850 rfl rfl rfl rfl (l3 c1) (fun r2 m2 p2 q2 => ?_)
    refine qx_if_ne (tgt := 91) dX11_saves_85 (by decide) (fun c3 => ?_) (fun c3 => ?_)
    · skip
      refine q_aload_n dX11_saves_91 rfl rfl ?_
      refine q_iload dX11_saves_92 rfl ?_
      refine q_iload_n dX11_saves_94 rfl rfl ?_
      refine qx_invV (ci := 11) [(0, v8), (0, v)] [(0, v), (0, v8), (2, 0)] rfl qM_X11_goStopped dX11_saves_95 tw832 rfl qs0 rfl rfl rfl rfl (l4 c1 r2 m2 p2 q2 c3) (fun r4 m4 p4 q4 => ?_)
      refine q_aload_n dX11_saves_98 rfl rfl ?_
      refine q_getR (ci := 11) (k := 4) dX11_saves_99 rfl (by decide) rfl tw353 (by decide) qs0 qw0_4 (by decide) ?_
      refine qx_getI (ci := 1) (k := 7) (v := (m4 26 7)) dX11_saves_102 rfl rfl rfl tw162 rfl qs26 rfl ?_
      refine q_iload dX11_saves_105 rfl ?_
      refine qx_icmp_ge (tgt := 123) dX11_saves_107 (by decide) (fun c5 => ?_) (fun c5 => ?_)
      · skip
        refine qx_iinc (L' := [(2, 0), (0, w), (0, v), (0, v3), (0, v4), (0, v5), (0, v6), (0, v7), (0, (v8 + 1))]) dX11_saves_123 rfl rfl rfl (o5 c1 r2 m2 p2 q2 c3 r4 m4 p4 q4 c5) rfl ?_
        refine q_goto (tgt := 71) dX11_saves_126 (by decide) ?_
        exact l6 c1 r2 m2 p2 q2 c3 r4 m4 p4 q4 c5
      · skip
        refine q_aload_n dX11_saves_110 rfl rfl ?_
        refine q_getR (ci := 11) (k := 4) dX11_saves_111 rfl (by decide) rfl tw353 (by decide) qs0 qw0_4 (by decide) ?_
        refine qx_getI (ci := 1) (k := 7) (v := (m4 26 7)) dX11_saves_114 rfl rfl rfl tw162 rfl qs26 rfl ?_
        refine qx_istore (L' := [(2, 0), (0, w), (0, v), (0, v3), (0, v4), (0, (m4 26 7)), (0, v6), (0, v7), (0, v8)]) dX11_saves_117 rfl rfl rfl ?_
        refine q_iload dX11_saves_119 rfl ?_
        refine qx_istore (L' := [(2, 0), (0, w), (0, v), (0, v3), (0, v4), (0, (m4 26 7)), (0, v8), (0, v7), (0, v8)]) dX11_saves_121 rfl rfl rfl ?_
        refine qx_iinc (L' := [(2, 0), (0, w), (0, v), (0, v3), (0, v4), (0, (m4 26 7)), (0, v8), (0, v7), (0, (v8 + 1))]) dX11_saves_123 rfl rfl rfl (o7 c1 r2 m2 p2 q2 c3 r4 m4 p4 q4 c5) rfl ?_
        refine q_goto (tgt := 71) dX11_saves_126 (by decide) ?_
        exact l8 c1 r2 m2 p2 q2 c3 r4 m4 p4 q4 c5
    · skip
      refine q_goto (tgt := 123) dX11_saves_88 (by decide) ?_
      refine qx_iinc (L' := [(2, 0), (0, w), (0, v), (0, v3), (0, v4), (0, v5), (0, v6), (0, v7), (0, (v8 + 1))]) dX11_saves_123 rfl rfl rfl (o9 c1 r2 m2 p2 q2 c3) rfl ?_
      refine q_goto (tgt := 71) dX11_saves_126 (by decide) ?_
      exact l10 c1 r2 m2 p2 q2 c3
theorem dX11_lostWithBelow_0 : decode cX11_lostWithBelow 0 = .ok (.aload_n 0, 1) := by decide +kernel
theorem dX11_lostWithBelow_1 : decode cX11_lostWithBelow 1 = .ok (.getfield 38, 3) := by decide +kernel
theorem dX11_lostWithBelow_4 : decode cX11_lostWithBelow 4 = .ok (.aload_n 0, 1) := by decide +kernel
theorem dX11_lostWithBelow_5 : decode cX11_lostWithBelow 5 = .ok (.getfield 19, 3) := by decide +kernel
theorem dX11_lostWithBelow_8 : decode cX11_lostWithBelow 8 = .ok (.invokevirtual 282, 3) := by decide +kernel
theorem dX11_lostWithBelow_11 : decode cX11_lostWithBelow 11 = .ok (.aload_n 0, 1) := by decide +kernel
theorem dX11_lostWithBelow_12 : decode cX11_lostWithBelow 12 = .ok (.getfield 38, 3) := by decide +kernel
theorem dX11_lostWithBelow_15 : decode cX11_lostWithBelow 15 = .ok (.getfield 328, 3) := by decide +kernel
theorem dX11_lostWithBelow_18 : decode cX11_lostWithBelow 18 = .ok (.iload_n 1, 1) := by decide +kernel
theorem dX11_lostWithBelow_19 : decode cX11_lostWithBelow 19 = .ok (.iload_n 2, 1) := by decide +kernel
theorem dX11_lostWithBelow_20 : decode cX11_lostWithBelow 20 = .ok (.iastore, 1) := by decide +kernel
theorem dX11_lostWithBelow_21 : decode cX11_lostWithBelow 21 = .ok (.aload_n 0, 1) := by decide +kernel
theorem dX11_lostWithBelow_22 : decode cX11_lostWithBelow 22 = .ok (.getfield 38, 3) := by decide +kernel
theorem dX11_lostWithBelow_25 : decode cX11_lostWithBelow 25 = .ok (.iload_n 3, 1) := by decide +kernel
theorem dX11_lostWithBelow_26 : decode cX11_lostWithBelow 26 = .ok (.invokevirtual 300, 3) := by decide +kernel
theorem dX11_lostWithBelow_29 : decode cX11_lostWithBelow 29 = .ok (.aload_n 0, 1) := by decide +kernel
theorem dX11_lostWithBelow_30 : decode cX11_lostWithBelow 30 = .ok (.getfield 38, 3) := by decide +kernel
theorem dX11_lostWithBelow_33 : decode cX11_lostWithBelow 33 = .ok (.getfield 294, 3) := by decide +kernel
theorem dX11_lostWithBelow_36 : decode cX11_lostWithBelow 36 = .ok (.ireturn, 1) := by decide +kernel
theorem bkX11_lostWithBelow_0 {b : Int} {mem : qm} {Q : Int → qm → Prop}
    {j q v : Int}
    {P1 : Int → qm → Prop}
    (l1 : q_Ev yX1_start cX1_start 2 none 2 0 0 [(2, 26), (2, 5)] (q_sh0, q_rb b, mem) (qK (q_rb b) (P1)))
    (o2 : ∀ (r1 : Int), ∀ (m1 : qm), P1 r1 m1 → q_in32 r1 → (0 ≤ j ∧ j < 9))
    {P2 : Int → qm → Int → qm → Prop}
    (l3 : ∀ (r1 : Int), ∀ (m1 : qm), P1 r1 m1 → q_in32 r1 → q_Ev yX1_strikeAll cX1_strikeAll 3 none 3 0 0 [(2, 26), (0, v)] (q_sh0, q_rb b, (q_up m1 29 j q)) (qK (q_rb b) (P2 r1 m1)))
    (l4 : ∀ (r1 : Int), ∀ (m1 : qm), P1 r1 m1 → q_in32 r1 → ∀ (r2 : Int), ∀ (m2 : qm), P2 r1 m1 r2 m2 → q_in32 r2 → Q (m2 26 7) m2) :
    q_At yX11_lostWithBelow cX11_lostWithBelow 4 (some .int) 4 0 0 (qK (q_rb b) Q) 0 [(2, 0), (0, j), (0, q), (0, v)] [] (q_sh0, q_rb b, mem) := by
  refine q_aload_n dX11_lostWithBelow_0 rfl rfl ?_
  refine q_getR (ci := 11) (k := 4) dX11_lostWithBelow_1 rfl (by decide) rfl tw353 (by decide) qs0 qw0_4 (by decide) ?_
  refine q_aload_n dX11_lostWithBelow_4 rfl rfl ?_
  refine q_getR (ci := 11) (k := 1) dX11_lostWithBelow_5 rfl (by decide) rfl tw350 (by decide) qs0 qw0_1 (by decide) ?_
  refine qx_invV (ci := 1) [(2, 5)] [(2, 5), (2, 26)] rfl qM_X1_start dX11_lostWithBelow_8 tw767 rfl qs26 rfl rfl rfl rfl (l1) (fun r1 m1 p1 q1 => ?_)
  refine q_aload_n dX11_lostWithBelow_11 rfl rfl ?_
  refine q_getR (ci := 11) (k := 4) dX11_lostWithBelow_12 rfl (by decide) rfl tw353 (by decide) qs0 qw0_4 (by decide) ?_
  refine q_getR (ci := 1) (k := 3) dX11_lostWithBelow_15 rfl (by decide) rfl tw157 (by decide) qs26 qw26_3 (by decide) ?_
  refine q_iload_n dX11_lostWithBelow_18 rfl rfl ?_
  refine q_iload_n dX11_lostWithBelow_19 rfl rfl ?_
  refine q_iast dX11_lostWithBelow_20 qs29 ((o2 r1 m1 p1 q1)).1 ((o2 r1 m1 p1 q1)).2 ?_
  refine q_aload_n dX11_lostWithBelow_21 rfl rfl ?_
  refine q_getR (ci := 11) (k := 4) dX11_lostWithBelow_22 rfl (by decide) rfl tw353 (by decide) qs0 qw0_4 (by decide) ?_
  refine q_iload_n dX11_lostWithBelow_25 rfl rfl ?_
  refine qx_invV (ci := 1) [(0, v)] [(0, v), (2, 26)] rfl qM_X1_strikeAll dX11_lostWithBelow_26 tw804 rfl qs26 rfl rfl rfl rfl (l3 r1 m1 p1 q1) (fun r2 m2 p2 q2 => ?_)
  refine q_aload_n dX11_lostWithBelow_29 rfl rfl ?_
  refine q_getR (ci := 11) (k := 4) dX11_lostWithBelow_30 rfl (by decide) rfl tw353 (by decide) qs0 qw0_4 (by decide) ?_
  refine qx_getI (ci := 1) (k := 7) (v := (m2 26 7)) dX11_lostWithBelow_33 rfl rfl rfl tw162 rfl qs26 rfl ?_
  exact q_iret dX11_lostWithBelow_36 (qK_i (l4 r1 m1 p1 q1 r2 m2 p2 q2))
theorem dX11_place_0 : decode cX11_place 0 = .ok (.aload_n 0, 1) := by decide +kernel
theorem dX11_place_1 : decode cX11_place 1 = .ok (.iload_n 1, 1) := by decide +kernel
theorem dX11_place_2 : decode cX11_place 2 = .ok (.invokevirtual 131, 3) := by decide +kernel
theorem dX11_place_5 : decode cX11_place 5 = .ok (.ifCond .eq 10, 3) := by decide +kernel
theorem dX11_place_8 : decode cX11_place 8 = .ok (.iload_n 2, 1) := by decide +kernel
theorem dX11_place_9 : decode cX11_place 9 = .ok (.invokestatic 214, 3) := by decide +kernel
theorem dX11_place_12 : decode cX11_place 12 = .ok (.ifCond .ne 5, 3) := by decide +kernel
theorem dX11_place_15 : decode cX11_place 15 = .ok (.iconst (-1), 1) := by decide +kernel
theorem dX11_place_16 : decode cX11_place 16 = .ok (.ireturn, 1) := by decide +kernel
theorem dX11_place_17 : decode cX11_place 17 = .ok (.iconst (-1), 1) := by decide +kernel
theorem dX11_place_18 : decode cX11_place 18 = .ok (.istore_n 3, 1) := by decide +kernel
theorem dX11_place_19 : decode cX11_place 19 = .ok (.aload_n 0, 1) := by decide +kernel
theorem dX11_place_20 : decode cX11_place 20 = .ok (.iload_n 1, 1) := by decide +kernel
theorem dX11_place_21 : decode cX11_place 21 = .ok (.iconst (-1), 1) := by decide +kernel
theorem dX11_place_22 : decode cX11_place 22 = .ok (.iload_n 2, 1) := by decide +kernel
theorem dX11_place_23 : decode cX11_place 23 = .ok (.invokevirtual 325, 3) := by decide +kernel
theorem dX11_place_26 : decode cX11_place 26 = .ok (.istore 4, 2) := by decide +kernel
theorem dX11_place_28 : decode cX11_place 28 = .ok (.iconst 0, 1) := by decide +kernel
theorem dX11_place_29 : decode cX11_place 29 = .ok (.istore 5, 2) := by decide +kernel
theorem dX11_place_31 : decode cX11_place 31 = .ok (.iload 5, 2) := by decide +kernel
theorem dX11_place_33 : decode cX11_place 33 = .ok (.aload_n 0, 1) := by decide +kernel
theorem dX11_place_34 : decode cX11_place 34 = .ok (.getfield 10, 3) := by decide +kernel
theorem dX11_place_37 : decode cX11_place 37 = .ok (.getfield 173, 3) := by decide +kernel
theorem dX11_place_40 : decode cX11_place 40 = .ok (.if_icmp .ge 43, 3) := by decide +kernel
theorem dX11_place_43 : decode cX11_place 43 = .ok (.aload_n 0, 1) := by decide +kernel
theorem dX11_place_44 : decode cX11_place 44 = .ok (.iload 5, 2) := by decide +kernel
theorem dX11_place_46 : decode cX11_place 46 = .ok (.iload_n 1, 1) := by decide +kernel
theorem dX11_place_47 : decode cX11_place 47 = .ok (.invokevirtual 169, 3) := by decide +kernel
theorem dX11_place_50 : decode cX11_place 50 = .ok (.ifCond .eq 27, 3) := by decide +kernel
theorem dX11_place_53 : decode cX11_place 53 = .ok (.aload_n 0, 1) := by decide +kernel
theorem dX11_place_54 : decode cX11_place 54 = .ok (.iload_n 1, 1) := by decide +kernel
theorem dX11_place_55 : decode cX11_place 55 = .ok (.iload 5, 2) := by decide +kernel
theorem dX11_place_57 : decode cX11_place 57 = .ok (.iload_n 2, 1) := by decide +kernel
theorem dX11_place_58 : decode cX11_place 58 = .ok (.invokevirtual 325, 3) := by decide +kernel
theorem dX11_place_61 : decode cX11_place 61 = .ok (.istore 6, 2) := by decide +kernel
theorem dX11_place_63 : decode cX11_place 63 = .ok (.iload 6, 2) := by decide +kernel
theorem dX11_place_65 : decode cX11_place 65 = .ok (.iload 4, 2) := by decide +kernel
theorem dX11_place_67 : decode cX11_place 67 = .ok (.if_icmp .ge 10, 3) := by decide +kernel
theorem dX11_place_70 : decode cX11_place 70 = .ok (.iload 6, 2) := by decide +kernel
theorem dX11_place_72 : decode cX11_place 72 = .ok (.istore 4, 2) := by decide +kernel
theorem dX11_place_74 : decode cX11_place 74 = .ok (.iload 5, 2) := by decide +kernel
theorem dX11_place_76 : decode cX11_place 76 = .ok (.istore_n 3, 1) := by decide +kernel
theorem dX11_place_77 : decode cX11_place 77 = .ok (.iinc 5 1, 3) := by decide +kernel
theorem dX11_place_80 : decode cX11_place 80 = .ok (.goto (-49), 3) := by decide +kernel
theorem dX11_place_83 : decode cX11_place 83 = .ok (.aload_n 0, 1) := by decide +kernel
theorem dX11_place_84 : decode cX11_place 84 = .ok (.invokevirtual 223, 3) := by decide +kernel
theorem dX11_place_87 : decode cX11_place 87 = .ok (.aload_n 0, 1) := by decide +kernel
theorem dX11_place_88 : decode cX11_place 88 = .ok (.iload_n 3, 1) := by decide +kernel
theorem dX11_place_89 : decode cX11_place 89 = .ok (.invokevirtual 229, 3) := by decide +kernel
theorem dX11_place_92 : decode cX11_place 92 = .ok (.iload 4, 2) := by decide +kernel
theorem dX11_place_94 : decode cX11_place 94 = .ok (.ireturn, 1) := by decide +kernel
theorem bkX11_place_0 {b : Int} {mem : qm} {Q : Int → qm → Prop}
    {j v : Int}
    {P3 : Int → qm → Prop}
    (l1 : (0 ≤ j ∧ j < (mem 1 3)) → (0 ≤ v ∧ v ≤ 200) → q_Ev yX11_lostWithBelow cX11_lostWithBelow 4 (some .int) 4 0 0 [(2, 0), (0, j), (0, (-1)), (0, v)] (q_sh0, q_rb b, mem) (qK (q_rb b) (P3)))
    (l2 : (0 ≤ j ∧ j < (mem 1 3)) → (0 ≤ v ∧ v ≤ 200) → ∀ (r3 : Int), ∀ (m3 : qm), P3 r3 m3 → q_in32 r3 → q_At yX11_place cX11_place 7 (some .int) 5 0 0 (qK (q_rb b) Q) 31 [(2, 0), (0, j), (0, v), (0, (-1)), (0, r3), (0, 0), (4, 0)] [] (q_sh0, q_rb b, m3))
    (l3 : (0 ≤ j ∧ j < (mem 1 3)) → ¬ (0 ≤ v ∧ v ≤ 200) → Q (-1) mem)
    (l4 : ¬ (0 ≤ j ∧ j < (mem 1 3)) → Q (-1) mem) :
    q_At yX11_place cX11_place 7 (some .int) 5 0 0 (qK (q_rb b) Q) 0 [(2, 0), (0, j), (0, v), (4, 0), (4, 0), (4, 0), (4, 0)] [] (q_sh0, q_rb b, mem) := by
  refine q_aload_n dX11_place_0 rfl rfl ?_
  refine q_iload_n dX11_place_1 rfl rfl ?_
  refine qx_invV (ci := 11) [(0, j)] [(0, j), (2, 0)] rfl qM_X11_isJar dX11_place_2 tw576 rfl qs0 rfl rfl rfl rfl (spX11_isJar) (fun r1 m1 p1 q1 => ?_)
  obtain ⟨p1e, ⟨p1f, p1⟩ | ⟨p1f, p1⟩⟩ := p1
  · rw [p1e, p1f]
    refine qx_if_eq (tgt := 15) dX11_place_5 (by decide) (fun z => absurd z (by decide)) (fun _ => ?_)
    refine q_iload_n dX11_place_8 rfl rfl ?_
    refine qx_invS [(0, v)] [(0, v)] rfl qM_X11_isSpan dX11_place_9 tw668 rfl rfl rfl rfl (spX11_isSpan) (fun r2 m2 p2 q2 => ?_)
    obtain ⟨p2e, ⟨p2f, p2⟩ | ⟨p2f, p2⟩⟩ := p2
    · rw [p2e, p2f]
      refine qx_if_ne (tgt := 17) dX11_place_12 (by decide) (fun _ => ?_) (fun z => absurd z (by decide))
      refine qx_iconst dX11_place_17 rfl rfl ?_
      refine qx_istore_n (L' := [(2, 0), (0, j), (0, v), (0, (-1)), (4, 0), (4, 0), (4, 0)]) dX11_place_18 rfl rfl rfl rfl ?_
      refine q_aload_n dX11_place_19 rfl rfl ?_
      refine q_iload_n dX11_place_20 rfl rfl ?_
      refine qx_iconst dX11_place_21 rfl rfl ?_
      refine q_iload_n dX11_place_22 rfl rfl ?_
      refine qx_invV (ci := 11) [(0, j), (0, (-1)), (0, v)] [(0, v), (0, (-1)), (0, j), (2, 0)] rfl qM_X11_lostWithBelow dX11_place_23 tw857 rfl qs0 rfl rfl rfl rfl (l1 p1 p2) (fun r3 m3 p3 q3 => ?_)
      refine qx_istore (L' := [(2, 0), (0, j), (0, v), (0, (-1)), (0, r3), (4, 0), (4, 0)]) dX11_place_26 rfl rfl rfl ?_
      refine qx_iconst dX11_place_28 rfl rfl ?_
      refine qx_istore (L' := [(2, 0), (0, j), (0, v), (0, (-1)), (0, r3), (0, 0), (4, 0)]) dX11_place_29 rfl rfl rfl ?_
      exact l2 p1 p2 r3 m3 p3 q3
    · rw [p2e, p2f]
      refine qx_if_ne (tgt := 17) dX11_place_12 (by decide) (fun z => absurd z (by decide)) (fun _ => ?_)
      refine qx_iconst dX11_place_15 rfl rfl ?_
      exact q_iret dX11_place_16 (qK_i (l3 p1 p2))
  · rw [p1e, p1f]
    refine qx_if_eq (tgt := 15) dX11_place_5 (by decide) (fun _ => ?_) (fun z => absurd z (by decide))
    refine qx_iconst dX11_place_15 rfl rfl ?_
    exact q_iret dX11_place_16 (qK_i (l4 p1))
theorem bkX11_place_31 {b : Int} {mem : qm} {Q : Int → qm → Prop}
    {j v v3 v4 v5 : Int}
    (o1 : (mem 1 3) ≤ v5 → (0 ≤ (0 : Int) ∧ (0 : Int) < 10))
    (l2 : (mem 1 3) ≤ v5 → Q v4 (q_up (q_up (q_up mem 0 16 0) 169 (0 : Int) v3) 0 16 ((0 : Int) + 1)))
    (o3 : v5 < (mem 1 3) → ((mem 1 3) ≤ 9 ∧ 0 ≤ j ∧ j < (mem 1 3)))
    {P5 : Int → qm → Prop}
    (l4 : v5 < (mem 1 3) → ((0 ≤ v5 ∧ v5 < (mem 1 3)) ∧ (mem 4 v5) < (mem 4 j)) → q_Ev yX11_lostWithBelow cX11_lostWithBelow 4 (some .int) 4 0 0 [(2, 0), (0, j), (0, v5), (0, v)] (q_sh0, q_rb b, mem) (qK (q_rb b) (P5)))
    (o5 : v5 < (mem 1 3) → ((0 ≤ v5 ∧ v5 < (mem 1 3)) ∧ (mem 4 v5) < (mem 4 j)) → ∀ (r5 : Int), ∀ (m5 : qm), P5 r5 m5 → q_in32 r5 → v4 ≤ r5 → q_in32 (v5 + 1))
    (l6 : v5 < (mem 1 3) → ((0 ≤ v5 ∧ v5 < (mem 1 3)) ∧ (mem 4 v5) < (mem 4 j)) → ∀ (r5 : Int), ∀ (m5 : qm), P5 r5 m5 → q_in32 r5 → v4 ≤ r5 → q_At yX11_place cX11_place 7 (some .int) 5 0 0 (qK (q_rb b) Q) 31 [(2, 0), (0, j), (0, v), (0, v3), (0, v4), (0, (v5 + 1)), (4, 0)] [] (q_sh0, q_rb b, m5))
    (o7 : v5 < (mem 1 3) → ((0 ≤ v5 ∧ v5 < (mem 1 3)) ∧ (mem 4 v5) < (mem 4 j)) → ∀ (r5 : Int), ∀ (m5 : qm), P5 r5 m5 → q_in32 r5 → r5 < v4 → q_in32 (v5 + 1))
    (l8 : v5 < (mem 1 3) → ((0 ≤ v5 ∧ v5 < (mem 1 3)) ∧ (mem 4 v5) < (mem 4 j)) → ∀ (r5 : Int), ∀ (m5 : qm), P5 r5 m5 → q_in32 r5 → r5 < v4 → q_At yX11_place cX11_place 7 (some .int) 5 0 0 (qK (q_rb b) Q) 31 [(2, 0), (0, j), (0, v), (0, v5), (0, r5), (0, (v5 + 1)), (4, 0)] [] (q_sh0, q_rb b, m5))
    (o9 : v5 < (mem 1 3) → ¬ ((0 ≤ v5 ∧ v5 < (mem 1 3)) ∧ (mem 4 v5) < (mem 4 j)) → q_in32 (v5 + 1))
    (l10 : v5 < (mem 1 3) → ¬ ((0 ≤ v5 ∧ v5 < (mem 1 3)) ∧ (mem 4 v5) < (mem 4 j)) → q_At yX11_place cX11_place 7 (some .int) 5 0 0 (qK (q_rb b) Q) 31 [(2, 0), (0, j), (0, v), (0, v3), (0, v4), (0, (v5 + 1)), (4, 0)] [] (q_sh0, q_rb b, mem)) :
    q_At yX11_place cX11_place 7 (some .int) 5 0 0 (qK (q_rb b) Q) 31 [(2, 0), (0, j), (0, v), (0, v3), (0, v4), (0, v5), (4, 0)] [] (q_sh0, q_rb b, mem) := by
  refine q_iload dX11_place_31 rfl ?_
  refine q_aload_n dX11_place_33 rfl rfl ?_
  refine q_getR (ci := 11) (k := 0) dX11_place_34 rfl (by decide) rfl tw349 (by decide) qs0 qw0_0 (by decide) ?_
  refine qx_getI (ci := 9) (k := 3) (v := (mem 1 3)) dX11_place_37 rfl rfl rfl tw53 rfl qs1 rfl ?_
  refine qx_icmp_ge (tgt := 83) dX11_place_40 (by decide) (fun c1 => ?_) (fun c1 => ?_)
  · skip
    refine q_aload_n dX11_place_83 rfl rfl ?_
    refine qx_invV (ci := 11) [] [(2, 0)] rfl qM_X11_clearRow dX11_place_84 tw691 rfl qs0 rfl rfl rfl rfl (spX11_clearRow) (fun r2 m2 p2 q2 => ?_)
    obtain rfl := p2
    refine q_aload_n dX11_place_87 rfl rfl ?_
    refine q_iload_n dX11_place_88 rfl rfl ?_
    refine qx_invV (ci := 11) [(0, v3)] [(0, v3), (2, 0)] rfl qM_X11_tell dX11_place_89 tw699 rfl qs0 rfl rfl rfl rfl (spX11_tell (by first | exact (o1 c1) | (simp only [q_up, Int.reduceEq, false_and, true_and, and_true, and_false, ite_false, ite_true, if_true, if_false]; exact (o1 c1)))) (fun r3 m3 p3 q3 => ?_)
    obtain rfl := p3
    refine q_iload dX11_place_92 rfl ?_
    exact q_iret dX11_place_94 (qK_i (l2 c1))
  · skip
    refine q_aload_n dX11_place_43 rfl rfl ?_
    refine q_iload dX11_place_44 rfl ?_
    refine q_iload_n dX11_place_46 rfl rfl ?_
    refine qx_invV (ci := 11) [(0, v5), (0, j)] [(0, j), (0, v5), (2, 0)] rfl qM_X11_canStandBelow dX11_place_47 tw584 rfl qs0 rfl rfl rfl rfl (spX11_canStandBelow (o3 c1)) (fun r4 m4 p4 q4 => ?_)
    obtain ⟨p4e, ⟨p4f, p4⟩ | ⟨p4f, p4⟩⟩ := p4
    · rw [p4e, p4f]
      refine qx_if_eq (tgt := 77) dX11_place_50 (by decide) (fun z => absurd z (by decide)) (fun _ => ?_)
      refine q_aload_n dX11_place_53 rfl rfl ?_
      refine q_iload_n dX11_place_54 rfl rfl ?_
      refine q_iload dX11_place_55 rfl ?_
      refine q_iload_n dX11_place_57 rfl rfl ?_
      refine qx_invV (ci := 11) [(0, j), (0, v5), (0, v)] [(0, v), (0, v5), (0, j), (2, 0)] rfl qM_X11_lostWithBelow dX11_place_58 tw857 rfl qs0 rfl rfl rfl rfl (l4 c1 p4) (fun r5 m5 p5 q5 => ?_)
      refine qx_istore (L' := [(2, 0), (0, j), (0, v), (0, v3), (0, v4), (0, v5), (0, r5)]) dX11_place_61 rfl rfl rfl ?_
      refine q_iload dX11_place_63 rfl ?_
      refine q_iload dX11_place_65 rfl ?_
      refine qx_icmp_ge (tgt := 77) dX11_place_67 (by decide) (fun c6 => ?_) (fun c6 => ?_)
      · skip
        refine qx_iinc (L' := [(2, 0), (0, j), (0, v), (0, v3), (0, v4), (0, (v5 + 1)), (0, r5)]) dX11_place_77 rfl rfl rfl (o5 c1 p4 r5 m5 p5 q5 c6) rfl ?_
        refine q_goto (tgt := 31) dX11_place_80 (by decide) ?_
        refine q_kill (L' := [(2, 0), (0, j), (0, v), (0, v3), (0, v4), (0, (v5 + 1)), (4, 0)]) 6 rfl ?_
        exact l6 c1 p4 r5 m5 p5 q5 c6
      · skip
        refine q_iload dX11_place_70 rfl ?_
        refine qx_istore (L' := [(2, 0), (0, j), (0, v), (0, v3), (0, r5), (0, v5), (0, r5)]) dX11_place_72 rfl rfl rfl ?_
        refine q_iload dX11_place_74 rfl ?_
        refine qx_istore_n (L' := [(2, 0), (0, j), (0, v), (0, v5), (0, r5), (0, v5), (0, r5)]) dX11_place_76 rfl rfl rfl rfl ?_
        refine qx_iinc (L' := [(2, 0), (0, j), (0, v), (0, v5), (0, r5), (0, (v5 + 1)), (0, r5)]) dX11_place_77 rfl rfl rfl (o7 c1 p4 r5 m5 p5 q5 c6) rfl ?_
        refine q_goto (tgt := 31) dX11_place_80 (by decide) ?_
        refine q_kill (L' := [(2, 0), (0, j), (0, v), (0, v5), (0, r5), (0, (v5 + 1)), (4, 0)]) 6 rfl ?_
        exact l8 c1 p4 r5 m5 p5 q5 c6
    · rw [p4e, p4f]
      refine qx_if_eq (tgt := 77) dX11_place_50 (by decide) (fun _ => ?_) (fun z => absurd z (by decide))
      refine qx_iinc (L' := [(2, 0), (0, j), (0, v), (0, v3), (0, v4), (0, (v5 + 1)), (4, 0)]) dX11_place_77 rfl rfl rfl (o9 c1 p4) rfl ?_
      refine q_goto (tgt := 31) dX11_place_80 (by decide) ?_
      exact l10 c1 p4
theorem dX5_lastBell_0 : decode cX5_lastBell 0 = .ok (.iconst (-1), 1) := by decide +kernel
theorem dX5_lastBell_1 : decode cX5_lastBell 1 = .ok (.istore_n 1, 1) := by decide +kernel
theorem dX5_lastBell_2 : decode cX5_lastBell 2 = .ok (.iconst 0, 1) := by decide +kernel
theorem dX5_lastBell_3 : decode cX5_lastBell 3 = .ok (.istore_n 2, 1) := by decide +kernel
theorem dX5_lastBell_4 : decode cX5_lastBell 4 = .ok (.iload_n 2, 1) := by decide +kernel
theorem dX5_lastBell_5 : decode cX5_lastBell 5 = .ok (.aload_n 0, 1) := by decide +kernel
theorem dX5_lastBell_6 : decode cX5_lastBell 6 = .ok (.getfield 21, 3) := by decide +kernel
theorem dX5_lastBell_9 : decode cX5_lastBell 9 = .ok (.if_icmp .ge 20, 3) := by decide +kernel
theorem dX5_lastBell_12 : decode cX5_lastBell 12 = .ok (.iload_n 1, 1) := by decide +kernel
theorem dX5_lastBell_13 : decode cX5_lastBell 13 = .ok (.aload_n 0, 1) := by decide +kernel
theorem dX5_lastBell_14 : decode cX5_lastBell 14 = .ok (.getfield 15, 3) := by decide +kernel
theorem dX5_lastBell_17 : decode cX5_lastBell 17 = .ok (.iload_n 2, 1) := by decide +kernel
theorem dX5_lastBell_18 : decode cX5_lastBell 18 = .ok (.iaload, 1) := by decide +kernel
theorem dX5_lastBell_19 : decode cX5_lastBell 19 = .ok (.invokestatic 39, 3) := by decide +kernel
theorem dX5_lastBell_22 : decode cX5_lastBell 22 = .ok (.istore_n 1, 1) := by decide +kernel
theorem dX5_lastBell_23 : decode cX5_lastBell 23 = .ok (.iinc 2 1, 3) := by decide +kernel
theorem dX5_lastBell_26 : decode cX5_lastBell 26 = .ok (.goto (-22), 3) := by decide +kernel
theorem dX5_lastBell_29 : decode cX5_lastBell 29 = .ok (.iload_n 1, 1) := by decide +kernel
theorem dX5_lastBell_30 : decode cX5_lastBell 30 = .ok (.ireturn, 1) := by decide +kernel
theorem bkX5_lastBell_0 {b : Int} {mem : qm} {Q : Int → qm → Prop}
    (l1 : q_At yX5_lastBell cX5_lastBell 3 (some .int) 1 0 0 (qK (q_rb b) Q) 4 [(2, 159), (0, (-1)), (0, 0)] [] (q_sh0, q_rb b, mem)) :
    q_At yX5_lastBell cX5_lastBell 3 (some .int) 1 0 0 (qK (q_rb b) Q) 0 [(2, 159), (4, 0), (4, 0)] [] (q_sh0, q_rb b, mem) := by
  refine qx_iconst dX5_lastBell_0 rfl rfl ?_
  refine qx_istore_n (L' := [(2, 159), (0, (-1)), (4, 0)]) dX5_lastBell_1 rfl rfl rfl rfl ?_
  refine qx_iconst dX5_lastBell_2 rfl rfl ?_
  refine qx_istore_n (L' := [(2, 159), (0, (-1)), (0, 0)]) dX5_lastBell_3 rfl rfl rfl rfl ?_
  exact l1
theorem bkX5_lastBell_4 {b : Int} {mem : qm} {Q : Int → qm → Prop}
    {v1 v2 : Int}
    (l1 : (mem 159 3) ≤ v2 → Q v1 mem)
    (o2 : v2 < (mem 159 3) → (0 ≤ v2 ∧ v2 < 10) ∧ q_in32 (v2 + 1))
    (l3 : v2 < (mem 159 3) → q_At yX5_lastBell cX5_lastBell 3 (some .int) 1 0 0 (qK (q_rb b) Q) 4 [(2, 159), (0, (max v1 (mem 161 v2))), (0, (v2 + 1))] [] (q_sh0, q_rb b, mem)) :
    q_At yX5_lastBell cX5_lastBell 3 (some .int) 1 0 0 (qK (q_rb b) Q) 4 [(2, 159), (0, v1), (0, v2)] [] (q_sh0, q_rb b, mem) := by
  refine q_iload_n dX5_lastBell_4 rfl rfl ?_
  refine q_aload_n dX5_lastBell_5 rfl rfl ?_
  refine qx_getI (ci := 5) (k := 3) (v := (mem 159 3)) dX5_lastBell_6 rfl rfl rfl tw312 rfl qs159 rfl ?_
  refine qx_icmp_ge (tgt := 29) dX5_lastBell_9 (by decide) (fun c1 => ?_) (fun c1 => ?_)
  · skip
    refine q_iload_n dX5_lastBell_29 rfl rfl ?_
    exact q_iret dX5_lastBell_30 (qK_i (l1 c1))
  · skip
    refine q_iload_n dX5_lastBell_12 rfl rfl ?_
    refine q_aload_n dX5_lastBell_13 rfl rfl ?_
    refine q_getR (ci := 5) (k := 1) dX5_lastBell_14 rfl (by decide) rfl tw310 (by decide) qs159 qw159_1 (by decide) ?_
    refine q_iload_n dX5_lastBell_17 rfl rfl ?_
    refine qx_iald (v := (mem 161 v2)) dX5_lastBell_18 qs161 (o2 c1).1 rfl ?_
    refine q_max dX5_lastBell_19 tw1046 tw597 tw15 tw598 (by decide) (Nat.le_of_ble_eq_true rfl) ?_
    refine qx_istore_n (L' := [(2, 159), (0, (max v1 (mem 161 v2))), (0, v2)]) dX5_lastBell_22 rfl rfl rfl rfl ?_
    refine qx_iinc (L' := [(2, 159), (0, (max v1 (mem 161 v2))), (0, (v2 + 1))]) dX5_lastBell_23 rfl rfl rfl (o2 c1).2 rfl ?_
    refine q_goto (tgt := 4) dX5_lastBell_26 (by decide) ?_
    exact l3 c1
theorem dX5_fitAt_0 : decode cX5_fitAt 0 = .ok (.iconst 0, 1) := by decide +kernel
theorem dX5_fitAt_1 : decode cX5_fitAt 1 = .ok (.istore_n 3, 1) := by decide +kernel
theorem dX5_fitAt_2 : decode cX5_fitAt 2 = .ok (.iload_n 3, 1) := by decide +kernel
theorem dX5_fitAt_3 : decode cX5_fitAt 3 = .ok (.aload_n 0, 1) := by decide +kernel
theorem dX5_fitAt_4 : decode cX5_fitAt 4 = .ok (.getfield 21, 3) := by decide +kernel
theorem dX5_fitAt_7 : decode cX5_fitAt 7 = .ok (.if_icmp .ge 41, 3) := by decide +kernel
theorem dX5_fitAt_10 : decode cX5_fitAt 10 = .ok (.aload_n 0, 1) := by decide +kernel
theorem dX5_fitAt_11 : decode cX5_fitAt 11 = .ok (.getfield 15, 3) := by decide +kernel
theorem dX5_fitAt_14 : decode cX5_fitAt 14 = .ok (.iload_n 3, 1) := by decide +kernel
theorem dX5_fitAt_15 : decode cX5_fitAt 15 = .ok (.iaload, 1) := by decide +kernel
theorem dX5_fitAt_16 : decode cX5_fitAt 16 = .ok (.iload_n 1, 1) := by decide +kernel
theorem dX5_fitAt_17 : decode cX5_fitAt 17 = .ok (.if_icmp .ne 25, 3) := by decide +kernel
theorem dX5_fitAt_20 : decode cX5_fitAt 20 = .ok (.aload_n 2, 1) := by decide +kernel
theorem dX5_fitAt_21 : decode cX5_fitAt 21 = .ok (.getfield 45, 3) := by decide +kernel
theorem dX5_fitAt_24 : decode cX5_fitAt 24 = .ok (.aload_n 0, 1) := by decide +kernel
theorem dX5_fitAt_25 : decode cX5_fitAt 25 = .ok (.getfield 9, 3) := by decide +kernel
theorem dX5_fitAt_28 : decode cX5_fitAt 28 = .ok (.iload_n 3, 1) := by decide +kernel
theorem dX5_fitAt_29 : decode cX5_fitAt 29 = .ok (.iaload, 1) := by decide +kernel
theorem dX5_fitAt_30 : decode cX5_fitAt 30 = .ok (.iaload, 1) := by decide +kernel
theorem dX5_fitAt_31 : decode cX5_fitAt 31 = .ok (.aload_n 0, 1) := by decide +kernel
theorem dX5_fitAt_32 : decode cX5_fitAt 32 = .ok (.getfield 18, 3) := by decide +kernel
theorem dX5_fitAt_35 : decode cX5_fitAt 35 = .ok (.iload_n 3, 1) := by decide +kernel
theorem dX5_fitAt_36 : decode cX5_fitAt 36 = .ok (.iaload, 1) := by decide +kernel
theorem dX5_fitAt_37 : decode cX5_fitAt 37 = .ok (.if_icmp .eq 5, 3) := by decide +kernel
theorem dX5_fitAt_40 : decode cX5_fitAt 40 = .ok (.iconst 0, 1) := by decide +kernel
theorem dX5_fitAt_41 : decode cX5_fitAt 41 = .ok (.ireturn, 1) := by decide +kernel
theorem dX5_fitAt_42 : decode cX5_fitAt 42 = .ok (.iinc 3 1, 3) := by decide +kernel
theorem dX5_fitAt_45 : decode cX5_fitAt 45 = .ok (.goto (-43), 3) := by decide +kernel
theorem dX5_fitAt_48 : decode cX5_fitAt 48 = .ok (.iconst 1, 1) := by decide +kernel
theorem dX5_fitAt_49 : decode cX5_fitAt 49 = .ok (.ireturn, 1) := by decide +kernel
theorem bkX5_fitAt_0 {b : Int} {mem : qm} {Q : Int → qm → Prop}
    {v : Int}
    (l1 : q_At yX5_fitAt cX5_fitAt 4 (some .boolean) 1 0 0 (qK (q_rb b) Q) 2 [(2, 159), (0, v), (2, 26), (0, 0)] [] (q_sh0, q_rb b, mem)) :
    q_At yX5_fitAt cX5_fitAt 4 (some .boolean) 1 0 0 (qK (q_rb b) Q) 0 [(2, 159), (0, v), (2, 26), (4, 0)] [] (q_sh0, q_rb b, mem) := by
  refine qx_iconst dX5_fitAt_0 rfl rfl ?_
  refine qx_istore_n (L' := [(2, 159), (0, v), (2, 26), (0, 0)]) dX5_fitAt_1 rfl rfl rfl rfl ?_
  exact l1
theorem bkX5_fitAt_2 {b : Int} {mem : qm} {Q : Int → qm → Prop}
    {v v3 : Int}
    (l1 : (mem 159 3) ≤ v3 → Q 1 mem)
    (o2 : v3 < (mem 159 3) → (0 ≤ v3 ∧ v3 < 10))
    (o3 : v3 < (mem 159 3) → (mem 161 v3) ≠ v → q_in32 (v3 + 1))
    (l4 : v3 < (mem 159 3) → (mem 161 v3) ≠ v → q_At yX5_fitAt cX5_fitAt 4 (some .boolean) 1 0 0 (qK (q_rb b) Q) 2 [(2, 159), (0, v), (2, 26), (0, (v3 + 1))] [] (q_sh0, q_rb b, mem))
    (o5 : v3 < (mem 159 3) → (mem 161 v3) = v → (0 ≤ (mem 160 v3) ∧ (mem 160 v3) < 9))
    (o6 : v3 < (mem 159 3) → (mem 161 v3) = v → (mem 27 (mem 160 v3)) = (mem 162 v3) → q_in32 (v3 + 1))
    (l7 : v3 < (mem 159 3) → (mem 161 v3) = v → (mem 27 (mem 160 v3)) = (mem 162 v3) → q_At yX5_fitAt cX5_fitAt 4 (some .boolean) 1 0 0 (qK (q_rb b) Q) 2 [(2, 159), (0, v), (2, 26), (0, (v3 + 1))] [] (q_sh0, q_rb b, mem))
    (l8 : v3 < (mem 159 3) → (mem 161 v3) = v → (mem 27 (mem 160 v3)) ≠ (mem 162 v3) → Q 0 mem) :
    q_At yX5_fitAt cX5_fitAt 4 (some .boolean) 1 0 0 (qK (q_rb b) Q) 2 [(2, 159), (0, v), (2, 26), (0, v3)] [] (q_sh0, q_rb b, mem) := by
  refine q_iload_n dX5_fitAt_2 rfl rfl ?_
  refine q_aload_n dX5_fitAt_3 rfl rfl ?_
  refine qx_getI (ci := 5) (k := 3) (v := (mem 159 3)) dX5_fitAt_4 rfl rfl rfl tw312 rfl qs159 rfl ?_
  refine qx_icmp_ge (tgt := 48) dX5_fitAt_7 (by decide) (fun c1 => ?_) (fun c1 => ?_)
  · skip
    refine qx_iconst dX5_fitAt_48 rfl rfl ?_
    exact q_zret dX5_fitAt_49 (by decide) (qK_i (l1 c1))
  · skip
    refine q_aload_n dX5_fitAt_10 rfl rfl ?_
    refine q_getR (ci := 5) (k := 1) dX5_fitAt_11 rfl (by decide) rfl tw310 (by decide) qs159 qw159_1 (by decide) ?_
    refine q_iload_n dX5_fitAt_14 rfl rfl ?_
    refine qx_iald (v := (mem 161 v3)) dX5_fitAt_15 qs161 (o2 c1) rfl ?_
    refine q_iload_n dX5_fitAt_16 rfl rfl ?_
    refine qx_icmp_ne (tgt := 42) dX5_fitAt_17 (by decide) (fun c2 => ?_) (fun c2 => ?_)
    · skip
      refine qx_iinc (L' := [(2, 159), (0, v), (2, 26), (0, (v3 + 1))]) dX5_fitAt_42 rfl rfl rfl (o3 c1 c2) rfl ?_
      refine q_goto (tgt := 2) dX5_fitAt_45 (by decide) ?_
      exact l4 c1 c2
    · skip
      refine q_aload_n dX5_fitAt_20 rfl rfl ?_
      refine q_getR (ci := 1) (k := 1) dX5_fitAt_21 rfl (by decide) rfl tw152 (by decide) qs26 qw26_1 (by decide) ?_
      refine q_aload_n dX5_fitAt_24 rfl rfl ?_
      refine q_getR (ci := 5) (k := 0) dX5_fitAt_25 rfl (by decide) rfl tw309 (by decide) qs159 qw159_0 (by decide) ?_
      refine q_iload_n dX5_fitAt_28 rfl rfl ?_
      refine qx_iald (v := (mem 160 v3)) dX5_fitAt_29 qs160 (o2 c1) rfl ?_
      refine qx_iald (v := (mem 27 (mem 160 v3))) dX5_fitAt_30 qs27 (o5 c1 c2) rfl ?_
      refine q_aload_n dX5_fitAt_31 rfl rfl ?_
      refine q_getR (ci := 5) (k := 2) dX5_fitAt_32 rfl (by decide) rfl tw311 (by decide) qs159 qw159_2 (by decide) ?_
      refine q_iload_n dX5_fitAt_35 rfl rfl ?_
      refine qx_iald (v := (mem 162 v3)) dX5_fitAt_36 qs162 (o2 c1) rfl ?_
      refine qx_icmp_eq (tgt := 42) dX5_fitAt_37 (by decide) (fun c3 => ?_) (fun c3 => ?_)
      · skip
        refine qx_iinc (L' := [(2, 159), (0, v), (2, 26), (0, (v3 + 1))]) dX5_fitAt_42 rfl rfl rfl (o6 c1 c2 c3) rfl ?_
        refine q_goto (tgt := 2) dX5_fitAt_45 (by decide) ?_
        exact l7 c1 c2 c3
      · skip
        refine qx_iconst dX5_fitAt_40 rfl rfl ?_
        exact q_zret dX5_fitAt_41 (by decide) (qK_i (l8 c1 c2 c3))
theorem dX5_fit_0 : decode cX5_fit 0 = .ok (.aload_n 0, 1) := by decide +kernel
theorem dX5_fit_1 : decode cX5_fit 1 = .ok (.invokevirtual 25, 3) := by decide +kernel
theorem dX5_fit_4 : decode cX5_fit 4 = .ok (.istore_n 2, 1) := by decide +kernel
theorem dX5_fit_5 : decode cX5_fit 5 = .ok (.iconst 0, 1) := by decide +kernel
theorem dX5_fit_6 : decode cX5_fit 6 = .ok (.istore_n 3, 1) := by decide +kernel
theorem dX5_fit_7 : decode cX5_fit 7 = .ok (.iload_n 3, 1) := by decide +kernel
theorem dX5_fit_8 : decode cX5_fit 8 = .ok (.iload_n 2, 1) := by decide +kernel
theorem dX5_fit_9 : decode cX5_fit 9 = .ok (.if_icmp .gt 25, 3) := by decide +kernel
theorem dX5_fit_12 : decode cX5_fit 12 = .ok (.aload_n 0, 1) := by decide +kernel
theorem dX5_fit_13 : decode cX5_fit 13 = .ok (.iload_n 3, 1) := by decide +kernel
theorem dX5_fit_14 : decode cX5_fit 14 = .ok (.aload_n 1, 1) := by decide +kernel
theorem dX5_fit_15 : decode cX5_fit 15 = .ok (.invokevirtual 29, 3) := by decide +kernel
theorem dX5_fit_18 : decode cX5_fit 18 = .ok (.ifCond .ne 5, 3) := by decide +kernel
theorem dX5_fit_21 : decode cX5_fit 21 = .ok (.iconst 0, 1) := by decide +kernel
theorem dX5_fit_22 : decode cX5_fit 22 = .ok (.ireturn, 1) := by decide +kernel
theorem dX5_fit_23 : decode cX5_fit 23 = .ok (.aload_n 1, 1) := by decide +kernel
theorem dX5_fit_24 : decode cX5_fit 24 = .ok (.iconst 1, 1) := by decide +kernel
theorem dX5_fit_25 : decode cX5_fit 25 = .ok (.invokevirtual 33, 3) := by decide +kernel
theorem dX5_fit_28 : decode cX5_fit 28 = .ok (.iinc 3 1, 3) := by decide +kernel
theorem dX5_fit_31 : decode cX5_fit 31 = .ok (.goto (-24), 3) := by decide +kernel
theorem dX5_fit_34 : decode cX5_fit 34 = .ok (.iconst 1, 1) := by decide +kernel
theorem dX5_fit_35 : decode cX5_fit 35 = .ok (.ireturn, 1) := by decide +kernel
theorem bkX5_fit_0 {b : Int} {mem : qm} {Q : Int → qm → Prop}
    {P1 : Int → qm → Prop}
    (l1 : q_Ev yX5_lastBell cX5_lastBell 3 (some .int) 1 0 0 [(2, 159)] (q_sh0, q_rb b, mem) (qK (q_rb b) (P1)))
    (l2 : ∀ (r1 : Int), ∀ (m1 : qm), P1 r1 m1 → q_in32 r1 → q_At yX5_fit cX5_fit 4 (some .boolean) 4 0 0 (qK (q_rb b) Q) 7 [(2, 159), (2, 26), (0, r1), (0, 0)] [] (q_sh0, q_rb b, m1)) :
    q_At yX5_fit cX5_fit 4 (some .boolean) 4 0 0 (qK (q_rb b) Q) 0 [(2, 159), (2, 26), (4, 0), (4, 0)] [] (q_sh0, q_rb b, mem) := by
  refine q_aload_n dX5_fit_0 rfl rfl ?_
  refine qx_invV (ci := 5) [] [(2, 159)] rfl qM_X5_lastBell dX5_fit_1 tw1042 rfl qs159 rfl rfl rfl rfl (l1) (fun r1 m1 p1 q1 => ?_)
  refine qx_istore_n (L' := [(2, 159), (2, 26), (0, r1), (4, 0)]) dX5_fit_4 rfl rfl rfl rfl ?_
  refine qx_iconst dX5_fit_5 rfl rfl ?_
  refine qx_istore_n (L' := [(2, 159), (2, 26), (0, r1), (0, 0)]) dX5_fit_6 rfl rfl rfl rfl ?_
  exact l2 r1 m1 p1 q1
theorem bkX5_fit_7 {b : Int} {mem : qm} {Q : Int → qm → Prop}
    {v2 v3 : Int}
    (l1 : v2 < v3 → Q 1 mem)
    {P2 : Int → qm → Prop}
    (l2 : v3 ≤ v2 → q_Ev yX5_fitAt cX5_fitAt 4 (some .boolean) 1 0 0 [(2, 159), (0, v3), (2, 26)] (q_sh0, q_rb b, mem) (qK (q_rb b) (P2)))
    {P4 : Int → qm → Int → qm → Prop}
    (l3 : v3 ≤ v2 → ∀ (r2 : Int), ∀ (m2 : qm), P2 r2 m2 → q_in32 r2 → r2 ≠ 0 → q_Ev yX1_strikeAll cX1_strikeAll 3 none 3 0 0 [(2, 26), (0, 1)] (q_sh0, q_rb b, m2) (qK (q_rb b) (P4 r2 m2)))
    (o4 : v3 ≤ v2 → ∀ (r2 : Int), ∀ (m2 : qm), P2 r2 m2 → q_in32 r2 → r2 ≠ 0 → ∀ (r4 : Int), ∀ (m4 : qm), P4 r2 m2 r4 m4 → q_in32 r4 → q_in32 (v3 + 1))
    (l5 : v3 ≤ v2 → ∀ (r2 : Int), ∀ (m2 : qm), P2 r2 m2 → q_in32 r2 → r2 ≠ 0 → ∀ (r4 : Int), ∀ (m4 : qm), P4 r2 m2 r4 m4 → q_in32 r4 → q_At yX5_fit cX5_fit 4 (some .boolean) 4 0 0 (qK (q_rb b) Q) 7 [(2, 159), (2, 26), (0, v2), (0, (v3 + 1))] [] (q_sh0, q_rb b, m4))
    (l6 : v3 ≤ v2 → ∀ (r2 : Int), ∀ (m2 : qm), P2 r2 m2 → q_in32 r2 → r2 = 0 → Q 0 m2) :
    q_At yX5_fit cX5_fit 4 (some .boolean) 4 0 0 (qK (q_rb b) Q) 7 [(2, 159), (2, 26), (0, v2), (0, v3)] [] (q_sh0, q_rb b, mem) := by
  refine q_iload_n dX5_fit_7 rfl rfl ?_
  refine q_iload_n dX5_fit_8 rfl rfl ?_
  refine qx_icmp_gt (tgt := 34) dX5_fit_9 (by decide) (fun c1 => ?_) (fun c1 => ?_)
  · skip
    refine qx_iconst dX5_fit_34 rfl rfl ?_
    exact q_zret dX5_fit_35 (by decide) (qK_i (l1 c1))
  · skip
    refine q_aload_n dX5_fit_12 rfl rfl ?_
    refine q_iload_n dX5_fit_13 rfl rfl ?_
    refine q_aload_n dX5_fit_14 rfl rfl ?_
    refine qx_invV (ci := 5) [(0, v3), (2, 26)] [(2, 26), (0, v3), (2, 159)] rfl qM_X5_fitAt dX5_fit_15 tw1047 rfl qs159 rfl rfl rfl rfl (l2 c1) (fun r2 m2 p2 q2 => ?_)
    refine qx_if_ne (tgt := 23) dX5_fit_18 (by decide) (fun c3 => ?_) (fun c3 => ?_)
    · skip
      refine q_aload_n dX5_fit_23 rfl rfl ?_
      refine qx_iconst dX5_fit_24 rfl rfl ?_
      refine qx_invV (ci := 1) [(0, 1)] [(0, 1), (2, 26)] rfl qM_X1_strikeAll dX5_fit_25 tw1051 rfl qs26 rfl rfl rfl rfl (l3 c1 r2 m2 p2 q2 c3) (fun r4 m4 p4 q4 => ?_)
      refine qx_iinc (L' := [(2, 159), (2, 26), (0, v2), (0, (v3 + 1))]) dX5_fit_28 rfl rfl rfl (o4 c1 r2 m2 p2 q2 c3 r4 m4 p4 q4) rfl ?_
      refine q_goto (tgt := 7) dX5_fit_31 (by decide) ?_
      exact l5 c1 r2 m2 p2 q2 c3 r4 m4 p4 q4
    · skip
      refine qx_iconst dX5_fit_21 rfl rfl ?_
      exact q_zret dX5_fit_22 (by decide) (qK_i (l6 c1 r2 m2 p2 q2 c3))
theorem dX11_fitsWithHole_0 : decode cX11_fitsWithHole 0 = .ok (.aload_n 0, 1) := by decide +kernel
theorem dX11_fitsWithHole_1 : decode cX11_fitsWithHole 1 = .ok (.getfield 38, 3) := by decide +kernel
theorem dX11_fitsWithHole_4 : decode cX11_fitsWithHole 4 = .ok (.aload_n 0, 1) := by decide +kernel
theorem dX11_fitsWithHole_5 : decode cX11_fitsWithHole 5 = .ok (.getfield 19, 3) := by decide +kernel
theorem dX11_fitsWithHole_8 : decode cX11_fitsWithHole 8 = .ok (.invokevirtual 282, 3) := by decide +kernel
theorem dX11_fitsWithHole_11 : decode cX11_fitsWithHole 11 = .ok (.aload_n 0, 1) := by decide +kernel
theorem dX11_fitsWithHole_12 : decode cX11_fitsWithHole 12 = .ok (.getfield 38, 3) := by decide +kernel
theorem dX11_fitsWithHole_15 : decode cX11_fitsWithHole 15 = .ok (.getfield 324, 3) := by decide +kernel
theorem dX11_fitsWithHole_18 : decode cX11_fitsWithHole 18 = .ok (.iload_n 1, 1) := by decide +kernel
theorem dX11_fitsWithHole_19 : decode cX11_fitsWithHole 19 = .ok (.iload_n 2, 1) := by decide +kernel
theorem dX11_fitsWithHole_20 : decode cX11_fitsWithHole 20 = .ok (.iastore, 1) := by decide +kernel
theorem dX11_fitsWithHole_21 : decode cX11_fitsWithHole 21 = .ok (.aload_n 0, 1) := by decide +kernel
theorem dX11_fitsWithHole_22 : decode cX11_fitsWithHole 22 = .ok (.getfield 90, 3) := by decide +kernel
theorem dX11_fitsWithHole_25 : decode cX11_fitsWithHole 25 = .ok (.aload_n 0, 1) := by decide +kernel
theorem dX11_fitsWithHole_26 : decode cX11_fitsWithHole 26 = .ok (.getfield 38, 3) := by decide +kernel
theorem dX11_fitsWithHole_29 : decode cX11_fitsWithHole 29 = .ok (.invokevirtual 386, 3) := by decide +kernel
theorem dX11_fitsWithHole_32 : decode cX11_fitsWithHole 32 = .ok (.ireturn, 1) := by decide +kernel
theorem bkX11_fitsWithHole_0 {b : Int} {mem : qm} {Q : Int → qm → Prop}
    {j w : Int}
    {P1 : Int → qm → Prop}
    (l1 : q_Ev yX1_start cX1_start 2 none 2 0 0 [(2, 26), (2, 5)] (q_sh0, q_rb b, mem) (qK (q_rb b) (P1)))
    (o2 : ∀ (r1 : Int), ∀ (m1 : qm), P1 r1 m1 → q_in32 r1 → (0 ≤ j ∧ j < 9))
    {P2 : Int → qm → Int → qm → Prop}
    (l3 : ∀ (r1 : Int), ∀ (m1 : qm), P1 r1 m1 → q_in32 r1 → q_Ev yX5_fit cX5_fit 4 (some .boolean) 4 0 0 [(2, 159), (2, 26)] (q_sh0, q_rb b, (q_up m1 28 j w)) (qK (q_rb b) (P2 r1 m1)))
    (o4 : ∀ (r1 : Int), ∀ (m1 : qm), P1 r1 m1 → q_in32 r1 → ∀ (r2 : Int), ∀ (m2 : qm), P2 r1 m1 r2 m2 → q_in32 r2 → (r2 = 0 ∨ r2 = 1))
    (l5 : ∀ (r1 : Int), ∀ (m1 : qm), P1 r1 m1 → q_in32 r1 → ∀ (r2 : Int), ∀ (m2 : qm), P2 r1 m1 r2 m2 → q_in32 r2 → Q r2 m2) :
    q_At yX11_fitsWithHole cX11_fitsWithHole 3 (some .boolean) 5 0 0 (qK (q_rb b) Q) 0 [(2, 0), (0, j), (0, w)] [] (q_sh0, q_rb b, mem) := by
  refine q_aload_n dX11_fitsWithHole_0 rfl rfl ?_
  refine q_getR (ci := 11) (k := 4) dX11_fitsWithHole_1 rfl (by decide) rfl tw353 (by decide) qs0 qw0_4 (by decide) ?_
  refine q_aload_n dX11_fitsWithHole_4 rfl rfl ?_
  refine q_getR (ci := 11) (k := 1) dX11_fitsWithHole_5 rfl (by decide) rfl tw350 (by decide) qs0 qw0_1 (by decide) ?_
  refine qx_invV (ci := 1) [(2, 5)] [(2, 5), (2, 26)] rfl qM_X1_start dX11_fitsWithHole_8 tw767 rfl qs26 rfl rfl rfl rfl (l1) (fun r1 m1 p1 q1 => ?_)
  refine q_aload_n dX11_fitsWithHole_11 rfl rfl ?_
  refine q_getR (ci := 11) (k := 4) dX11_fitsWithHole_12 rfl (by decide) rfl tw353 (by decide) qs0 qw0_4 (by decide) ?_
  refine q_getR (ci := 1) (k := 2) dX11_fitsWithHole_15 rfl (by decide) rfl tw155 (by decide) qs26 qw26_2 (by decide) ?_
  refine q_iload_n dX11_fitsWithHole_18 rfl rfl ?_
  refine q_iload_n dX11_fitsWithHole_19 rfl rfl ?_
  refine q_iast dX11_fitsWithHole_20 qs28 ((o2 r1 m1 p1 q1)).1 ((o2 r1 m1 p1 q1)).2 ?_
  refine q_aload_n dX11_fitsWithHole_21 rfl rfl ?_
  refine q_getR (ci := 11) (k := 12) dX11_fitsWithHole_22 rfl (by decide) rfl tw361 (by decide) qs0 qw0_12 (by decide) ?_
  refine q_aload_n dX11_fitsWithHole_25 rfl rfl ?_
  refine q_getR (ci := 11) (k := 4) dX11_fitsWithHole_26 rfl (by decide) rfl tw353 (by decide) qs0 qw0_4 (by decide) ?_
  refine qx_invV (ci := 5) [(2, 26)] [(2, 26), (2, 159)] rfl qM_X5_fit dX11_fitsWithHole_29 tw1038 rfl qs159 rfl rfl rfl rfl (l3 r1 m1 p1 q1) (fun r2 m2 p2 q2 => ?_)
  exact q_zret dX11_fitsWithHole_32 (o4 r1 m1 p1 q1 r2 m2 p2 q2) (qK_i (l5 r1 m1 p1 q1 r2 m2 p2 q2))
theorem dX11_holes_0 : decode cX11_holes 0 = .ok (.aload_n 0, 1) := by decide +kernel
theorem dX11_holes_1 : decode cX11_holes 1 = .ok (.iload_n 1, 1) := by decide +kernel
theorem dX11_holes_2 : decode cX11_holes 2 = .ok (.invokevirtual 131, 3) := by decide +kernel
theorem dX11_holes_5 : decode cX11_holes 5 = .ok (.ifCond .ne 5, 3) := by decide +kernel
theorem dX11_holes_8 : decode cX11_holes 8 = .ok (.iconst (-1), 1) := by decide +kernel
theorem dX11_holes_9 : decode cX11_holes 9 = .ok (.ireturn, 1) := by decide +kernel
theorem dX11_holes_10 : decode cX11_holes 10 = .ok (.iconst 0, 1) := by decide +kernel
theorem dX11_holes_11 : decode cX11_holes 11 = .ok (.istore_n 2, 1) := by decide +kernel
theorem dX11_holes_12 : decode cX11_holes 12 = .ok (.iconst 0, 1) := by decide +kernel
theorem dX11_holes_13 : decode cX11_holes 13 = .ok (.istore_n 3, 1) := by decide +kernel
theorem dX11_holes_14 : decode cX11_holes 14 = .ok (.iload_n 3, 1) := by decide +kernel
theorem dX11_holes_15 : decode cX11_holes 15 = .ok (.bipush 9, 2) := by decide +kernel
theorem dX11_holes_17 : decode cX11_holes 17 = .ok (.if_icmp .gt 24, 3) := by decide +kernel
theorem dX11_holes_20 : decode cX11_holes 20 = .ok (.aload_n 0, 1) := by decide +kernel
theorem dX11_holes_21 : decode cX11_holes 21 = .ok (.iload_n 1, 1) := by decide +kernel
theorem dX11_holes_22 : decode cX11_holes 22 = .ok (.iload_n 3, 1) := by decide +kernel
theorem dX11_holes_23 : decode cX11_holes 23 = .ok (.invokevirtual 383, 3) := by decide +kernel
theorem dX11_holes_26 : decode cX11_holes 26 = .ok (.ifCond .eq 9, 3) := by decide +kernel
theorem dX11_holes_29 : decode cX11_holes 29 = .ok (.iload_n 2, 1) := by decide +kernel
theorem dX11_holes_30 : decode cX11_holes 30 = .ok (.iconst 1, 1) := by decide +kernel
theorem dX11_holes_31 : decode cX11_holes 31 = .ok (.iload_n 3, 1) := by decide +kernel
theorem dX11_holes_32 : decode cX11_holes 32 = .ok (.ishl, 1) := by decide +kernel
theorem dX11_holes_33 : decode cX11_holes 33 = .ok (.ior, 1) := by decide +kernel
theorem dX11_holes_34 : decode cX11_holes 34 = .ok (.istore_n 2, 1) := by decide +kernel
theorem dX11_holes_35 : decode cX11_holes 35 = .ok (.iinc 3 1, 3) := by decide +kernel
theorem dX11_holes_38 : decode cX11_holes 38 = .ok (.goto (-24), 3) := by decide +kernel
theorem dX11_holes_41 : decode cX11_holes 41 = .ok (.iload_n 2, 1) := by decide +kernel
theorem dX11_holes_42 : decode cX11_holes 42 = .ok (.ireturn, 1) := by decide +kernel
theorem bkX11_holes_0 {b : Int} {mem : qm} {Q : Int → qm → Prop}
    {j : Int}
    (l1 : (0 ≤ j ∧ j < (mem 1 3)) → q_At yX11_holes cX11_holes 4 (some .int) 6 0 0 (qK (q_rb b) Q) 14 [(2, 0), (0, j), (0, 0), (0, 0)] [] (q_sh0, q_rb b, mem))
    (l2 : ¬ (0 ≤ j ∧ j < (mem 1 3)) → Q (-1) mem) :
    q_At yX11_holes cX11_holes 4 (some .int) 6 0 0 (qK (q_rb b) Q) 0 [(2, 0), (0, j), (4, 0), (4, 0)] [] (q_sh0, q_rb b, mem) := by
  refine q_aload_n dX11_holes_0 rfl rfl ?_
  refine q_iload_n dX11_holes_1 rfl rfl ?_
  refine qx_invV (ci := 11) [(0, j)] [(0, j), (2, 0)] rfl qM_X11_isJar dX11_holes_2 tw576 rfl qs0 rfl rfl rfl rfl (spX11_isJar) (fun r1 m1 p1 q1 => ?_)
  obtain ⟨p1e, ⟨p1f, p1⟩ | ⟨p1f, p1⟩⟩ := p1
  · rw [p1e, p1f]
    refine qx_if_ne (tgt := 10) dX11_holes_5 (by decide) (fun _ => ?_) (fun z => absurd z (by decide))
    refine qx_iconst dX11_holes_10 rfl rfl ?_
    refine qx_istore_n (L' := [(2, 0), (0, j), (0, 0), (4, 0)]) dX11_holes_11 rfl rfl rfl rfl ?_
    refine qx_iconst dX11_holes_12 rfl rfl ?_
    refine qx_istore_n (L' := [(2, 0), (0, j), (0, 0), (0, 0)]) dX11_holes_13 rfl rfl rfl rfl ?_
    exact l1 p1
  · rw [p1e, p1f]
    refine qx_if_ne (tgt := 10) dX11_holes_5 (by decide) (fun z => absurd z (by decide)) (fun _ => ?_)
    refine qx_iconst dX11_holes_8 rfl rfl ?_
    exact q_iret dX11_holes_9 (qK_i (l2 p1))
theorem bkX11_holes_14 {b : Int} {mem : qm} {Q : Int → qm → Prop}
    {j v2 v3 : Int}
    (l1 : 9 < v3 → Q v2 mem)
    {P2 : Int → qm → Prop}
    (l2 : v3 ≤ 9 → q_Ev yX11_fitsWithHole cX11_fitsWithHole 3 (some .boolean) 5 0 0 [(2, 0), (0, j), (0, v3)] (q_sh0, q_rb b, mem) (qK (q_rb b) (P2)))
    (o3 : v3 ≤ 9 → ∀ (r2 : Int), ∀ (m2 : qm), P2 r2 m2 → q_in32 r2 → r2 = 0 → q_in32 (v3 + 1))
    (l4 : v3 ≤ 9 → ∀ (r2 : Int), ∀ (m2 : qm), P2 r2 m2 → q_in32 r2 → r2 = 0 → q_At yX11_holes cX11_holes 4 (some .int) 6 0 0 (qK (q_rb b) Q) 14 [(2, 0), (0, j), (0, v2), (0, (v3 + 1))] [] (q_sh0, q_rb b, m2))
    (o5 : v3 ≤ 9 → ∀ (r2 : Int), ∀ (m2 : qm), P2 r2 m2 → q_in32 r2 → r2 ≠ 0 → q_in32 (v3 + 1))
    (l6 : v3 ≤ 9 → ∀ (r2 : Int), ∀ (m2 : qm), P2 r2 m2 → q_in32 r2 → r2 ≠ 0 → q_At yX11_holes cX11_holes 4 (some .int) 6 0 0 (qK (q_rb b) Q) 14 [(2, 0), (0, j), (0, (q_oior v2 (q_oishl 1 v3))), (0, (v3 + 1))] [] (q_sh0, q_rb b, m2)) :
    q_At yX11_holes cX11_holes 4 (some .int) 6 0 0 (qK (q_rb b) Q) 14 [(2, 0), (0, j), (0, v2), (0, v3)] [] (q_sh0, q_rb b, mem) := by
  refine q_iload_n dX11_holes_14 rfl rfl ?_
  refine qx_bipush dX11_holes_15 rfl rfl ?_
  refine qx_icmp_gt (tgt := 41) dX11_holes_17 (by decide) (fun c1 => ?_) (fun c1 => ?_)
  · skip
    refine q_iload_n dX11_holes_41 rfl rfl ?_
    exact q_iret dX11_holes_42 (qK_i (l1 c1))
  · skip
    refine q_aload_n dX11_holes_20 rfl rfl ?_
    refine q_iload_n dX11_holes_21 rfl rfl ?_
    refine q_iload_n dX11_holes_22 rfl rfl ?_
    refine qx_invV (ci := 11) [(0, j), (0, v3)] [(0, v3), (0, j), (2, 0)] rfl qM_X11_fitsWithHole dX11_holes_23 tw1034 rfl qs0 rfl rfl rfl rfl (l2 c1) (fun r2 m2 p2 q2 => ?_)
    refine qx_if_eq (tgt := 35) dX11_holes_26 (by decide) (fun c3 => ?_) (fun c3 => ?_)
    · skip
      refine qx_iinc (L' := [(2, 0), (0, j), (0, v2), (0, (v3 + 1))]) dX11_holes_35 rfl rfl rfl (o3 c1 r2 m2 p2 q2 c3) rfl ?_
      refine q_goto (tgt := 14) dX11_holes_38 (by decide) ?_
      exact l4 c1 r2 m2 p2 q2 c3
    · skip
      refine q_iload_n dX11_holes_29 rfl rfl ?_
      refine qx_iconst dX11_holes_30 rfl rfl ?_
      refine q_iload_n dX11_holes_31 rfl rfl ?_
      refine q_ishl dX11_holes_32 ?_
      refine q_ior dX11_holes_33 ?_
      refine qx_istore_n (L' := [(2, 0), (0, j), (0, (q_oior v2 (q_oishl 1 v3))), (0, v3)]) dX11_holes_34 rfl rfl rfl rfl ?_
      refine qx_iinc (L' := [(2, 0), (0, j), (0, (q_oior v2 (q_oishl 1 v3))), (0, (v3 + 1))]) dX11_holes_35 rfl rfl rfl (o5 c1 r2 m2 p2 q2 c3) rfl ?_
      refine q_goto (tgt := 14) dX11_holes_38 (by decide) ?_
      exact l6 c1 r2 m2 p2 q2 c3
theorem dX11_explains_0 : decode cX11_explains 0 = .ok (.aload_n 0, 1) := by decide +kernel
theorem dX11_explains_1 : decode cX11_explains 1 = .ok (.getfield 38, 3) := by decide +kernel
theorem dX11_explains_4 : decode cX11_explains 4 = .ok (.aload_n 0, 1) := by decide +kernel
theorem dX11_explains_5 : decode cX11_explains 5 = .ok (.getfield 19, 3) := by decide +kernel
theorem dX11_explains_8 : decode cX11_explains 8 = .ok (.invokevirtual 282, 3) := by decide +kernel
theorem dX11_explains_11 : decode cX11_explains 11 = .ok (.aload_n 0, 1) := by decide +kernel
theorem dX11_explains_12 : decode cX11_explains 12 = .ok (.getfield 90, 3) := by decide +kernel
theorem dX11_explains_15 : decode cX11_explains 15 = .ok (.aload_n 0, 1) := by decide +kernel
theorem dX11_explains_16 : decode cX11_explains 16 = .ok (.getfield 38, 3) := by decide +kernel
theorem dX11_explains_19 : decode cX11_explains 19 = .ok (.invokevirtual 386, 3) := by decide +kernel
theorem dX11_explains_22 : decode cX11_explains 22 = .ok (.istore_n 1, 1) := by decide +kernel
theorem dX11_explains_23 : decode cX11_explains 23 = .ok (.iconst 0, 1) := by decide +kernel
theorem dX11_explains_24 : decode cX11_explains 24 = .ok (.istore_n 2, 1) := by decide +kernel
theorem dX11_explains_25 : decode cX11_explains 25 = .ok (.aload_n 0, 1) := by decide +kernel
theorem dX11_explains_26 : decode cX11_explains 26 = .ok (.invokevirtual 223, 3) := by decide +kernel
theorem dX11_explains_29 : decode cX11_explains 29 = .ok (.iconst 0, 1) := by decide +kernel
theorem dX11_explains_30 : decode cX11_explains 30 = .ok (.istore_n 3, 1) := by decide +kernel
theorem dX11_explains_31 : decode cX11_explains 31 = .ok (.iload_n 3, 1) := by decide +kernel
theorem dX11_explains_32 : decode cX11_explains 32 = .ok (.aload_n 0, 1) := by decide +kernel
theorem dX11_explains_33 : decode cX11_explains 33 = .ok (.getfield 10, 3) := by decide +kernel
theorem dX11_explains_36 : decode cX11_explains 36 = .ok (.getfield 173, 3) := by decide +kernel
theorem dX11_explains_39 : decode cX11_explains 39 = .ok (.if_icmp .ge 67, 3) := by decide +kernel
theorem dX11_explains_42 : decode cX11_explains 42 = .ok (.iconst 0, 1) := by decide +kernel
theorem dX11_explains_43 : decode cX11_explains 43 = .ok (.istore 4, 2) := by decide +kernel
theorem dX11_explains_45 : decode cX11_explains 45 = .ok (.iload 4, 2) := by decide +kernel
theorem dX11_explains_47 : decode cX11_explains 47 = .ok (.bipush 9, 2) := by decide +kernel
theorem dX11_explains_49 : decode cX11_explains 49 = .ok (.if_icmp .gt 51, 3) := by decide +kernel
theorem dX11_explains_52 : decode cX11_explains 52 = .ok (.iload 4, 2) := by decide +kernel
theorem dX11_explains_54 : decode cX11_explains 54 = .ok (.aload_n 0, 1) := by decide +kernel
theorem dX11_explains_55 : decode cX11_explains 55 = .ok (.getfield 19, 3) := by decide +kernel
theorem dX11_explains_58 : decode cX11_explains 58 = .ok (.getfield 148, 3) := by decide +kernel
theorem dX11_explains_61 : decode cX11_explains 61 = .ok (.iload_n 3, 1) := by decide +kernel
theorem dX11_explains_62 : decode cX11_explains 62 = .ok (.iaload, 1) := by decide +kernel
theorem dX11_explains_63 : decode cX11_explains 63 = .ok (.if_icmp .eq 31, 3) := by decide +kernel
theorem dX11_explains_66 : decode cX11_explains 66 = .ok (.aload_n 0, 1) := by decide +kernel
theorem dX11_explains_67 : decode cX11_explains 67 = .ok (.iload_n 3, 1) := by decide +kernel
theorem dX11_explains_68 : decode cX11_explains 68 = .ok (.iload 4, 2) := by decide +kernel
theorem dX11_explains_70 : decode cX11_explains 70 = .ok (.invokevirtual 383, 3) := by decide +kernel
theorem dX11_explains_73 : decode cX11_explains 73 = .ok (.ifCond .eq 21, 3) := by decide +kernel
theorem dX11_explains_76 : decode cX11_explains 76 = .ok (.iload_n 2, 1) := by decide +kernel
theorem dX11_explains_77 : decode cX11_explains 77 = .ok (.ifCond .ne 14, 3) := by decide +kernel
theorem dX11_explains_80 : decode cX11_explains 80 = .ok (.aload_n 0, 1) := by decide +kernel
theorem dX11_explains_81 : decode cX11_explains 81 = .ok (.iload_n 3, 1) := by decide +kernel
theorem dX11_explains_82 : decode cX11_explains 82 = .ok (.invokevirtual 229, 3) := by decide +kernel
theorem dX11_explains_85 : decode cX11_explains 85 = .ok (.aload_n 0, 1) := by decide +kernel
theorem dX11_explains_86 : decode cX11_explains 86 = .ok (.iload 4, 2) := by decide +kernel
theorem dX11_explains_88 : decode cX11_explains 88 = .ok (.invokevirtual 229, 3) := by decide +kernel
theorem dX11_explains_91 : decode cX11_explains 91 = .ok (.iinc 2 1, 3) := by decide +kernel
theorem dX11_explains_94 : decode cX11_explains 94 = .ok (.iinc 4 1, 3) := by decide +kernel
theorem dX11_explains_97 : decode cX11_explains 97 = .ok (.goto (-52), 3) := by decide +kernel
theorem dX11_explains_100 : decode cX11_explains 100 = .ok (.iinc 3 1, 3) := by decide +kernel
theorem dX11_explains_103 : decode cX11_explains 103 = .ok (.goto (-72), 3) := by decide +kernel
theorem dX11_explains_106 : decode cX11_explains 106 = .ok (.aload_n 0, 1) := by decide +kernel
theorem dX11_explains_107 : decode cX11_explains 107 = .ok (.iload_n 1, 1) := by decide +kernel
theorem dX11_explains_108 : decode cX11_explains 108 = .ok (.ifCond .eq 7, 3) := by decide +kernel
theorem dX11_explains_111 : decode cX11_explains 111 = .ok (.iconst 1, 1) := by decide +kernel
theorem dX11_explains_112 : decode cX11_explains 112 = .ok (.goto 4, 3) := by decide +kernel
theorem dX11_explains_115 : decode cX11_explains 115 = .ok (.iconst 0, 1) := by decide +kernel
theorem dX11_explains_116 : decode cX11_explains 116 = .ok (.invokevirtual 229, 3) := by decide +kernel
theorem dX11_explains_119 : decode cX11_explains 119 = .ok (.iload_n 2, 1) := by decide +kernel
theorem dX11_explains_120 : decode cX11_explains 120 = .ok (.ireturn, 1) := by decide +kernel
theorem bkX11_explains_0 {b : Int} {mem : qm} {Q : Int → qm → Prop}
    {P1 : Int → qm → Prop}
    (l1 : q_Ev yX1_start cX1_start 2 none 2 0 0 [(2, 26), (2, 5)] (q_sh0, q_rb b, mem) (qK (q_rb b) (P1)))
    {P2 : Int → qm → Int → qm → Prop}
    (l2 : ∀ (r1 : Int), ∀ (m1 : qm), P1 r1 m1 → q_in32 r1 → q_Ev yX5_fit cX5_fit 4 (some .boolean) 4 0 0 [(2, 159), (2, 26)] (q_sh0, q_rb b, m1) (qK (q_rb b) (P2 r1 m1)))
    (l3 : ∀ (r1 : Int), ∀ (m1 : qm), P1 r1 m1 → q_in32 r1 → ∀ (r2 : Int), ∀ (m2 : qm), P2 r1 m1 r2 m2 → q_in32 r2 → q_At yX11_explains cX11_explains 5 (some .int) 6 0 0 (qK (q_rb b) Q) 31 [(2, 0), (0, r2), (0, 0), (0, 0), (4, 0)] [] (q_sh0, q_rb b, (q_up m2 0 16 0))) :
    q_At yX11_explains cX11_explains 5 (some .int) 6 0 0 (qK (q_rb b) Q) 0 [(2, 0), (4, 0), (4, 0), (4, 0), (4, 0)] [] (q_sh0, q_rb b, mem) := by
  refine q_aload_n dX11_explains_0 rfl rfl ?_
  refine q_getR (ci := 11) (k := 4) dX11_explains_1 rfl (by decide) rfl tw353 (by decide) qs0 qw0_4 (by decide) ?_
  refine q_aload_n dX11_explains_4 rfl rfl ?_
  refine q_getR (ci := 11) (k := 1) dX11_explains_5 rfl (by decide) rfl tw350 (by decide) qs0 qw0_1 (by decide) ?_
  refine qx_invV (ci := 1) [(2, 5)] [(2, 5), (2, 26)] rfl qM_X1_start dX11_explains_8 tw767 rfl qs26 rfl rfl rfl rfl (l1) (fun r1 m1 p1 q1 => ?_)
  refine q_aload_n dX11_explains_11 rfl rfl ?_
  refine q_getR (ci := 11) (k := 12) dX11_explains_12 rfl (by decide) rfl tw361 (by decide) qs0 qw0_12 (by decide) ?_
  refine q_aload_n dX11_explains_15 rfl rfl ?_
  refine q_getR (ci := 11) (k := 4) dX11_explains_16 rfl (by decide) rfl tw353 (by decide) qs0 qw0_4 (by decide) ?_
  refine qx_invV (ci := 5) [(2, 26)] [(2, 26), (2, 159)] rfl qM_X5_fit dX11_explains_19 tw1038 rfl qs159 rfl rfl rfl rfl (l2 r1 m1 p1 q1) (fun r2 m2 p2 q2 => ?_)
  refine qx_istore_n (L' := [(2, 0), (0, r2), (4, 0), (4, 0), (4, 0)]) dX11_explains_22 rfl rfl rfl rfl ?_
  refine qx_iconst dX11_explains_23 rfl rfl ?_
  refine qx_istore_n (L' := [(2, 0), (0, r2), (0, 0), (4, 0), (4, 0)]) dX11_explains_24 rfl rfl rfl rfl ?_
  refine q_aload_n dX11_explains_25 rfl rfl ?_
  refine qx_invV (ci := 11) [] [(2, 0)] rfl qM_X11_clearRow dX11_explains_26 tw691 rfl qs0 rfl rfl rfl rfl (spX11_clearRow) (fun r3 m3 p3 q3 => ?_)
  obtain rfl := p3
  refine qx_iconst dX11_explains_29 rfl rfl ?_
  refine qx_istore_n (L' := [(2, 0), (0, r2), (0, 0), (0, 0), (4, 0)]) dX11_explains_30 rfl rfl rfl rfl ?_
  exact l3 r1 m1 p1 q1 r2 m2 p2 q2
theorem bkX11_explains_31 {b : Int} {mem : qm} {Q : Int → qm → Prop}
    {v1 v2 v3 : Int}
    (o1 : (mem 1 3) ≤ v3 → v1 = 0 → (0 ≤ (mem 0 16) ∧ (mem 0 16) < 10))
    (l2 : (mem 1 3) ≤ v3 → v1 = 0 → Q v2 (q_up (q_up mem 169 (mem 0 16) 0) 0 16 ((mem 0 16) + 1)))
    (o3 : (mem 1 3) ≤ v3 → v1 ≠ 0 → (0 ≤ (mem 0 16) ∧ (mem 0 16) < 10))
    (l4 : (mem 1 3) ≤ v3 → v1 ≠ 0 → Q v2 (q_up (q_up mem 169 (mem 0 16) 1) 0 16 ((mem 0 16) + 1)))
    (l5 : v3 < (mem 1 3) → q_At yX11_explains cX11_explains 5 (some .int) 6 0 0 (qK (q_rb b) Q) 45 [(2, 0), (0, v1), (0, v2), (0, v3), (0, 0)] [] (q_sh0, q_rb b, mem)) :
    q_At yX11_explains cX11_explains 5 (some .int) 6 0 0 (qK (q_rb b) Q) 31 [(2, 0), (0, v1), (0, v2), (0, v3), (4, 0)] [] (q_sh0, q_rb b, mem) := by
  refine q_iload_n dX11_explains_31 rfl rfl ?_
  refine q_aload_n dX11_explains_32 rfl rfl ?_
  refine q_getR (ci := 11) (k := 0) dX11_explains_33 rfl (by decide) rfl tw349 (by decide) qs0 qw0_0 (by decide) ?_
  refine qx_getI (ci := 9) (k := 3) (v := (mem 1 3)) dX11_explains_36 rfl rfl rfl tw53 rfl qs1 rfl ?_
  refine qx_icmp_ge (tgt := 106) dX11_explains_39 (by decide) (fun c1 => ?_) (fun c1 => ?_)
  · skip
    refine q_aload_n dX11_explains_106 rfl rfl ?_
    refine q_iload_n dX11_explains_107 rfl rfl ?_
    refine qx_if_eq (tgt := 115) dX11_explains_108 (by decide) (fun c2 => ?_) (fun c2 => ?_)
    · skip
      refine qx_iconst dX11_explains_115 rfl rfl ?_
      refine qx_invV (ci := 11) [(0, 0)] [(0, 0), (2, 0)] rfl qM_X11_tell dX11_explains_116 tw699 rfl qs0 rfl rfl rfl rfl (spX11_tell (o1 c1 c2)) (fun r3 m3 p3 q3 => ?_)
      obtain rfl := p3
      refine q_iload_n dX11_explains_119 rfl rfl ?_
      exact q_iret dX11_explains_120 (qK_i (l2 c1 c2))
    · skip
      refine qx_iconst dX11_explains_111 rfl rfl ?_
      refine q_goto (tgt := 116) dX11_explains_112 (by decide) ?_
      refine qx_invV (ci := 11) [(0, 1)] [(0, 1), (2, 0)] rfl qM_X11_tell dX11_explains_116 tw699 rfl qs0 rfl rfl rfl rfl (spX11_tell (o3 c1 c2)) (fun r4 m4 p4 q4 => ?_)
      obtain rfl := p4
      refine q_iload_n dX11_explains_119 rfl rfl ?_
      exact q_iret dX11_explains_120 (qK_i (l4 c1 c2))
  · skip
    refine qx_iconst dX11_explains_42 rfl rfl ?_
    refine qx_istore (L' := [(2, 0), (0, v1), (0, v2), (0, v3), (0, 0)]) dX11_explains_43 rfl rfl rfl ?_
    exact l5 c1
theorem bkX11_explains_45 {b : Int} {mem : qm} {Q : Int → qm → Prop}
    {v1 v2 v3 v4 : Int}
    (o1 : 9 < v4 → q_in32 (v3 + 1))
    (l2 : 9 < v4 → q_At yX11_explains cX11_explains 5 (some .int) 6 0 0 (qK (q_rb b) Q) 31 [(2, 0), (0, v1), (0, v2), (0, (v3 + 1)), (4, 0)] [] (q_sh0, q_rb b, mem))
    (o3 : v4 ≤ 9 → (0 ≤ v3 ∧ v3 < 9))
    (o4 : v4 ≤ 9 → v4 = (mem 10 v3) → q_in32 (v4 + 1))
    (l5 : v4 ≤ 9 → v4 = (mem 10 v3) → q_At yX11_explains cX11_explains 5 (some .int) 6 0 0 (qK (q_rb b) Q) 45 [(2, 0), (0, v1), (0, v2), (0, v3), (0, (v4 + 1))] [] (q_sh0, q_rb b, mem))
    {P3 : Int → qm → Prop}
    (l6 : v4 ≤ 9 → v4 ≠ (mem 10 v3) → q_Ev yX11_fitsWithHole cX11_fitsWithHole 3 (some .boolean) 5 0 0 [(2, 0), (0, v3), (0, v4)] (q_sh0, q_rb b, mem) (qK (q_rb b) (P3)))
    (o7 : v4 ≤ 9 → v4 ≠ (mem 10 v3) → ∀ (r3 : Int), ∀ (m3 : qm), P3 r3 m3 → q_in32 r3 → r3 = 0 → q_in32 (v4 + 1))
    (l8 : v4 ≤ 9 → v4 ≠ (mem 10 v3) → ∀ (r3 : Int), ∀ (m3 : qm), P3 r3 m3 → q_in32 r3 → r3 = 0 → q_At yX11_explains cX11_explains 5 (some .int) 6 0 0 (qK (q_rb b) Q) 45 [(2, 0), (0, v1), (0, v2), (0, v3), (0, (v4 + 1))] [] (q_sh0, q_rb b, m3))
    (o9 : v4 ≤ 9 → v4 ≠ (mem 10 v3) → ∀ (r3 : Int), ∀ (m3 : qm), P3 r3 m3 → q_in32 r3 → r3 ≠ 0 → v2 ≠ 0 → q_in32 (v2 + 1) ∧ q_in32 (v4 + 1))
    (l10 : v4 ≤ 9 → v4 ≠ (mem 10 v3) → ∀ (r3 : Int), ∀ (m3 : qm), P3 r3 m3 → q_in32 r3 → r3 ≠ 0 → v2 ≠ 0 → q_At yX11_explains cX11_explains 5 (some .int) 6 0 0 (qK (q_rb b) Q) 45 [(2, 0), (0, v1), (0, (v2 + 1)), (0, v3), (0, (v4 + 1))] [] (q_sh0, q_rb b, m3))
    (o11 : v4 ≤ 9 → v4 ≠ (mem 10 v3) → ∀ (r3 : Int), ∀ (m3 : qm), P3 r3 m3 → q_in32 r3 → r3 ≠ 0 → v2 = 0 → (0 ≤ (m3 0 16) ∧ (m3 0 16) < 10) ∧ (0 ≤ ((m3 0 16) + 1) ∧ ((m3 0 16) + 1) < 10) ∧ q_in32 (v2 + 1) ∧ q_in32 (v4 + 1))
    (l12 : v4 ≤ 9 → v4 ≠ (mem 10 v3) → ∀ (r3 : Int), ∀ (m3 : qm), P3 r3 m3 → q_in32 r3 → r3 ≠ 0 → v2 = 0 → q_At yX11_explains cX11_explains 5 (some .int) 6 0 0 (qK (q_rb b) Q) 45 [(2, 0), (0, v1), (0, (v2 + 1)), (0, v3), (0, (v4 + 1))] [] (q_sh0, q_rb b, (q_up (q_up (q_up (q_up m3 169 (m3 0 16) v3) 0 16 ((m3 0 16) + 1)) 169 ((m3 0 16) + 1) v4) 0 16 (((m3 0 16) + 1) + 1)))) :
    q_At yX11_explains cX11_explains 5 (some .int) 6 0 0 (qK (q_rb b) Q) 45 [(2, 0), (0, v1), (0, v2), (0, v3), (0, v4)] [] (q_sh0, q_rb b, mem) := by
  refine q_iload dX11_explains_45 rfl ?_
  refine qx_bipush dX11_explains_47 rfl rfl ?_
  refine qx_icmp_gt (tgt := 100) dX11_explains_49 (by decide) (fun c1 => ?_) (fun c1 => ?_)
  · skip
    refine qx_iinc (L' := [(2, 0), (0, v1), (0, v2), (0, (v3 + 1)), (0, v4)]) dX11_explains_100 rfl rfl rfl (o1 c1) rfl ?_
    refine q_goto (tgt := 31) dX11_explains_103 (by decide) ?_
    refine q_kill (L' := [(2, 0), (0, v1), (0, v2), (0, (v3 + 1)), (4, 0)]) 4 rfl ?_
    exact l2 c1
  · skip
    refine q_iload dX11_explains_52 rfl ?_
    refine q_aload_n dX11_explains_54 rfl rfl ?_
    refine q_getR (ci := 11) (k := 1) dX11_explains_55 rfl (by decide) rfl tw350 (by decide) qs0 qw0_1 (by decide) ?_
    refine q_getR (ci := 7) (k := 4) dX11_explains_58 rfl (by decide) rfl tw87 (by decide) qs5 qw5_4 (by decide) ?_
    refine q_iload_n dX11_explains_61 rfl rfl ?_
    refine qx_iald (v := (mem 10 v3)) dX11_explains_62 qs10 (o3 c1) rfl ?_
    refine qx_icmp_eq (tgt := 94) dX11_explains_63 (by decide) (fun c2 => ?_) (fun c2 => ?_)
    · skip
      refine qx_iinc (L' := [(2, 0), (0, v1), (0, v2), (0, v3), (0, (v4 + 1))]) dX11_explains_94 rfl rfl rfl (o4 c1 c2) rfl ?_
      refine q_goto (tgt := 45) dX11_explains_97 (by decide) ?_
      exact l5 c1 c2
    · skip
      refine q_aload_n dX11_explains_66 rfl rfl ?_
      refine q_iload_n dX11_explains_67 rfl rfl ?_
      refine q_iload dX11_explains_68 rfl ?_
      refine qx_invV (ci := 11) [(0, v3), (0, v4)] [(0, v4), (0, v3), (2, 0)] rfl qM_X11_fitsWithHole dX11_explains_70 tw1034 rfl qs0 rfl rfl rfl rfl (l6 c1 c2) (fun r3 m3 p3 q3 => ?_)
      refine qx_if_eq (tgt := 94) dX11_explains_73 (by decide) (fun c4 => ?_) (fun c4 => ?_)
      · skip
        refine qx_iinc (L' := [(2, 0), (0, v1), (0, v2), (0, v3), (0, (v4 + 1))]) dX11_explains_94 rfl rfl rfl (o7 c1 c2 r3 m3 p3 q3 c4) rfl ?_
        refine q_goto (tgt := 45) dX11_explains_97 (by decide) ?_
        exact l8 c1 c2 r3 m3 p3 q3 c4
      · skip
        refine q_iload_n dX11_explains_76 rfl rfl ?_
        refine qx_if_ne (tgt := 91) dX11_explains_77 (by decide) (fun c5 => ?_) (fun c5 => ?_)
        · skip
          refine qx_iinc (L' := [(2, 0), (0, v1), (0, (v2 + 1)), (0, v3), (0, v4)]) dX11_explains_91 rfl rfl rfl (o9 c1 c2 r3 m3 p3 q3 c4 c5).1 rfl ?_
          refine qx_iinc (L' := [(2, 0), (0, v1), (0, (v2 + 1)), (0, v3), (0, (v4 + 1))]) dX11_explains_94 rfl rfl rfl (o9 c1 c2 r3 m3 p3 q3 c4 c5).2 rfl ?_
          refine q_goto (tgt := 45) dX11_explains_97 (by decide) ?_
          exact l10 c1 c2 r3 m3 p3 q3 c4 c5
        · skip
          refine q_aload_n dX11_explains_80 rfl rfl ?_
          refine q_iload_n dX11_explains_81 rfl rfl ?_
          refine qx_invV (ci := 11) [(0, v3)] [(0, v3), (2, 0)] rfl qM_X11_tell dX11_explains_82 tw699 rfl qs0 rfl rfl rfl rfl (spX11_tell (o11 c1 c2 r3 m3 p3 q3 c4 c5).1) (fun r6 m6 p6 q6 => ?_)
          obtain rfl := p6
          refine q_aload_n dX11_explains_85 rfl rfl ?_
          refine q_iload dX11_explains_86 rfl ?_
          refine qx_invV (ci := 11) [(0, v4)] [(0, v4), (2, 0)] rfl qM_X11_tell dX11_explains_88 tw699 rfl qs0 rfl rfl rfl rfl (spX11_tell (by first | exact (o11 c1 c2 r3 m3 p3 q3 c4 c5).2.1 | (simp only [q_up, Int.reduceEq, false_and, true_and, and_true, and_false, ite_false, ite_true, if_true, if_false]; exact (o11 c1 c2 r3 m3 p3 q3 c4 c5).2.1))) (fun r7 m7 p7 q7 => ?_)
          obtain rfl := p7
          refine qx_iinc (L' := [(2, 0), (0, v1), (0, (v2 + 1)), (0, v3), (0, v4)]) dX11_explains_91 rfl rfl rfl (o11 c1 c2 r3 m3 p3 q3 c4 c5).2.2.1 rfl ?_
          refine qx_iinc (L' := [(2, 0), (0, v1), (0, (v2 + 1)), (0, v3), (0, (v4 + 1))]) dX11_explains_94 rfl rfl rfl (o11 c1 c2 r3 m3 p3 q3 c4 c5).2.2.2 rfl ?_
          refine q_goto (tgt := 45) dX11_explains_97 (by decide) ?_
          exact l12 c1 c2 r3 m3 p3 q3 c4 c5
theorem dX11_secret_0 : decode cX11_secret 0 = .ok (.iconst 0, 1) := by decide +kernel
theorem dX11_secret_1 : decode cX11_secret 1 = .ok (.istore_n 1, 1) := by decide +kernel
theorem dX11_secret_2 : decode cX11_secret 2 = .ok (.aload_n 0, 1) := by decide +kernel
theorem dX11_secret_3 : decode cX11_secret 3 = .ok (.invokevirtual 223, 3) := by decide +kernel
theorem dX11_secret_6 : decode cX11_secret 6 = .ok (.iconst 0, 1) := by decide +kernel
theorem dX11_secret_7 : decode cX11_secret 7 = .ok (.istore_n 2, 1) := by decide +kernel
theorem dX11_secret_8 : decode cX11_secret 8 = .ok (.iload_n 2, 1) := by decide +kernel
theorem dX11_secret_9 : decode cX11_secret 9 = .ok (.aload_n 0, 1) := by decide +kernel
theorem dX11_secret_10 : decode cX11_secret 10 = .ok (.getfield 10, 3) := by decide +kernel
theorem dX11_secret_13 : decode cX11_secret 13 = .ok (.getfield 173, 3) := by decide +kernel
theorem dX11_secret_16 : decode cX11_secret 16 = .ok (.if_icmp .ge 87, 3) := by decide +kernel
theorem dX11_secret_19 : decode cX11_secret 19 = .ok (.aload_n 0, 1) := by decide +kernel
theorem dX11_secret_20 : decode cX11_secret 20 = .ok (.iload_n 2, 1) := by decide +kernel
theorem dX11_secret_21 : decode cX11_secret 21 = .ok (.invokevirtual 195, 3) := by decide +kernel
theorem dX11_secret_24 : decode cX11_secret 24 = .ok (.istore_n 3, 1) := by decide +kernel
theorem dX11_secret_25 : decode cX11_secret 25 = .ok (.iconst 1, 1) := by decide +kernel
theorem dX11_secret_26 : decode cX11_secret 26 = .ok (.istore 4, 2) := by decide +kernel
theorem dX11_secret_28 : decode cX11_secret 28 = .ok (.iload 4, 2) := by decide +kernel
theorem dX11_secret_30 : decode cX11_secret 30 = .ok (.iload_n 3, 1) := by decide +kernel
theorem dX11_secret_31 : decode cX11_secret 31 = .ok (.if_icmp .gt 66, 3) := by decide +kernel
theorem dX11_secret_34 : decode cX11_secret 34 = .ok (.aload_n 0, 1) := by decide +kernel
theorem dX11_secret_35 : decode cX11_secret 35 = .ok (.getfield 38, 3) := by decide +kernel
theorem dX11_secret_38 : decode cX11_secret 38 = .ok (.aload_n 0, 1) := by decide +kernel
theorem dX11_secret_39 : decode cX11_secret 39 = .ok (.getfield 19, 3) := by decide +kernel
theorem dX11_secret_42 : decode cX11_secret 42 = .ok (.invokevirtual 282, 3) := by decide +kernel
theorem dX11_secret_45 : decode cX11_secret 45 = .ok (.aload_n 0, 1) := by decide +kernel
theorem dX11_secret_46 : decode cX11_secret 46 = .ok (.getfield 38, 3) := by decide +kernel
theorem dX11_secret_49 : decode cX11_secret 49 = .ok (.getfield 299, 3) := by decide +kernel
theorem dX11_secret_52 : decode cX11_secret 52 = .ok (.iload_n 2, 1) := by decide +kernel
theorem dX11_secret_53 : decode cX11_secret 53 = .ok (.dup2, 1) := by decide +kernel
theorem dX11_secret_54 : decode cX11_secret 54 = .ok (.iaload, 1) := by decide +kernel
theorem dX11_secret_55 : decode cX11_secret 55 = .ok (.iload 4, 2) := by decide +kernel
theorem dX11_secret_57 : decode cX11_secret 57 = .ok (.iadd, 1) := by decide +kernel
theorem dX11_secret_58 : decode cX11_secret 58 = .ok (.iastore, 1) := by decide +kernel
theorem dX11_secret_59 : decode cX11_secret 59 = .ok (.aload_n 0, 1) := by decide +kernel
theorem dX11_secret_60 : decode cX11_secret 60 = .ok (.getfield 90, 3) := by decide +kernel
theorem dX11_secret_63 : decode cX11_secret 63 = .ok (.aload_n 0, 1) := by decide +kernel
theorem dX11_secret_64 : decode cX11_secret 64 = .ok (.getfield 38, 3) := by decide +kernel
theorem dX11_secret_67 : decode cX11_secret 67 = .ok (.invokevirtual 386, 3) := by decide +kernel
theorem dX11_secret_70 : decode cX11_secret 70 = .ok (.ifCond .eq 21, 3) := by decide +kernel
theorem dX11_secret_73 : decode cX11_secret 73 = .ok (.iload_n 1, 1) := by decide +kernel
theorem dX11_secret_74 : decode cX11_secret 74 = .ok (.ifCond .ne 14, 3) := by decide +kernel
theorem dX11_secret_77 : decode cX11_secret 77 = .ok (.aload_n 0, 1) := by decide +kernel
theorem dX11_secret_78 : decode cX11_secret 78 = .ok (.iload_n 2, 1) := by decide +kernel
theorem dX11_secret_79 : decode cX11_secret 79 = .ok (.invokevirtual 229, 3) := by decide +kernel
theorem dX11_secret_82 : decode cX11_secret 82 = .ok (.aload_n 0, 1) := by decide +kernel
theorem dX11_secret_83 : decode cX11_secret 83 = .ok (.iload 4, 2) := by decide +kernel
theorem dX11_secret_85 : decode cX11_secret 85 = .ok (.invokevirtual 229, 3) := by decide +kernel
theorem dX11_secret_88 : decode cX11_secret 88 = .ok (.iinc 1 1, 3) := by decide +kernel
theorem dX11_secret_91 : decode cX11_secret 91 = .ok (.iinc 4 1, 3) := by decide +kernel
theorem dX11_secret_94 : decode cX11_secret 94 = .ok (.goto (-66), 3) := by decide +kernel
theorem dX11_secret_97 : decode cX11_secret 97 = .ok (.iinc 2 1, 3) := by decide +kernel
theorem dX11_secret_100 : decode cX11_secret 100 = .ok (.goto (-92), 3) := by decide +kernel
theorem dX11_secret_103 : decode cX11_secret 103 = .ok (.iload_n 1, 1) := by decide +kernel
theorem dX11_secret_104 : decode cX11_secret 104 = .ok (.ireturn, 1) := by decide +kernel
theorem bkX11_secret_0 {b : Int} {mem : qm} {Q : Int → qm → Prop}
    (l1 : q_At yX11_secret cX11_secret 5 (some .int) 5 0 0 (qK (q_rb b) Q) 8 [(2, 0), (0, 0), (0, 0), (4, 0), (4, 0)] [] (q_sh0, q_rb b, (q_up mem 0 16 0))) :
    q_At yX11_secret cX11_secret 5 (some .int) 5 0 0 (qK (q_rb b) Q) 0 [(2, 0), (4, 0), (4, 0), (4, 0), (4, 0)] [] (q_sh0, q_rb b, mem) := by
  refine qx_iconst dX11_secret_0 rfl rfl ?_
  refine qx_istore_n (L' := [(2, 0), (0, 0), (4, 0), (4, 0), (4, 0)]) dX11_secret_1 rfl rfl rfl rfl ?_
  refine q_aload_n dX11_secret_2 rfl rfl ?_
  refine qx_invV (ci := 11) [] [(2, 0)] rfl qM_X11_clearRow dX11_secret_3 tw691 rfl qs0 rfl rfl rfl rfl (spX11_clearRow) (fun r1 m1 p1 q1 => ?_)
  obtain rfl := p1
  refine qx_iconst dX11_secret_6 rfl rfl ?_
  refine qx_istore_n (L' := [(2, 0), (0, 0), (0, 0), (4, 0), (4, 0)]) dX11_secret_7 rfl rfl rfl rfl ?_
  exact l1
theorem bkX11_secret_8 {b : Int} {mem : qm} {Q : Int → qm → Prop}
    {v1 v2 : Int}
    (l1 : (mem 1 3) ≤ v2 → Q v1 mem)
    (o2 : v2 < (mem 1 3) → (0 ≤ v2 ∧ v2 < 9) ∧ q_in32 ((mem 2 v2) - (mem 8 v2)))
    (l3 : v2 < (mem 1 3) → q_At yX11_secret cX11_secret 5 (some .int) 5 0 0 (qK (q_rb b) Q) 28 [(2, 0), (0, v1), (0, v2), (0, ((mem 2 v2) - (mem 8 v2))), (0, 1)] [] (q_sh0, q_rb b, mem)) :
    q_At yX11_secret cX11_secret 5 (some .int) 5 0 0 (qK (q_rb b) Q) 8 [(2, 0), (0, v1), (0, v2), (4, 0), (4, 0)] [] (q_sh0, q_rb b, mem) := by
  refine q_iload_n dX11_secret_8 rfl rfl ?_
  refine q_aload_n dX11_secret_9 rfl rfl ?_
  refine q_getR (ci := 11) (k := 0) dX11_secret_10 rfl (by decide) rfl tw349 (by decide) qs0 qw0_0 (by decide) ?_
  refine qx_getI (ci := 9) (k := 3) (v := (mem 1 3)) dX11_secret_13 rfl rfl rfl tw53 rfl qs1 rfl ?_
  refine qx_icmp_ge (tgt := 103) dX11_secret_16 (by decide) (fun c1 => ?_) (fun c1 => ?_)
  · skip
    refine q_iload_n dX11_secret_103 rfl rfl ?_
    exact q_iret dX11_secret_104 (qK_i (l1 c1))
  · skip
    refine q_aload_n dX11_secret_19 rfl rfl ?_
    refine q_iload_n dX11_secret_20 rfl rfl ?_
    refine qx_invV (ci := 11) [(0, v2)] [(0, v2), (2, 0)] rfl qM_X11_roomIn dX11_secret_21 tw616 rfl qs0 rfl rfl rfl rfl (spX11_roomIn (o2 c1)) (fun r2 m2 p2 q2 => ?_)
    obtain ⟨p2e, p2f⟩ := p2
    rw [p2e, p2f]
    refine qx_istore_n (L' := [(2, 0), (0, v1), (0, v2), (0, ((mem 2 v2) - (mem 8 v2))), (4, 0)]) dX11_secret_24 rfl rfl rfl rfl ?_
    refine qx_iconst dX11_secret_25 rfl rfl ?_
    refine qx_istore (L' := [(2, 0), (0, v1), (0, v2), (0, ((mem 2 v2) - (mem 8 v2))), (0, 1)]) dX11_secret_26 rfl rfl rfl ?_
    exact l3 c1
theorem bkX11_secret_28 {b : Int} {mem : qm} {Q : Int → qm → Prop}
    {v1 v2 v3 v4 : Int}
    (o1 : v3 < v4 → q_in32 (v2 + 1))
    (l2 : v3 < v4 → q_At yX11_secret cX11_secret 5 (some .int) 5 0 0 (qK (q_rb b) Q) 8 [(2, 0), (0, v1), (0, (v2 + 1)), (4, 0), (4, 0)] [] (q_sh0, q_rb b, mem))
    {P2 : Int → qm → Prop}
    (l3 : v4 ≤ v3 → q_Ev yX1_start cX1_start 2 none 2 0 0 [(2, 26), (2, 5)] (q_sh0, q_rb b, mem) (qK (q_rb b) (P2)))
    (o4 : v4 ≤ v3 → ∀ (r2 : Int), ∀ (m2 : qm), P2 r2 m2 → q_in32 r2 → (0 ≤ v2 ∧ v2 < 9) ∧ q_in32 ((m2 27 v2) + v4))
    {P3 : Int → qm → Int → qm → Prop}
    (l5 : v4 ≤ v3 → ∀ (r2 : Int), ∀ (m2 : qm), P2 r2 m2 → q_in32 r2 → q_Ev yX5_fit cX5_fit 4 (some .boolean) 4 0 0 [(2, 159), (2, 26)] (q_sh0, q_rb b, (q_up m2 27 v2 ((m2 27 v2) + v4))) (qK (q_rb b) (P3 r2 m2)))
    (o6 : v4 ≤ v3 → ∀ (r2 : Int), ∀ (m2 : qm), P2 r2 m2 → q_in32 r2 → ∀ (r3 : Int), ∀ (m3 : qm), P3 r2 m2 r3 m3 → q_in32 r3 → r3 = 0 → q_in32 (v4 + 1))
    (l7 : v4 ≤ v3 → ∀ (r2 : Int), ∀ (m2 : qm), P2 r2 m2 → q_in32 r2 → ∀ (r3 : Int), ∀ (m3 : qm), P3 r2 m2 r3 m3 → q_in32 r3 → r3 = 0 → q_At yX11_secret cX11_secret 5 (some .int) 5 0 0 (qK (q_rb b) Q) 28 [(2, 0), (0, v1), (0, v2), (0, v3), (0, (v4 + 1))] [] (q_sh0, q_rb b, m3))
    (o8 : v4 ≤ v3 → ∀ (r2 : Int), ∀ (m2 : qm), P2 r2 m2 → q_in32 r2 → ∀ (r3 : Int), ∀ (m3 : qm), P3 r2 m2 r3 m3 → q_in32 r3 → r3 ≠ 0 → v1 ≠ 0 → q_in32 (v1 + 1) ∧ q_in32 (v4 + 1))
    (l9 : v4 ≤ v3 → ∀ (r2 : Int), ∀ (m2 : qm), P2 r2 m2 → q_in32 r2 → ∀ (r3 : Int), ∀ (m3 : qm), P3 r2 m2 r3 m3 → q_in32 r3 → r3 ≠ 0 → v1 ≠ 0 → q_At yX11_secret cX11_secret 5 (some .int) 5 0 0 (qK (q_rb b) Q) 28 [(2, 0), (0, (v1 + 1)), (0, v2), (0, v3), (0, (v4 + 1))] [] (q_sh0, q_rb b, m3))
    (o10 : v4 ≤ v3 → ∀ (r2 : Int), ∀ (m2 : qm), P2 r2 m2 → q_in32 r2 → ∀ (r3 : Int), ∀ (m3 : qm), P3 r2 m2 r3 m3 → q_in32 r3 → r3 ≠ 0 → v1 = 0 → (0 ≤ (m3 0 16) ∧ (m3 0 16) < 10) ∧ (0 ≤ ((m3 0 16) + 1) ∧ ((m3 0 16) + 1) < 10) ∧ q_in32 (v1 + 1) ∧ q_in32 (v4 + 1))
    (l11 : v4 ≤ v3 → ∀ (r2 : Int), ∀ (m2 : qm), P2 r2 m2 → q_in32 r2 → ∀ (r3 : Int), ∀ (m3 : qm), P3 r2 m2 r3 m3 → q_in32 r3 → r3 ≠ 0 → v1 = 0 → q_At yX11_secret cX11_secret 5 (some .int) 5 0 0 (qK (q_rb b) Q) 28 [(2, 0), (0, (v1 + 1)), (0, v2), (0, v3), (0, (v4 + 1))] [] (q_sh0, q_rb b, (q_up (q_up (q_up (q_up m3 169 (m3 0 16) v2) 0 16 ((m3 0 16) + 1)) 169 ((m3 0 16) + 1) v4) 0 16 (((m3 0 16) + 1) + 1)))) :
    q_At yX11_secret cX11_secret 5 (some .int) 5 0 0 (qK (q_rb b) Q) 28 [(2, 0), (0, v1), (0, v2), (0, v3), (0, v4)] [] (q_sh0, q_rb b, mem) := by
  refine q_iload dX11_secret_28 rfl ?_
  refine q_iload_n dX11_secret_30 rfl rfl ?_
  refine qx_icmp_gt (tgt := 97) dX11_secret_31 (by decide) (fun c1 => ?_) (fun c1 => ?_)
  · skip
    refine qx_iinc (L' := [(2, 0), (0, v1), (0, (v2 + 1)), (0, v3), (0, v4)]) dX11_secret_97 rfl rfl rfl (o1 c1) rfl ?_
    refine q_goto (tgt := 8) dX11_secret_100 (by decide) ?_
    refine q_kill (L' := [(2, 0), (0, v1), (0, (v2 + 1)), (4, 0), (0, v4)]) 3 rfl ?_
    refine q_kill (L' := [(2, 0), (0, v1), (0, (v2 + 1)), (4, 0), (4, 0)]) 4 rfl ?_
    exact l2 c1
  · skip
    refine q_aload_n dX11_secret_34 rfl rfl ?_
    refine q_getR (ci := 11) (k := 4) dX11_secret_35 rfl (by decide) rfl tw353 (by decide) qs0 qw0_4 (by decide) ?_
    refine q_aload_n dX11_secret_38 rfl rfl ?_
    refine q_getR (ci := 11) (k := 1) dX11_secret_39 rfl (by decide) rfl tw350 (by decide) qs0 qw0_1 (by decide) ?_
    refine qx_invV (ci := 1) [(2, 5)] [(2, 5), (2, 26)] rfl qM_X1_start dX11_secret_42 tw767 rfl qs26 rfl rfl rfl rfl (l3 c1) (fun r2 m2 p2 q2 => ?_)
    refine q_aload_n dX11_secret_45 rfl rfl ?_
    refine q_getR (ci := 11) (k := 4) dX11_secret_46 rfl (by decide) rfl tw353 (by decide) qs0 qw0_4 (by decide) ?_
    refine q_getR (ci := 1) (k := 1) dX11_secret_49 rfl (by decide) rfl tw153 (by decide) qs26 qw26_1 (by decide) ?_
    refine q_iload_n dX11_secret_52 rfl rfl ?_
    refine q_dup2 dX11_secret_53 (fun h => by cases h) (fun h => by cases h) ?_
    refine qx_iald (v := (m2 27 v2)) dX11_secret_54 qs27 (o4 c1 r2 m2 p2 q2).1 rfl ?_
    refine q_iload dX11_secret_55 rfl ?_
    refine qx_iadd dX11_secret_57 (o4 c1 r2 m2 p2 q2).2 ?_
    refine q_iast dX11_secret_58 qs27 ((o4 c1 r2 m2 p2 q2).1).1 ((o4 c1 r2 m2 p2 q2).1).2 ?_
    refine q_aload_n dX11_secret_59 rfl rfl ?_
    refine q_getR (ci := 11) (k := 12) dX11_secret_60 rfl (by decide) rfl tw361 (by decide) qs0 qw0_12 (by decide) ?_
    refine q_aload_n dX11_secret_63 rfl rfl ?_
    refine q_getR (ci := 11) (k := 4) dX11_secret_64 rfl (by decide) rfl tw353 (by decide) qs0 qw0_4 (by decide) ?_
    refine qx_invV (ci := 5) [(2, 26)] [(2, 26), (2, 159)] rfl qM_X5_fit dX11_secret_67 tw1038 rfl qs159 rfl rfl rfl rfl (l5 c1 r2 m2 p2 q2) (fun r3 m3 p3 q3 => ?_)
    refine qx_if_eq (tgt := 91) dX11_secret_70 (by decide) (fun c4 => ?_) (fun c4 => ?_)
    · skip
      refine qx_iinc (L' := [(2, 0), (0, v1), (0, v2), (0, v3), (0, (v4 + 1))]) dX11_secret_91 rfl rfl rfl (o6 c1 r2 m2 p2 q2 r3 m3 p3 q3 c4) rfl ?_
      refine q_goto (tgt := 28) dX11_secret_94 (by decide) ?_
      exact l7 c1 r2 m2 p2 q2 r3 m3 p3 q3 c4
    · skip
      refine q_iload_n dX11_secret_73 rfl rfl ?_
      refine qx_if_ne (tgt := 88) dX11_secret_74 (by decide) (fun c5 => ?_) (fun c5 => ?_)
      · skip
        refine qx_iinc (L' := [(2, 0), (0, (v1 + 1)), (0, v2), (0, v3), (0, v4)]) dX11_secret_88 rfl rfl rfl (o8 c1 r2 m2 p2 q2 r3 m3 p3 q3 c4 c5).1 rfl ?_
        refine qx_iinc (L' := [(2, 0), (0, (v1 + 1)), (0, v2), (0, v3), (0, (v4 + 1))]) dX11_secret_91 rfl rfl rfl (o8 c1 r2 m2 p2 q2 r3 m3 p3 q3 c4 c5).2 rfl ?_
        refine q_goto (tgt := 28) dX11_secret_94 (by decide) ?_
        exact l9 c1 r2 m2 p2 q2 r3 m3 p3 q3 c4 c5
      · skip
        refine q_aload_n dX11_secret_77 rfl rfl ?_
        refine q_iload_n dX11_secret_78 rfl rfl ?_
        refine qx_invV (ci := 11) [(0, v2)] [(0, v2), (2, 0)] rfl qM_X11_tell dX11_secret_79 tw699 rfl qs0 rfl rfl rfl rfl (spX11_tell (o10 c1 r2 m2 p2 q2 r3 m3 p3 q3 c4 c5).1) (fun r6 m6 p6 q6 => ?_)
        obtain rfl := p6
        refine q_aload_n dX11_secret_82 rfl rfl ?_
        refine q_iload dX11_secret_83 rfl ?_
        refine qx_invV (ci := 11) [(0, v4)] [(0, v4), (2, 0)] rfl qM_X11_tell dX11_secret_85 tw699 rfl qs0 rfl rfl rfl rfl (spX11_tell (by first | exact (o10 c1 r2 m2 p2 q2 r3 m3 p3 q3 c4 c5).2.1 | (simp only [q_up, Int.reduceEq, false_and, true_and, and_true, and_false, ite_false, ite_true, if_true, if_false]; exact (o10 c1 r2 m2 p2 q2 r3 m3 p3 q3 c4 c5).2.1))) (fun r7 m7 p7 q7 => ?_)
        obtain rfl := p7
        refine qx_iinc (L' := [(2, 0), (0, (v1 + 1)), (0, v2), (0, v3), (0, v4)]) dX11_secret_88 rfl rfl rfl (o10 c1 r2 m2 p2 q2 r3 m3 p3 q3 c4 c5).2.2.1 rfl ?_
        refine qx_iinc (L' := [(2, 0), (0, (v1 + 1)), (0, v2), (0, v3), (0, (v4 + 1))]) dX11_secret_91 rfl rfl rfl (o10 c1 r2 m2 p2 q2 r3 m3 p3 q3 c4 c5).2.2.2 rfl ?_
        refine q_goto (tgt := 28) dX11_secret_94 (by decide) ?_
        exact l11 c1 r2 m2 p2 q2 r3 m3 p3 q3 c4 c5
theorem dX11_findWays_0 : decode cX11_findWays 0 = .ok (.iconst 0, 1) := by decide +kernel
theorem dX11_findWays_1 : decode cX11_findWays 1 = .ok (.istore_n 2, 1) := by decide +kernel
theorem dX11_findWays_2 : decode cX11_findWays 2 = .ok (.iconst (-1), 1) := by decide +kernel
theorem dX11_findWays_3 : decode cX11_findWays 3 = .ok (.istore_n 3, 1) := by decide +kernel
theorem dX11_findWays_4 : decode cX11_findWays 4 = .ok (.iload_n 3, 1) := by decide +kernel
theorem dX11_findWays_5 : decode cX11_findWays 5 = .ok (.aload_n 0, 1) := by decide +kernel
theorem dX11_findWays_6 : decode cX11_findWays 6 = .ok (.getfield 10, 3) := by decide +kernel
theorem dX11_findWays_9 : decode cX11_findWays 9 = .ok (.getfield 173, 3) := by decide +kernel
theorem dX11_findWays_12 : decode cX11_findWays 12 = .ok (.if_icmp .ge 92, 3) := by decide +kernel
theorem dX11_findWays_15 : decode cX11_findWays 15 = .ok (.iload_n 3, 1) := by decide +kernel
theorem dX11_findWays_16 : decode cX11_findWays 16 = .ok (.iconst (-1), 1) := by decide +kernel
theorem dX11_findWays_17 : decode cX11_findWays 17 = .ok (.if_icmp .eq 20, 3) := by decide +kernel
theorem dX11_findWays_20 : decode cX11_findWays 20 = .ok (.aload_n 0, 1) := by decide +kernel
theorem dX11_findWays_21 : decode cX11_findWays 21 = .ok (.getfield 19, 3) := by decide +kernel
theorem dX11_findWays_24 : decode cX11_findWays 24 = .ok (.getfield 148, 3) := by decide +kernel
theorem dX11_findWays_27 : decode cX11_findWays 27 = .ok (.iload_n 3, 1) := by decide +kernel
theorem dX11_findWays_28 : decode cX11_findWays 28 = .ok (.iaload, 1) := by decide +kernel
theorem dX11_findWays_29 : decode cX11_findWays 29 = .ok (.bipush 9, 2) := by decide +kernel
theorem dX11_findWays_31 : decode cX11_findWays 31 = .ok (.if_icmp .ne 6, 3) := by decide +kernel
theorem dX11_findWays_34 : decode cX11_findWays 34 = .ok (.goto 64, 3) := by decide +kernel
theorem dX11_findWays_37 : decode cX11_findWays 37 = .ok (.aload_n 0, 1) := by decide +kernel
theorem dX11_findWays_38 : decode cX11_findWays 38 = .ok (.getfield 38, 3) := by decide +kernel
theorem dX11_findWays_41 : decode cX11_findWays 41 = .ok (.aload_n 0, 1) := by decide +kernel
theorem dX11_findWays_42 : decode cX11_findWays 42 = .ok (.getfield 19, 3) := by decide +kernel
theorem dX11_findWays_45 : decode cX11_findWays 45 = .ok (.invokevirtual 282, 3) := by decide +kernel
theorem dX11_findWays_48 : decode cX11_findWays 48 = .ok (.iload_n 3, 1) := by decide +kernel
theorem dX11_findWays_49 : decode cX11_findWays 49 = .ok (.iconst (-1), 1) := by decide +kernel
theorem dX11_findWays_50 : decode cX11_findWays 50 = .ok (.if_icmp .eq 16, 3) := by decide +kernel
theorem dX11_findWays_53 : decode cX11_findWays 53 = .ok (.aload_n 0, 1) := by decide +kernel
theorem dX11_findWays_54 : decode cX11_findWays 54 = .ok (.getfield 38, 3) := by decide +kernel
theorem dX11_findWays_57 : decode cX11_findWays 57 = .ok (.getfield 324, 3) := by decide +kernel
theorem dX11_findWays_60 : decode cX11_findWays 60 = .ok (.iload_n 3, 1) := by decide +kernel
theorem dX11_findWays_61 : decode cX11_findWays 61 = .ok (.dup2, 1) := by decide +kernel
theorem dX11_findWays_62 : decode cX11_findWays 62 = .ok (.iaload, 1) := by decide +kernel
theorem dX11_findWays_63 : decode cX11_findWays 63 = .ok (.iconst 1, 1) := by decide +kernel
theorem dX11_findWays_64 : decode cX11_findWays 64 = .ok (.iadd, 1) := by decide +kernel
theorem dX11_findWays_65 : decode cX11_findWays 65 = .ok (.iastore, 1) := by decide +kernel
theorem dX11_findWays_66 : decode cX11_findWays 66 = .ok (.aload_n 0, 1) := by decide +kernel
theorem dX11_findWays_67 : decode cX11_findWays 67 = .ok (.getfield 38, 3) := by decide +kernel
theorem dX11_findWays_70 : decode cX11_findWays 70 = .ok (.iload_n 1, 1) := by decide +kernel
theorem dX11_findWays_71 : decode cX11_findWays 71 = .ok (.invokevirtual 300, 3) := by decide +kernel
theorem dX11_findWays_74 : decode cX11_findWays 74 = .ok (.aload_n 0, 1) := by decide +kernel
theorem dX11_findWays_75 : decode cX11_findWays 75 = .ok (.getfield 38, 3) := by decide +kernel
theorem dX11_findWays_78 : decode cX11_findWays 78 = .ok (.getfield 299, 3) := by decide +kernel
theorem dX11_findWays_81 : decode cX11_findWays 81 = .ok (.iconst 0, 1) := by decide +kernel
theorem dX11_findWays_82 : decode cX11_findWays 82 = .ok (.aload_n 0, 1) := by decide +kernel
theorem dX11_findWays_83 : decode cX11_findWays 83 = .ok (.getfield 101, 3) := by decide +kernel
theorem dX11_findWays_86 : decode cX11_findWays 86 = .ok (.iload_n 2, 1) := by decide +kernel
theorem dX11_findWays_87 : decode cX11_findWays 87 = .ok (.bipush 9, 2) := by decide +kernel
theorem dX11_findWays_89 : decode cX11_findWays 89 = .ok (.imul, 1) := by decide +kernel
theorem dX11_findWays_90 : decode cX11_findWays 90 = .ok (.bipush 9, 2) := by decide +kernel
theorem dX11_findWays_92 : decode cX11_findWays 92 = .ok (.invokestatic 399, 3) := by decide +kernel
theorem dX11_findWays_95 : decode cX11_findWays 95 = .ok (.iinc 2 1, 3) := by decide +kernel
theorem dX11_findWays_98 : decode cX11_findWays 98 = .ok (.iinc 3 1, 3) := by decide +kernel
theorem dX11_findWays_101 : decode cX11_findWays 101 = .ok (.goto (-97), 3) := by decide +kernel
theorem dX11_findWays_104 : decode cX11_findWays 104 = .ok (.iload_n 2, 1) := by decide +kernel
theorem dX11_findWays_105 : decode cX11_findWays 105 = .ok (.ireturn, 1) := by decide +kernel
theorem bkX11_findWays_0 {b : Int} {mem : qm} {Q : Int → qm → Prop}
    {v : Int}
    (l1 : q_At yX11_findWays cX11_findWays 4 (some .int) 4 0 0 (qK (q_rb b) Q) 4 [(2, 0), (0, v), (0, 0), (0, (-1))] [] (q_sh0, q_rb b, mem)) :
    q_At yX11_findWays cX11_findWays 4 (some .int) 4 0 0 (qK (q_rb b) Q) 0 [(2, 0), (0, v), (4, 0), (4, 0)] [] (q_sh0, q_rb b, mem) := by
  refine qx_iconst dX11_findWays_0 rfl rfl ?_
  refine qx_istore_n (L' := [(2, 0), (0, v), (0, 0), (4, 0)]) dX11_findWays_1 rfl rfl rfl rfl ?_
  refine qx_iconst dX11_findWays_2 rfl rfl ?_
  refine qx_istore_n (L' := [(2, 0), (0, v), (0, 0), (0, (-1))]) dX11_findWays_3 rfl rfl rfl rfl ?_
  exact l1
theorem bkX11_findWays_4 {b : Int} {mem : qm} {Q : Int → qm → Prop}
    {v v2 v3 : Int}
    (l1 : (mem 1 3) ≤ v3 → Q v2 mem)
    {P3 : Int → qm → Prop}
    (l2 : v3 < (mem 1 3) → v3 = (-1) → q_Ev yX1_start cX1_start 2 none 2 0 0 [(2, 26), (2, 5)] (q_sh0, q_rb b, mem) (qK (q_rb b) (P3)))
    {P5 : Int → qm → Int → qm → Prop}
    (l3 : v3 < (mem 1 3) → v3 = (-1) → ∀ (r3 : Int), ∀ (m3 : qm), P3 r3 m3 → q_in32 r3 → v3 = (-1) → q_Ev yX1_strikeAll cX1_strikeAll 3 none 3 0 0 [(2, 26), (0, v)] (q_sh0, q_rb b, m3) (qK (q_rb b) (P5 r3 m3)))
    (o4 : v3 < (mem 1 3) → v3 = (-1) → ∀ (r3 : Int), ∀ (m3 : qm), P3 r3 m3 → q_in32 r3 → v3 = (-1) → ∀ (r5 : Int), ∀ (m5 : qm), P5 r3 m3 r5 m5 → q_in32 r5 → q_in32 (v2 * 9) ∧ (0 : Int) ≤ 0 ∧ (0 : Int) ≤ (v2 * 9) ∧ (0 : Int) ≤ 9 ∧ (0 : Int) + 9 ≤ 9 ∧ ((v2 * 9) : Int) + 9 ≤ 90 ∧ q_in32 (v2 + 1) ∧ q_in32 (v3 + 1))
    (l5 : v3 < (mem 1 3) → v3 = (-1) → ∀ (r3 : Int), ∀ (m3 : qm), P3 r3 m3 → q_in32 r3 → v3 = (-1) → ∀ (r5 : Int), ∀ (m5 : qm), P5 r3 m3 r5 m5 → q_in32 r5 → q_At yX11_findWays cX11_findWays 4 (some .int) 4 0 0 (qK (q_rb b) Q) 4 [(2, 0), (0, v), (0, (v2 + 1)), (0, (v3 + 1))] [] (q_sh0, q_rb b, (q_cp m5 27 0 168 (v2 * 9) 9)))
    (o6 : v3 < (mem 1 3) → v3 = (-1) → ∀ (r3 : Int), ∀ (m3 : qm), P3 r3 m3 → q_in32 r3 → v3 ≠ (-1) → (0 ≤ v3 ∧ v3 < 9) ∧ q_in32 ((m3 28 v3) + 1))
    {P6 : Int → qm → Int → qm → Prop}
    (l7 : v3 < (mem 1 3) → v3 = (-1) → ∀ (r3 : Int), ∀ (m3 : qm), P3 r3 m3 → q_in32 r3 → v3 ≠ (-1) → q_Ev yX1_strikeAll cX1_strikeAll 3 none 3 0 0 [(2, 26), (0, v)] (q_sh0, q_rb b, (q_up m3 28 v3 ((m3 28 v3) + 1))) (qK (q_rb b) (P6 r3 m3)))
    (o8 : v3 < (mem 1 3) → v3 = (-1) → ∀ (r3 : Int), ∀ (m3 : qm), P3 r3 m3 → q_in32 r3 → v3 ≠ (-1) → ∀ (r6 : Int), ∀ (m6 : qm), P6 r3 m3 r6 m6 → q_in32 r6 → q_in32 (v2 * 9) ∧ (0 : Int) ≤ 0 ∧ (0 : Int) ≤ (v2 * 9) ∧ (0 : Int) ≤ 9 ∧ (0 : Int) + 9 ≤ 9 ∧ ((v2 * 9) : Int) + 9 ≤ 90 ∧ q_in32 (v2 + 1) ∧ q_in32 (v3 + 1))
    (l9 : v3 < (mem 1 3) → v3 = (-1) → ∀ (r3 : Int), ∀ (m3 : qm), P3 r3 m3 → q_in32 r3 → v3 ≠ (-1) → ∀ (r6 : Int), ∀ (m6 : qm), P6 r3 m3 r6 m6 → q_in32 r6 → q_At yX11_findWays cX11_findWays 4 (some .int) 4 0 0 (qK (q_rb b) Q) 4 [(2, 0), (0, v), (0, (v2 + 1)), (0, (v3 + 1))] [] (q_sh0, q_rb b, (q_cp m6 27 0 168 (v2 * 9) 9)))
    (o10 : v3 < (mem 1 3) → v3 ≠ (-1) → (0 ≤ v3 ∧ v3 < 9))
    {P8 : Int → qm → Prop}
    (l11 : v3 < (mem 1 3) → v3 ≠ (-1) → (mem 10 v3) ≠ 9 → q_Ev yX1_start cX1_start 2 none 2 0 0 [(2, 26), (2, 5)] (q_sh0, q_rb b, mem) (qK (q_rb b) (P8)))
    {P10 : Int → qm → Int → qm → Prop}
    (l12 : v3 < (mem 1 3) → v3 ≠ (-1) → (mem 10 v3) ≠ 9 → ∀ (r8 : Int), ∀ (m8 : qm), P8 r8 m8 → q_in32 r8 → v3 = (-1) → q_Ev yX1_strikeAll cX1_strikeAll 3 none 3 0 0 [(2, 26), (0, v)] (q_sh0, q_rb b, m8) (qK (q_rb b) (P10 r8 m8)))
    (o13 : v3 < (mem 1 3) → v3 ≠ (-1) → (mem 10 v3) ≠ 9 → ∀ (r8 : Int), ∀ (m8 : qm), P8 r8 m8 → q_in32 r8 → v3 = (-1) → ∀ (r10 : Int), ∀ (m10 : qm), P10 r8 m8 r10 m10 → q_in32 r10 → q_in32 (v2 * 9) ∧ (0 : Int) ≤ 0 ∧ (0 : Int) ≤ (v2 * 9) ∧ (0 : Int) ≤ 9 ∧ (0 : Int) + 9 ≤ 9 ∧ ((v2 * 9) : Int) + 9 ≤ 90 ∧ q_in32 (v2 + 1) ∧ q_in32 (v3 + 1))
    (l14 : v3 < (mem 1 3) → v3 ≠ (-1) → (mem 10 v3) ≠ 9 → ∀ (r8 : Int), ∀ (m8 : qm), P8 r8 m8 → q_in32 r8 → v3 = (-1) → ∀ (r10 : Int), ∀ (m10 : qm), P10 r8 m8 r10 m10 → q_in32 r10 → q_At yX11_findWays cX11_findWays 4 (some .int) 4 0 0 (qK (q_rb b) Q) 4 [(2, 0), (0, v), (0, (v2 + 1)), (0, (v3 + 1))] [] (q_sh0, q_rb b, (q_cp m10 27 0 168 (v2 * 9) 9)))
    (o15 : v3 < (mem 1 3) → v3 ≠ (-1) → (mem 10 v3) ≠ 9 → ∀ (r8 : Int), ∀ (m8 : qm), P8 r8 m8 → q_in32 r8 → v3 ≠ (-1) → q_in32 ((m8 28 v3) + 1))
    {P11 : Int → qm → Int → qm → Prop}
    (l16 : v3 < (mem 1 3) → v3 ≠ (-1) → (mem 10 v3) ≠ 9 → ∀ (r8 : Int), ∀ (m8 : qm), P8 r8 m8 → q_in32 r8 → v3 ≠ (-1) → q_Ev yX1_strikeAll cX1_strikeAll 3 none 3 0 0 [(2, 26), (0, v)] (q_sh0, q_rb b, (q_up m8 28 v3 ((m8 28 v3) + 1))) (qK (q_rb b) (P11 r8 m8)))
    (o17 : v3 < (mem 1 3) → v3 ≠ (-1) → (mem 10 v3) ≠ 9 → ∀ (r8 : Int), ∀ (m8 : qm), P8 r8 m8 → q_in32 r8 → v3 ≠ (-1) → ∀ (r11 : Int), ∀ (m11 : qm), P11 r8 m8 r11 m11 → q_in32 r11 → q_in32 (v2 * 9) ∧ (0 : Int) ≤ 0 ∧ (0 : Int) ≤ (v2 * 9) ∧ (0 : Int) ≤ 9 ∧ (0 : Int) + 9 ≤ 9 ∧ ((v2 * 9) : Int) + 9 ≤ 90 ∧ q_in32 (v2 + 1) ∧ q_in32 (v3 + 1))
    (l18 : v3 < (mem 1 3) → v3 ≠ (-1) → (mem 10 v3) ≠ 9 → ∀ (r8 : Int), ∀ (m8 : qm), P8 r8 m8 → q_in32 r8 → v3 ≠ (-1) → ∀ (r11 : Int), ∀ (m11 : qm), P11 r8 m8 r11 m11 → q_in32 r11 → q_At yX11_findWays cX11_findWays 4 (some .int) 4 0 0 (qK (q_rb b) Q) 4 [(2, 0), (0, v), (0, (v2 + 1)), (0, (v3 + 1))] [] (q_sh0, q_rb b, (q_cp m11 27 0 168 (v2 * 9) 9)))
    (o19 : v3 < (mem 1 3) → v3 ≠ (-1) → (mem 10 v3) = 9 → q_in32 (v3 + 1))
    (l20 : v3 < (mem 1 3) → v3 ≠ (-1) → (mem 10 v3) = 9 → q_At yX11_findWays cX11_findWays 4 (some .int) 4 0 0 (qK (q_rb b) Q) 4 [(2, 0), (0, v), (0, v2), (0, (v3 + 1))] [] (q_sh0, q_rb b, mem)) :
    q_At yX11_findWays cX11_findWays 4 (some .int) 4 0 0 (qK (q_rb b) Q) 4 [(2, 0), (0, v), (0, v2), (0, v3)] [] (q_sh0, q_rb b, mem) := by
  refine q_iload_n dX11_findWays_4 rfl rfl ?_
  refine q_aload_n dX11_findWays_5 rfl rfl ?_
  refine q_getR (ci := 11) (k := 0) dX11_findWays_6 rfl (by decide) rfl tw349 (by decide) qs0 qw0_0 (by decide) ?_
  refine qx_getI (ci := 9) (k := 3) (v := (mem 1 3)) dX11_findWays_9 rfl rfl rfl tw53 rfl qs1 rfl ?_
  refine qx_icmp_ge (tgt := 104) dX11_findWays_12 (by decide) (fun c1 => ?_) (fun c1 => ?_)
  · skip
    refine q_iload_n dX11_findWays_104 rfl rfl ?_
    exact q_iret dX11_findWays_105 (qK_i (l1 c1))
  · skip
    refine q_iload_n dX11_findWays_15 rfl rfl ?_
    refine qx_iconst dX11_findWays_16 rfl rfl ?_
    refine qx_icmp_eq (tgt := 37) dX11_findWays_17 (by decide) (fun c2 => ?_) (fun c2 => ?_)
    · skip
      refine q_aload_n dX11_findWays_37 rfl rfl ?_
      refine q_getR (ci := 11) (k := 4) dX11_findWays_38 rfl (by decide) rfl tw353 (by decide) qs0 qw0_4 (by decide) ?_
      refine q_aload_n dX11_findWays_41 rfl rfl ?_
      refine q_getR (ci := 11) (k := 1) dX11_findWays_42 rfl (by decide) rfl tw350 (by decide) qs0 qw0_1 (by decide) ?_
      refine qx_invV (ci := 1) [(2, 5)] [(2, 5), (2, 26)] rfl qM_X1_start dX11_findWays_45 tw767 rfl qs26 rfl rfl rfl rfl (l2 c1 c2) (fun r3 m3 p3 q3 => ?_)
      refine q_iload_n dX11_findWays_48 rfl rfl ?_
      refine qx_iconst dX11_findWays_49 rfl rfl ?_
      refine qx_icmp_eq (tgt := 66) dX11_findWays_50 (by decide) (fun c4 => ?_) (fun c4 => ?_)
      · skip
        refine q_aload_n dX11_findWays_66 rfl rfl ?_
        refine q_getR (ci := 11) (k := 4) dX11_findWays_67 rfl (by decide) rfl tw353 (by decide) qs0 qw0_4 (by decide) ?_
        refine q_iload_n dX11_findWays_70 rfl rfl ?_
        refine qx_invV (ci := 1) [(0, v)] [(0, v), (2, 26)] rfl qM_X1_strikeAll dX11_findWays_71 tw804 rfl qs26 rfl rfl rfl rfl (l3 c1 c2 r3 m3 p3 q3 c4) (fun r5 m5 p5 q5 => ?_)
        refine q_aload_n dX11_findWays_74 rfl rfl ?_
        refine q_getR (ci := 11) (k := 4) dX11_findWays_75 rfl (by decide) rfl tw353 (by decide) qs0 qw0_4 (by decide) ?_
        refine q_getR (ci := 1) (k := 1) dX11_findWays_78 rfl (by decide) rfl tw153 (by decide) qs26 qw26_1 (by decide) ?_
        refine qx_iconst dX11_findWays_81 rfl rfl ?_
        refine q_aload_n dX11_findWays_82 rfl rfl ?_
        refine q_getR (ci := 11) (k := 14) dX11_findWays_83 rfl (by decide) rfl tw363 (by decide) qs0 qw0_14 (by decide) ?_
        refine q_iload_n dX11_findWays_86 rfl rfl ?_
        refine qx_bipush dX11_findWays_87 rfl rfl ?_
        refine qx_imul dX11_findWays_89 (o4 c1 c2 r3 m3 p3 q3 c4 r5 m5 p5 q5).1 ?_
        refine qx_bipush dX11_findWays_90 rfl rfl ?_
        refine q_copy dX11_findWays_92 tw1064 tw423 tw422 tw14 (by decide) (Nat.le_of_ble_eq_true rfl) qs27 qs168 (o4 c1 c2 r3 m3 p3 q3 c4 r5 m5 p5 q5).2.1 (o4 c1 c2 r3 m3 p3 q3 c4 r5 m5 p5 q5).2.2.1 (o4 c1 c2 r3 m3 p3 q3 c4 r5 m5 p5 q5).2.2.2.1 (o4 c1 c2 r3 m3 p3 q3 c4 r5 m5 p5 q5).2.2.2.2.1 (o4 c1 c2 r3 m3 p3 q3 c4 r5 m5 p5 q5).2.2.2.2.2.1 ?_
        refine qx_iinc (L' := [(2, 0), (0, v), (0, (v2 + 1)), (0, v3)]) dX11_findWays_95 rfl rfl rfl (o4 c1 c2 r3 m3 p3 q3 c4 r5 m5 p5 q5).2.2.2.2.2.2.1 rfl ?_
        refine qx_iinc (L' := [(2, 0), (0, v), (0, (v2 + 1)), (0, (v3 + 1))]) dX11_findWays_98 rfl rfl rfl (o4 c1 c2 r3 m3 p3 q3 c4 r5 m5 p5 q5).2.2.2.2.2.2.2 rfl ?_
        refine q_goto (tgt := 4) dX11_findWays_101 (by decide) ?_
        exact l5 c1 c2 r3 m3 p3 q3 c4 r5 m5 p5 q5
      · skip
        refine q_aload_n dX11_findWays_53 rfl rfl ?_
        refine q_getR (ci := 11) (k := 4) dX11_findWays_54 rfl (by decide) rfl tw353 (by decide) qs0 qw0_4 (by decide) ?_
        refine q_getR (ci := 1) (k := 2) dX11_findWays_57 rfl (by decide) rfl tw155 (by decide) qs26 qw26_2 (by decide) ?_
        refine q_iload_n dX11_findWays_60 rfl rfl ?_
        refine q_dup2 dX11_findWays_61 (fun h => by cases h) (fun h => by cases h) ?_
        refine qx_iald (v := (m3 28 v3)) dX11_findWays_62 qs28 (o6 c1 c2 r3 m3 p3 q3 c4).1 rfl ?_
        refine qx_iconst dX11_findWays_63 rfl rfl ?_
        refine qx_iadd dX11_findWays_64 (o6 c1 c2 r3 m3 p3 q3 c4).2 ?_
        refine q_iast dX11_findWays_65 qs28 ((o6 c1 c2 r3 m3 p3 q3 c4).1).1 ((o6 c1 c2 r3 m3 p3 q3 c4).1).2 ?_
        refine q_aload_n dX11_findWays_66 rfl rfl ?_
        refine q_getR (ci := 11) (k := 4) dX11_findWays_67 rfl (by decide) rfl tw353 (by decide) qs0 qw0_4 (by decide) ?_
        refine q_iload_n dX11_findWays_70 rfl rfl ?_
        refine qx_invV (ci := 1) [(0, v)] [(0, v), (2, 26)] rfl qM_X1_strikeAll dX11_findWays_71 tw804 rfl qs26 rfl rfl rfl rfl (l7 c1 c2 r3 m3 p3 q3 c4) (fun r6 m6 p6 q6 => ?_)
        refine q_aload_n dX11_findWays_74 rfl rfl ?_
        refine q_getR (ci := 11) (k := 4) dX11_findWays_75 rfl (by decide) rfl tw353 (by decide) qs0 qw0_4 (by decide) ?_
        refine q_getR (ci := 1) (k := 1) dX11_findWays_78 rfl (by decide) rfl tw153 (by decide) qs26 qw26_1 (by decide) ?_
        refine qx_iconst dX11_findWays_81 rfl rfl ?_
        refine q_aload_n dX11_findWays_82 rfl rfl ?_
        refine q_getR (ci := 11) (k := 14) dX11_findWays_83 rfl (by decide) rfl tw363 (by decide) qs0 qw0_14 (by decide) ?_
        refine q_iload_n dX11_findWays_86 rfl rfl ?_
        refine qx_bipush dX11_findWays_87 rfl rfl ?_
        refine qx_imul dX11_findWays_89 (o8 c1 c2 r3 m3 p3 q3 c4 r6 m6 p6 q6).1 ?_
        refine qx_bipush dX11_findWays_90 rfl rfl ?_
        refine q_copy dX11_findWays_92 tw1064 tw423 tw422 tw14 (by decide) (Nat.le_of_ble_eq_true rfl) qs27 qs168 (o8 c1 c2 r3 m3 p3 q3 c4 r6 m6 p6 q6).2.1 (o8 c1 c2 r3 m3 p3 q3 c4 r6 m6 p6 q6).2.2.1 (o8 c1 c2 r3 m3 p3 q3 c4 r6 m6 p6 q6).2.2.2.1 (o8 c1 c2 r3 m3 p3 q3 c4 r6 m6 p6 q6).2.2.2.2.1 (o8 c1 c2 r3 m3 p3 q3 c4 r6 m6 p6 q6).2.2.2.2.2.1 ?_
        refine qx_iinc (L' := [(2, 0), (0, v), (0, (v2 + 1)), (0, v3)]) dX11_findWays_95 rfl rfl rfl (o8 c1 c2 r3 m3 p3 q3 c4 r6 m6 p6 q6).2.2.2.2.2.2.1 rfl ?_
        refine qx_iinc (L' := [(2, 0), (0, v), (0, (v2 + 1)), (0, (v3 + 1))]) dX11_findWays_98 rfl rfl rfl (o8 c1 c2 r3 m3 p3 q3 c4 r6 m6 p6 q6).2.2.2.2.2.2.2 rfl ?_
        refine q_goto (tgt := 4) dX11_findWays_101 (by decide) ?_
        exact l9 c1 c2 r3 m3 p3 q3 c4 r6 m6 p6 q6
    · skip
      refine q_aload_n dX11_findWays_20 rfl rfl ?_
      refine q_getR (ci := 11) (k := 1) dX11_findWays_21 rfl (by decide) rfl tw350 (by decide) qs0 qw0_1 (by decide) ?_
      refine q_getR (ci := 7) (k := 4) dX11_findWays_24 rfl (by decide) rfl tw87 (by decide) qs5 qw5_4 (by decide) ?_
      refine q_iload_n dX11_findWays_27 rfl rfl ?_
      refine qx_iald (v := (mem 10 v3)) dX11_findWays_28 qs10 (o10 c1 c2) rfl ?_
      refine qx_bipush dX11_findWays_29 rfl rfl ?_
      refine qx_icmp_ne (tgt := 37) dX11_findWays_31 (by decide) (fun c7 => ?_) (fun c7 => ?_)
      · skip
        refine q_aload_n dX11_findWays_37 rfl rfl ?_
        refine q_getR (ci := 11) (k := 4) dX11_findWays_38 rfl (by decide) rfl tw353 (by decide) qs0 qw0_4 (by decide) ?_
        refine q_aload_n dX11_findWays_41 rfl rfl ?_
        refine q_getR (ci := 11) (k := 1) dX11_findWays_42 rfl (by decide) rfl tw350 (by decide) qs0 qw0_1 (by decide) ?_
        refine qx_invV (ci := 1) [(2, 5)] [(2, 5), (2, 26)] rfl qM_X1_start dX11_findWays_45 tw767 rfl qs26 rfl rfl rfl rfl (l11 c1 c2 c7) (fun r8 m8 p8 q8 => ?_)
        refine q_iload_n dX11_findWays_48 rfl rfl ?_
        refine qx_iconst dX11_findWays_49 rfl rfl ?_
        refine qx_icmp_eq (tgt := 66) dX11_findWays_50 (by decide) (fun c9 => ?_) (fun c9 => ?_)
        · skip
          refine q_aload_n dX11_findWays_66 rfl rfl ?_
          refine q_getR (ci := 11) (k := 4) dX11_findWays_67 rfl (by decide) rfl tw353 (by decide) qs0 qw0_4 (by decide) ?_
          refine q_iload_n dX11_findWays_70 rfl rfl ?_
          refine qx_invV (ci := 1) [(0, v)] [(0, v), (2, 26)] rfl qM_X1_strikeAll dX11_findWays_71 tw804 rfl qs26 rfl rfl rfl rfl (l12 c1 c2 c7 r8 m8 p8 q8 c9) (fun r10 m10 p10 q10 => ?_)
          refine q_aload_n dX11_findWays_74 rfl rfl ?_
          refine q_getR (ci := 11) (k := 4) dX11_findWays_75 rfl (by decide) rfl tw353 (by decide) qs0 qw0_4 (by decide) ?_
          refine q_getR (ci := 1) (k := 1) dX11_findWays_78 rfl (by decide) rfl tw153 (by decide) qs26 qw26_1 (by decide) ?_
          refine qx_iconst dX11_findWays_81 rfl rfl ?_
          refine q_aload_n dX11_findWays_82 rfl rfl ?_
          refine q_getR (ci := 11) (k := 14) dX11_findWays_83 rfl (by decide) rfl tw363 (by decide) qs0 qw0_14 (by decide) ?_
          refine q_iload_n dX11_findWays_86 rfl rfl ?_
          refine qx_bipush dX11_findWays_87 rfl rfl ?_
          refine qx_imul dX11_findWays_89 (o13 c1 c2 c7 r8 m8 p8 q8 c9 r10 m10 p10 q10).1 ?_
          refine qx_bipush dX11_findWays_90 rfl rfl ?_
          refine q_copy dX11_findWays_92 tw1064 tw423 tw422 tw14 (by decide) (Nat.le_of_ble_eq_true rfl) qs27 qs168 (o13 c1 c2 c7 r8 m8 p8 q8 c9 r10 m10 p10 q10).2.1 (o13 c1 c2 c7 r8 m8 p8 q8 c9 r10 m10 p10 q10).2.2.1 (o13 c1 c2 c7 r8 m8 p8 q8 c9 r10 m10 p10 q10).2.2.2.1 (o13 c1 c2 c7 r8 m8 p8 q8 c9 r10 m10 p10 q10).2.2.2.2.1 (o13 c1 c2 c7 r8 m8 p8 q8 c9 r10 m10 p10 q10).2.2.2.2.2.1 ?_
          refine qx_iinc (L' := [(2, 0), (0, v), (0, (v2 + 1)), (0, v3)]) dX11_findWays_95 rfl rfl rfl (o13 c1 c2 c7 r8 m8 p8 q8 c9 r10 m10 p10 q10).2.2.2.2.2.2.1 rfl ?_
          refine qx_iinc (L' := [(2, 0), (0, v), (0, (v2 + 1)), (0, (v3 + 1))]) dX11_findWays_98 rfl rfl rfl (o13 c1 c2 c7 r8 m8 p8 q8 c9 r10 m10 p10 q10).2.2.2.2.2.2.2 rfl ?_
          refine q_goto (tgt := 4) dX11_findWays_101 (by decide) ?_
          exact l14 c1 c2 c7 r8 m8 p8 q8 c9 r10 m10 p10 q10
        · skip
          refine q_aload_n dX11_findWays_53 rfl rfl ?_
          refine q_getR (ci := 11) (k := 4) dX11_findWays_54 rfl (by decide) rfl tw353 (by decide) qs0 qw0_4 (by decide) ?_
          refine q_getR (ci := 1) (k := 2) dX11_findWays_57 rfl (by decide) rfl tw155 (by decide) qs26 qw26_2 (by decide) ?_
          refine q_iload_n dX11_findWays_60 rfl rfl ?_
          refine q_dup2 dX11_findWays_61 (fun h => by cases h) (fun h => by cases h) ?_
          refine qx_iald (v := (m8 28 v3)) dX11_findWays_62 qs28 (o10 c1 c2) rfl ?_
          refine qx_iconst dX11_findWays_63 rfl rfl ?_
          refine qx_iadd dX11_findWays_64 (o15 c1 c2 c7 r8 m8 p8 q8 c9) ?_
          refine q_iast dX11_findWays_65 qs28 ((o10 c1 c2)).1 ((o10 c1 c2)).2 ?_
          refine q_aload_n dX11_findWays_66 rfl rfl ?_
          refine q_getR (ci := 11) (k := 4) dX11_findWays_67 rfl (by decide) rfl tw353 (by decide) qs0 qw0_4 (by decide) ?_
          refine q_iload_n dX11_findWays_70 rfl rfl ?_
          refine qx_invV (ci := 1) [(0, v)] [(0, v), (2, 26)] rfl qM_X1_strikeAll dX11_findWays_71 tw804 rfl qs26 rfl rfl rfl rfl (l16 c1 c2 c7 r8 m8 p8 q8 c9) (fun r11 m11 p11 q11 => ?_)
          refine q_aload_n dX11_findWays_74 rfl rfl ?_
          refine q_getR (ci := 11) (k := 4) dX11_findWays_75 rfl (by decide) rfl tw353 (by decide) qs0 qw0_4 (by decide) ?_
          refine q_getR (ci := 1) (k := 1) dX11_findWays_78 rfl (by decide) rfl tw153 (by decide) qs26 qw26_1 (by decide) ?_
          refine qx_iconst dX11_findWays_81 rfl rfl ?_
          refine q_aload_n dX11_findWays_82 rfl rfl ?_
          refine q_getR (ci := 11) (k := 14) dX11_findWays_83 rfl (by decide) rfl tw363 (by decide) qs0 qw0_14 (by decide) ?_
          refine q_iload_n dX11_findWays_86 rfl rfl ?_
          refine qx_bipush dX11_findWays_87 rfl rfl ?_
          refine qx_imul dX11_findWays_89 (o17 c1 c2 c7 r8 m8 p8 q8 c9 r11 m11 p11 q11).1 ?_
          refine qx_bipush dX11_findWays_90 rfl rfl ?_
          refine q_copy dX11_findWays_92 tw1064 tw423 tw422 tw14 (by decide) (Nat.le_of_ble_eq_true rfl) qs27 qs168 (o17 c1 c2 c7 r8 m8 p8 q8 c9 r11 m11 p11 q11).2.1 (o17 c1 c2 c7 r8 m8 p8 q8 c9 r11 m11 p11 q11).2.2.1 (o17 c1 c2 c7 r8 m8 p8 q8 c9 r11 m11 p11 q11).2.2.2.1 (o17 c1 c2 c7 r8 m8 p8 q8 c9 r11 m11 p11 q11).2.2.2.2.1 (o17 c1 c2 c7 r8 m8 p8 q8 c9 r11 m11 p11 q11).2.2.2.2.2.1 ?_
          refine qx_iinc (L' := [(2, 0), (0, v), (0, (v2 + 1)), (0, v3)]) dX11_findWays_95 rfl rfl rfl (o17 c1 c2 c7 r8 m8 p8 q8 c9 r11 m11 p11 q11).2.2.2.2.2.2.1 rfl ?_
          refine qx_iinc (L' := [(2, 0), (0, v), (0, (v2 + 1)), (0, (v3 + 1))]) dX11_findWays_98 rfl rfl rfl (o17 c1 c2 c7 r8 m8 p8 q8 c9 r11 m11 p11 q11).2.2.2.2.2.2.2 rfl ?_
          refine q_goto (tgt := 4) dX11_findWays_101 (by decide) ?_
          exact l18 c1 c2 c7 r8 m8 p8 q8 c9 r11 m11 p11 q11
      · skip
        refine q_goto (tgt := 98) dX11_findWays_34 (by decide) ?_
        refine qx_iinc (L' := [(2, 0), (0, v), (0, v2), (0, (v3 + 1))]) dX11_findWays_98 rfl rfl rfl (o19 c1 c2 c7) rfl ?_
        refine q_goto (tgt := 4) dX11_findWays_101 (by decide) ?_
        exact l20 c1 c2 c7
theorem dX11_waysLike_0 : decode cX11_waysLike 0 = .ok (.aload_n 0, 1) := by decide +kernel
theorem dX11_waysLike_1 : decode cX11_waysLike 1 = .ok (.getfield 101, 3) := by decide +kernel
theorem dX11_waysLike_4 : decode cX11_waysLike 4 = .ok (.iload_n 2, 1) := by decide +kernel
theorem dX11_waysLike_5 : decode cX11_waysLike 5 = .ok (.bipush 9, 2) := by decide +kernel
theorem dX11_waysLike_7 : decode cX11_waysLike 7 = .ok (.imul, 1) := by decide +kernel
theorem dX11_waysLike_8 : decode cX11_waysLike 8 = .ok (.iload_n 1, 1) := by decide +kernel
theorem dX11_waysLike_9 : decode cX11_waysLike 9 = .ok (.iadd, 1) := by decide +kernel
theorem dX11_waysLike_10 : decode cX11_waysLike 10 = .ok (.iaload, 1) := by decide +kernel
theorem dX11_waysLike_11 : decode cX11_waysLike 11 = .ok (.istore 5, 2) := by decide +kernel
theorem dX11_waysLike_13 : decode cX11_waysLike 13 = .ok (.iconst 0, 1) := by decide +kernel
theorem dX11_waysLike_14 : decode cX11_waysLike 14 = .ok (.istore 6, 2) := by decide +kernel
theorem dX11_waysLike_16 : decode cX11_waysLike 16 = .ok (.iload_n 3, 1) := by decide +kernel
theorem dX11_waysLike_17 : decode cX11_waysLike 17 = .ok (.istore 7, 2) := by decide +kernel
theorem dX11_waysLike_19 : decode cX11_waysLike 19 = .ok (.iload 7, 2) := by decide +kernel
theorem dX11_waysLike_21 : decode cX11_waysLike 21 = .ok (.iload 4, 2) := by decide +kernel
theorem dX11_waysLike_23 : decode cX11_waysLike 23 = .ok (.if_icmp .ge 29, 3) := by decide +kernel
theorem dX11_waysLike_26 : decode cX11_waysLike 26 = .ok (.aload_n 0, 1) := by decide +kernel
theorem dX11_waysLike_27 : decode cX11_waysLike 27 = .ok (.getfield 101, 3) := by decide +kernel
theorem dX11_waysLike_30 : decode cX11_waysLike 30 = .ok (.iload 7, 2) := by decide +kernel
theorem dX11_waysLike_32 : decode cX11_waysLike 32 = .ok (.bipush 9, 2) := by decide +kernel
theorem dX11_waysLike_34 : decode cX11_waysLike 34 = .ok (.imul, 1) := by decide +kernel
theorem dX11_waysLike_35 : decode cX11_waysLike 35 = .ok (.iload_n 1, 1) := by decide +kernel
theorem dX11_waysLike_36 : decode cX11_waysLike 36 = .ok (.iadd, 1) := by decide +kernel
theorem dX11_waysLike_37 : decode cX11_waysLike 37 = .ok (.iaload, 1) := by decide +kernel
theorem dX11_waysLike_38 : decode cX11_waysLike 38 = .ok (.iload 5, 2) := by decide +kernel
theorem dX11_waysLike_40 : decode cX11_waysLike 40 = .ok (.if_icmp .ne 6, 3) := by decide +kernel
theorem dX11_waysLike_43 : decode cX11_waysLike 43 = .ok (.iinc 6 1, 3) := by decide +kernel
theorem dX11_waysLike_46 : decode cX11_waysLike 46 = .ok (.iinc 7 1, 3) := by decide +kernel
theorem dX11_waysLike_49 : decode cX11_waysLike 49 = .ok (.goto (-30), 3) := by decide +kernel
theorem dX11_waysLike_52 : decode cX11_waysLike 52 = .ok (.iload 6, 2) := by decide +kernel
theorem dX11_waysLike_54 : decode cX11_waysLike 54 = .ok (.ireturn, 1) := by decide +kernel
theorem bkX11_waysLike_0 {b : Int} {mem : qm} {Q : Int → qm → Prop}
    {j w x y : Int}
    (o1 : q_in32 (w * 9) ∧ q_in32 ((w * 9) + j) ∧ (0 ≤ ((w * 9) + j) ∧ ((w * 9) + j) < 90))
    (l2 : q_At yX11_waysLike cX11_waysLike 8 (some .int) 1 0 0 (qK (q_rb b) Q) 19 [(2, 0), (0, j), (0, w), (0, x), (0, y), (0, (mem 168 ((w * 9) + j))), (0, 0), (0, x)] [] (q_sh0, q_rb b, mem)) :
    q_At yX11_waysLike cX11_waysLike 8 (some .int) 1 0 0 (qK (q_rb b) Q) 0 [(2, 0), (0, j), (0, w), (0, x), (0, y), (4, 0), (4, 0), (4, 0)] [] (q_sh0, q_rb b, mem) := by
  refine q_aload_n dX11_waysLike_0 rfl rfl ?_
  refine q_getR (ci := 11) (k := 14) dX11_waysLike_1 rfl (by decide) rfl tw363 (by decide) qs0 qw0_14 (by decide) ?_
  refine q_iload_n dX11_waysLike_4 rfl rfl ?_
  refine qx_bipush dX11_waysLike_5 rfl rfl ?_
  refine qx_imul dX11_waysLike_7 (o1).1 ?_
  refine q_iload_n dX11_waysLike_8 rfl rfl ?_
  refine qx_iadd dX11_waysLike_9 (o1).2.1 ?_
  refine qx_iald (v := (mem 168 ((w * 9) + j))) dX11_waysLike_10 qs168 (o1).2.2 rfl ?_
  refine qx_istore (L' := [(2, 0), (0, j), (0, w), (0, x), (0, y), (0, (mem 168 ((w * 9) + j))), (4, 0), (4, 0)]) dX11_waysLike_11 rfl rfl rfl ?_
  refine qx_iconst dX11_waysLike_13 rfl rfl ?_
  refine qx_istore (L' := [(2, 0), (0, j), (0, w), (0, x), (0, y), (0, (mem 168 ((w * 9) + j))), (0, 0), (4, 0)]) dX11_waysLike_14 rfl rfl rfl ?_
  refine q_iload_n dX11_waysLike_16 rfl rfl ?_
  refine qx_istore (L' := [(2, 0), (0, j), (0, w), (0, x), (0, y), (0, (mem 168 ((w * 9) + j))), (0, 0), (0, x)]) dX11_waysLike_17 rfl rfl rfl ?_
  exact l2
theorem bkX11_waysLike_19 {b : Int} {mem : qm} {Q : Int → qm → Prop}
    {j w x y v5 v6 v7 : Int}
    (l1 : y ≤ v7 → Q v6 mem)
    (o2 : v7 < y → q_in32 (v7 * 9) ∧ q_in32 ((v7 * 9) + j) ∧ (0 ≤ ((v7 * 9) + j) ∧ ((v7 * 9) + j) < 90))
    (o3 : v7 < y → (mem 168 ((v7 * 9) + j)) ≠ v5 → q_in32 (v7 + 1))
    (l4 : v7 < y → (mem 168 ((v7 * 9) + j)) ≠ v5 → q_At yX11_waysLike cX11_waysLike 8 (some .int) 1 0 0 (qK (q_rb b) Q) 19 [(2, 0), (0, j), (0, w), (0, x), (0, y), (0, v5), (0, v6), (0, (v7 + 1))] [] (q_sh0, q_rb b, mem))
    (o5 : v7 < y → (mem 168 ((v7 * 9) + j)) = v5 → q_in32 (v6 + 1) ∧ q_in32 (v7 + 1))
    (l6 : v7 < y → (mem 168 ((v7 * 9) + j)) = v5 → q_At yX11_waysLike cX11_waysLike 8 (some .int) 1 0 0 (qK (q_rb b) Q) 19 [(2, 0), (0, j), (0, w), (0, x), (0, y), (0, v5), (0, (v6 + 1)), (0, (v7 + 1))] [] (q_sh0, q_rb b, mem)) :
    q_At yX11_waysLike cX11_waysLike 8 (some .int) 1 0 0 (qK (q_rb b) Q) 19 [(2, 0), (0, j), (0, w), (0, x), (0, y), (0, v5), (0, v6), (0, v7)] [] (q_sh0, q_rb b, mem) := by
  refine q_iload dX11_waysLike_19 rfl ?_
  refine q_iload dX11_waysLike_21 rfl ?_
  refine qx_icmp_ge (tgt := 52) dX11_waysLike_23 (by decide) (fun c1 => ?_) (fun c1 => ?_)
  · skip
    refine q_iload dX11_waysLike_52 rfl ?_
    exact q_iret dX11_waysLike_54 (qK_i (l1 c1))
  · skip
    refine q_aload_n dX11_waysLike_26 rfl rfl ?_
    refine q_getR (ci := 11) (k := 14) dX11_waysLike_27 rfl (by decide) rfl tw363 (by decide) qs0 qw0_14 (by decide) ?_
    refine q_iload dX11_waysLike_30 rfl ?_
    refine qx_bipush dX11_waysLike_32 rfl rfl ?_
    refine qx_imul dX11_waysLike_34 (o2 c1).1 ?_
    refine q_iload_n dX11_waysLike_35 rfl rfl ?_
    refine qx_iadd dX11_waysLike_36 (o2 c1).2.1 ?_
    refine qx_iald (v := (mem 168 ((v7 * 9) + j))) dX11_waysLike_37 qs168 (o2 c1).2.2 rfl ?_
    refine q_iload dX11_waysLike_38 rfl ?_
    refine qx_icmp_ne (tgt := 46) dX11_waysLike_40 (by decide) (fun c2 => ?_) (fun c2 => ?_)
    · skip
      refine qx_iinc (L' := [(2, 0), (0, j), (0, w), (0, x), (0, y), (0, v5), (0, v6), (0, (v7 + 1))]) dX11_waysLike_46 rfl rfl rfl (o3 c1 c2) rfl ?_
      refine q_goto (tgt := 19) dX11_waysLike_49 (by decide) ?_
      exact l4 c1 c2
    · skip
      refine qx_iinc (L' := [(2, 0), (0, j), (0, w), (0, x), (0, y), (0, v5), (0, (v6 + 1)), (0, v7)]) dX11_waysLike_43 rfl rfl rfl (o5 c1 c2).1 rfl ?_
      refine qx_iinc (L' := [(2, 0), (0, j), (0, w), (0, x), (0, y), (0, v5), (0, (v6 + 1)), (0, (v7 + 1))]) dX11_waysLike_46 rfl rfl rfl (o5 c1 c2).2 rfl ?_
      refine q_goto (tgt := 19) dX11_waysLike_49 (by decide) ?_
      exact l6 c1 c2
theorem dX11_mostAlike_0 : decode cX11_mostAlike 0 = .ok (.iconst 0, 1) := by decide +kernel
theorem dX11_mostAlike_1 : decode cX11_mostAlike 1 = .ok (.istore_n 3, 1) := by decide +kernel
theorem dX11_mostAlike_2 : decode cX11_mostAlike 2 = .ok (.iconst 0, 1) := by decide +kernel
theorem dX11_mostAlike_3 : decode cX11_mostAlike 3 = .ok (.istore 4, 2) := by decide +kernel
theorem dX11_mostAlike_5 : decode cX11_mostAlike 5 = .ok (.iload 4, 2) := by decide +kernel
theorem dX11_mostAlike_7 : decode cX11_mostAlike 7 = .ok (.iload_n 2, 1) := by decide +kernel
theorem dX11_mostAlike_8 : decode cX11_mostAlike 8 = .ok (.if_icmp .ge 23, 3) := by decide +kernel
theorem dX11_mostAlike_11 : decode cX11_mostAlike 11 = .ok (.iload_n 3, 1) := by decide +kernel
theorem dX11_mostAlike_12 : decode cX11_mostAlike 12 = .ok (.aload_n 0, 1) := by decide +kernel
theorem dX11_mostAlike_13 : decode cX11_mostAlike 13 = .ok (.iload_n 1, 1) := by decide +kernel
theorem dX11_mostAlike_14 : decode cX11_mostAlike 14 = .ok (.iload 4, 2) := by decide +kernel
theorem dX11_mostAlike_16 : decode cX11_mostAlike 16 = .ok (.iconst 0, 1) := by decide +kernel
theorem dX11_mostAlike_17 : decode cX11_mostAlike 17 = .ok (.iload_n 2, 1) := by decide +kernel
theorem dX11_mostAlike_18 : decode cX11_mostAlike 18 = .ok (.invokevirtual 405, 3) := by decide +kernel
theorem dX11_mostAlike_21 : decode cX11_mostAlike 21 = .ok (.invokestatic 185, 3) := by decide +kernel
theorem dX11_mostAlike_24 : decode cX11_mostAlike 24 = .ok (.istore_n 3, 1) := by decide +kernel
theorem dX11_mostAlike_25 : decode cX11_mostAlike 25 = .ok (.iinc 4 1, 3) := by decide +kernel
theorem dX11_mostAlike_28 : decode cX11_mostAlike 28 = .ok (.goto (-23), 3) := by decide +kernel
theorem dX11_mostAlike_31 : decode cX11_mostAlike 31 = .ok (.iload_n 3, 1) := by decide +kernel
theorem dX11_mostAlike_32 : decode cX11_mostAlike 32 = .ok (.ireturn, 1) := by decide +kernel
theorem bkX11_mostAlike_0 {b : Int} {mem : qm} {Q : Int → qm → Prop}
    {j w : Int}
    (l1 : q_At yX11_mostAlike cX11_mostAlike 5 (some .int) 2 0 0 (qK (q_rb b) Q) 5 [(2, 0), (0, j), (0, w), (0, 0), (0, 0)] [] (q_sh0, q_rb b, mem)) :
    q_At yX11_mostAlike cX11_mostAlike 5 (some .int) 2 0 0 (qK (q_rb b) Q) 0 [(2, 0), (0, j), (0, w), (4, 0), (4, 0)] [] (q_sh0, q_rb b, mem) := by
  refine qx_iconst dX11_mostAlike_0 rfl rfl ?_
  refine qx_istore_n (L' := [(2, 0), (0, j), (0, w), (0, 0), (4, 0)]) dX11_mostAlike_1 rfl rfl rfl rfl ?_
  refine qx_iconst dX11_mostAlike_2 rfl rfl ?_
  refine qx_istore (L' := [(2, 0), (0, j), (0, w), (0, 0), (0, 0)]) dX11_mostAlike_3 rfl rfl rfl ?_
  exact l1
theorem bkX11_mostAlike_5 {b : Int} {mem : qm} {Q : Int → qm → Prop}
    {j w v3 v4 : Int}
    (l1 : w ≤ v4 → Q v3 mem)
    {P2 : Int → qm → Prop}
    (l2 : v4 < w → q_Ev yX11_waysLike cX11_waysLike 8 (some .int) 1 0 0 [(2, 0), (0, j), (0, v4), (0, 0), (0, w)] (q_sh0, q_rb b, mem) (qK (q_rb b) (P2)))
    (o3 : v4 < w → ∀ (r2 : Int), ∀ (m2 : qm), P2 r2 m2 → q_in32 r2 → q_in32 (v4 + 1))
    (l4 : v4 < w → ∀ (r2 : Int), ∀ (m2 : qm), P2 r2 m2 → q_in32 r2 → q_At yX11_mostAlike cX11_mostAlike 5 (some .int) 2 0 0 (qK (q_rb b) Q) 5 [(2, 0), (0, j), (0, w), (0, (max v3 r2)), (0, (v4 + 1))] [] (q_sh0, q_rb b, m2)) :
    q_At yX11_mostAlike cX11_mostAlike 5 (some .int) 2 0 0 (qK (q_rb b) Q) 5 [(2, 0), (0, j), (0, w), (0, v3), (0, v4)] [] (q_sh0, q_rb b, mem) := by
  refine q_iload dX11_mostAlike_5 rfl ?_
  refine q_iload_n dX11_mostAlike_7 rfl rfl ?_
  refine qx_icmp_ge (tgt := 31) dX11_mostAlike_8 (by decide) (fun c1 => ?_) (fun c1 => ?_)
  · skip
    refine q_iload_n dX11_mostAlike_31 rfl rfl ?_
    exact q_iret dX11_mostAlike_32 (qK_i (l1 c1))
  · skip
    refine q_iload_n dX11_mostAlike_11 rfl rfl ?_
    refine q_aload_n dX11_mostAlike_12 rfl rfl ?_
    refine q_iload_n dX11_mostAlike_13 rfl rfl ?_
    refine q_iload dX11_mostAlike_14 rfl ?_
    refine qx_iconst dX11_mostAlike_16 rfl rfl ?_
    refine q_iload_n dX11_mostAlike_17 rfl rfl ?_
    refine qx_invV (ci := 11) [(0, j), (0, v4), (0, 0), (0, w)] [(0, w), (0, 0), (0, v4), (0, j), (2, 0), (0, v3)] rfl qM_X11_waysLike dX11_mostAlike_18 tw1069 rfl qs0 rfl rfl rfl rfl (l2 c1) (fun r2 m2 p2 q2 => ?_)
    refine q_max dX11_mostAlike_21 tw596 tw597 tw15 tw598 (by decide) (Nat.le_of_ble_eq_true rfl) ?_
    refine qx_istore_n (L' := [(2, 0), (0, j), (0, w), (0, (max v3 r2)), (0, v4)]) dX11_mostAlike_24 rfl rfl rfl rfl ?_
    refine qx_iinc (L' := [(2, 0), (0, j), (0, w), (0, (max v3 r2)), (0, (v4 + 1))]) dX11_mostAlike_25 rfl rfl rfl (o3 c1 r2 m2 p2 q2) rfl ?_
    refine q_goto (tgt := 5) dX11_mostAlike_28 (by decide) ?_
    exact l4 c1 r2 m2 p2 q2
theorem dX11_unlikeLevels_0 : decode cX11_unlikeLevels 0 = .ok (.iconst 0, 1) := by decide +kernel
theorem dX11_unlikeLevels_1 : decode cX11_unlikeLevels 1 = .ok (.istore_n 3, 1) := by decide +kernel
theorem dX11_unlikeLevels_2 : decode cX11_unlikeLevels 2 = .ok (.iconst 0, 1) := by decide +kernel
theorem dX11_unlikeLevels_3 : decode cX11_unlikeLevels 3 = .ok (.istore 4, 2) := by decide +kernel
theorem dX11_unlikeLevels_5 : decode cX11_unlikeLevels 5 = .ok (.iload 4, 2) := by decide +kernel
theorem dX11_unlikeLevels_7 : decode cX11_unlikeLevels 7 = .ok (.iload_n 2, 1) := by decide +kernel
theorem dX11_unlikeLevels_8 : decode cX11_unlikeLevels 8 = .ok (.if_icmp .ge 25, 3) := by decide +kernel
theorem dX11_unlikeLevels_11 : decode cX11_unlikeLevels 11 = .ok (.aload_n 0, 1) := by decide +kernel
theorem dX11_unlikeLevels_12 : decode cX11_unlikeLevels 12 = .ok (.iload_n 1, 1) := by decide +kernel
theorem dX11_unlikeLevels_13 : decode cX11_unlikeLevels 13 = .ok (.iload 4, 2) := by decide +kernel
theorem dX11_unlikeLevels_15 : decode cX11_unlikeLevels 15 = .ok (.iconst 0, 1) := by decide +kernel
theorem dX11_unlikeLevels_16 : decode cX11_unlikeLevels 16 = .ok (.iload 4, 2) := by decide +kernel
theorem dX11_unlikeLevels_18 : decode cX11_unlikeLevels 18 = .ok (.invokevirtual 405, 3) := by decide +kernel
theorem dX11_unlikeLevels_21 : decode cX11_unlikeLevels 21 = .ok (.ifCond .ne 6, 3) := by decide +kernel
theorem dX11_unlikeLevels_24 : decode cX11_unlikeLevels 24 = .ok (.iinc 3 1, 3) := by decide +kernel
theorem dX11_unlikeLevels_27 : decode cX11_unlikeLevels 27 = .ok (.iinc 4 1, 3) := by decide +kernel
theorem dX11_unlikeLevels_30 : decode cX11_unlikeLevels 30 = .ok (.goto (-25), 3) := by decide +kernel
theorem dX11_unlikeLevels_33 : decode cX11_unlikeLevels 33 = .ok (.iload_n 3, 1) := by decide +kernel
theorem dX11_unlikeLevels_34 : decode cX11_unlikeLevels 34 = .ok (.ireturn, 1) := by decide +kernel
theorem bkX11_unlikeLevels_0 {b : Int} {mem : qm} {Q : Int → qm → Prop}
    {j w : Int}
    (l1 : q_At yX11_unlikeLevels cX11_unlikeLevels 5 (some .int) 2 0 0 (qK (q_rb b) Q) 5 [(2, 0), (0, j), (0, w), (0, 0), (0, 0)] [] (q_sh0, q_rb b, mem)) :
    q_At yX11_unlikeLevels cX11_unlikeLevels 5 (some .int) 2 0 0 (qK (q_rb b) Q) 0 [(2, 0), (0, j), (0, w), (4, 0), (4, 0)] [] (q_sh0, q_rb b, mem) := by
  refine qx_iconst dX11_unlikeLevels_0 rfl rfl ?_
  refine qx_istore_n (L' := [(2, 0), (0, j), (0, w), (0, 0), (4, 0)]) dX11_unlikeLevels_1 rfl rfl rfl rfl ?_
  refine qx_iconst dX11_unlikeLevels_2 rfl rfl ?_
  refine qx_istore (L' := [(2, 0), (0, j), (0, w), (0, 0), (0, 0)]) dX11_unlikeLevels_3 rfl rfl rfl ?_
  exact l1
theorem bkX11_unlikeLevels_5 {b : Int} {mem : qm} {Q : Int → qm → Prop}
    {j w v3 v4 : Int}
    (l1 : w ≤ v4 → Q v3 mem)
    {P2 : Int → qm → Prop}
    (l2 : v4 < w → q_Ev yX11_waysLike cX11_waysLike 8 (some .int) 1 0 0 [(2, 0), (0, j), (0, v4), (0, 0), (0, v4)] (q_sh0, q_rb b, mem) (qK (q_rb b) (P2)))
    (o3 : v4 < w → ∀ (r2 : Int), ∀ (m2 : qm), P2 r2 m2 → q_in32 r2 → r2 ≠ 0 → q_in32 (v4 + 1))
    (l4 : v4 < w → ∀ (r2 : Int), ∀ (m2 : qm), P2 r2 m2 → q_in32 r2 → r2 ≠ 0 → q_At yX11_unlikeLevels cX11_unlikeLevels 5 (some .int) 2 0 0 (qK (q_rb b) Q) 5 [(2, 0), (0, j), (0, w), (0, v3), (0, (v4 + 1))] [] (q_sh0, q_rb b, m2))
    (o5 : v4 < w → ∀ (r2 : Int), ∀ (m2 : qm), P2 r2 m2 → q_in32 r2 → r2 = 0 → q_in32 (v3 + 1) ∧ q_in32 (v4 + 1))
    (l6 : v4 < w → ∀ (r2 : Int), ∀ (m2 : qm), P2 r2 m2 → q_in32 r2 → r2 = 0 → q_At yX11_unlikeLevels cX11_unlikeLevels 5 (some .int) 2 0 0 (qK (q_rb b) Q) 5 [(2, 0), (0, j), (0, w), (0, (v3 + 1)), (0, (v4 + 1))] [] (q_sh0, q_rb b, m2)) :
    q_At yX11_unlikeLevels cX11_unlikeLevels 5 (some .int) 2 0 0 (qK (q_rb b) Q) 5 [(2, 0), (0, j), (0, w), (0, v3), (0, v4)] [] (q_sh0, q_rb b, mem) := by
  refine q_iload dX11_unlikeLevels_5 rfl ?_
  refine q_iload_n dX11_unlikeLevels_7 rfl rfl ?_
  refine qx_icmp_ge (tgt := 33) dX11_unlikeLevels_8 (by decide) (fun c1 => ?_) (fun c1 => ?_)
  · skip
    refine q_iload_n dX11_unlikeLevels_33 rfl rfl ?_
    exact q_iret dX11_unlikeLevels_34 (qK_i (l1 c1))
  · skip
    refine q_aload_n dX11_unlikeLevels_11 rfl rfl ?_
    refine q_iload_n dX11_unlikeLevels_12 rfl rfl ?_
    refine q_iload dX11_unlikeLevels_13 rfl ?_
    refine qx_iconst dX11_unlikeLevels_15 rfl rfl ?_
    refine q_iload dX11_unlikeLevels_16 rfl ?_
    refine qx_invV (ci := 11) [(0, j), (0, v4), (0, 0), (0, v4)] [(0, v4), (0, 0), (0, v4), (0, j), (2, 0)] rfl qM_X11_waysLike dX11_unlikeLevels_18 tw1069 rfl qs0 rfl rfl rfl rfl (l2 c1) (fun r2 m2 p2 q2 => ?_)
    refine qx_if_ne (tgt := 27) dX11_unlikeLevels_21 (by decide) (fun c3 => ?_) (fun c3 => ?_)
    · skip
      refine qx_iinc (L' := [(2, 0), (0, j), (0, w), (0, v3), (0, (v4 + 1))]) dX11_unlikeLevels_27 rfl rfl rfl (o3 c1 r2 m2 p2 q2 c3) rfl ?_
      refine q_goto (tgt := 5) dX11_unlikeLevels_30 (by decide) ?_
      exact l4 c1 r2 m2 p2 q2 c3
    · skip
      refine qx_iinc (L' := [(2, 0), (0, j), (0, w), (0, (v3 + 1)), (0, v4)]) dX11_unlikeLevels_24 rfl rfl rfl (o5 c1 r2 m2 p2 q2 c3).1 rfl ?_
      refine qx_iinc (L' := [(2, 0), (0, j), (0, w), (0, (v3 + 1)), (0, (v4 + 1))]) dX11_unlikeLevels_27 rfl rfl rfl (o5 c1 r2 m2 p2 q2 c3).2 rfl ?_
      refine q_goto (tgt := 5) dX11_unlikeLevels_30 (by decide) ?_
      exact l6 c1 r2 m2 p2 q2 c3
theorem dX11_looks_0 : decode cX11_looks 0 = .ok (.iload_n 1, 1) := by decide +kernel
theorem dX11_looks_1 : decode cX11_looks 1 = .ok (.invokestatic 214, 3) := by decide +kernel
theorem dX11_looks_4 : decode cX11_looks 4 = .ok (.ifCond .ne 5, 3) := by decide +kernel
theorem dX11_looks_7 : decode cX11_looks 7 = .ok (.iconst (-1), 1) := by decide +kernel
theorem dX11_looks_8 : decode cX11_looks 8 = .ok (.ireturn, 1) := by decide +kernel
theorem dX11_looks_9 : decode cX11_looks 9 = .ok (.aload_n 0, 1) := by decide +kernel
theorem dX11_looks_10 : decode cX11_looks 10 = .ok (.getfield 10, 3) := by decide +kernel
theorem dX11_looks_13 : decode cX11_looks 13 = .ok (.getfield 173, 3) := by decide +kernel
theorem dX11_looks_16 : decode cX11_looks 16 = .ok (.ifCond .ne 6, 3) := by decide +kernel
theorem dX11_looks_19 : decode cX11_looks 19 = .ok (.bipush (-2), 2) := by decide +kernel
theorem dX11_looks_21 : decode cX11_looks 21 = .ok (.ireturn, 1) := by decide +kernel
theorem dX11_looks_22 : decode cX11_looks 22 = .ok (.aload_n 0, 1) := by decide +kernel
theorem dX11_looks_23 : decode cX11_looks 23 = .ok (.iload_n 1, 1) := by decide +kernel
theorem dX11_looks_24 : decode cX11_looks 24 = .ok (.invokevirtual 390, 3) := by decide +kernel
theorem dX11_looks_27 : decode cX11_looks 27 = .ok (.istore_n 2, 1) := by decide +kernel
theorem dX11_looks_28 : decode cX11_looks 28 = .ok (.iconst 0, 1) := by decide +kernel
theorem dX11_looks_29 : decode cX11_looks 29 = .ok (.istore_n 3, 1) := by decide +kernel
theorem dX11_looks_30 : decode cX11_looks 30 = .ok (.iload_n 2, 1) := by decide +kernel
theorem dX11_looks_31 : decode cX11_looks 31 = .ok (.iconst 1, 1) := by decide +kernel
theorem dX11_looks_32 : decode cX11_looks 32 = .ok (.iadd, 1) := by decide +kernel
theorem dX11_looks_33 : decode cX11_looks 33 = .ok (.istore 4, 2) := by decide +kernel
theorem dX11_looks_35 : decode cX11_looks 35 = .ok (.iconst 0, 1) := by decide +kernel
theorem dX11_looks_36 : decode cX11_looks 36 = .ok (.istore 5, 2) := by decide +kernel
theorem dX11_looks_38 : decode cX11_looks 38 = .ok (.iload 5, 2) := by decide +kernel
theorem dX11_looks_40 : decode cX11_looks 40 = .ok (.aload_n 0, 1) := by decide +kernel
theorem dX11_looks_41 : decode cX11_looks 41 = .ok (.getfield 10, 3) := by decide +kernel
theorem dX11_looks_44 : decode cX11_looks 44 = .ok (.getfield 173, 3) := by decide +kernel
theorem dX11_looks_47 : decode cX11_looks 47 = .ok (.if_icmp .ge 32, 3) := by decide +kernel
theorem dX11_looks_50 : decode cX11_looks 50 = .ok (.aload_n 0, 1) := by decide +kernel
theorem dX11_looks_51 : decode cX11_looks 51 = .ok (.iload 5, 2) := by decide +kernel
theorem dX11_looks_53 : decode cX11_looks 53 = .ok (.iload_n 2, 1) := by decide +kernel
theorem dX11_looks_54 : decode cX11_looks 54 = .ok (.invokevirtual 393, 3) := by decide +kernel
theorem dX11_looks_57 : decode cX11_looks 57 = .ok (.istore 6, 2) := by decide +kernel
theorem dX11_looks_59 : decode cX11_looks 59 = .ok (.iload 6, 2) := by decide +kernel
theorem dX11_looks_61 : decode cX11_looks 61 = .ok (.iload 4, 2) := by decide +kernel
theorem dX11_looks_63 : decode cX11_looks 63 = .ok (.if_icmp .ge 10, 3) := by decide +kernel
theorem dX11_looks_66 : decode cX11_looks 66 = .ok (.iload 6, 2) := by decide +kernel
theorem dX11_looks_68 : decode cX11_looks 68 = .ok (.istore 4, 2) := by decide +kernel
theorem dX11_looks_70 : decode cX11_looks 70 = .ok (.iload 5, 2) := by decide +kernel
theorem dX11_looks_72 : decode cX11_looks 72 = .ok (.istore_n 3, 1) := by decide +kernel
theorem dX11_looks_73 : decode cX11_looks 73 = .ok (.iinc 5 1, 3) := by decide +kernel
theorem dX11_looks_76 : decode cX11_looks 76 = .ok (.goto (-38), 3) := by decide +kernel
theorem dX11_looks_79 : decode cX11_looks 79 = .ok (.aload_n 0, 1) := by decide +kernel
theorem dX11_looks_80 : decode cX11_looks 80 = .ok (.invokevirtual 223, 3) := by decide +kernel
theorem dX11_looks_83 : decode cX11_looks 83 = .ok (.aload_n 0, 1) := by decide +kernel
theorem dX11_looks_84 : decode cX11_looks 84 = .ok (.iload 4, 2) := by decide +kernel
theorem dX11_looks_86 : decode cX11_looks 86 = .ok (.invokevirtual 229, 3) := by decide +kernel
theorem dX11_looks_89 : decode cX11_looks 89 = .ok (.aload_n 0, 1) := by decide +kernel
theorem dX11_looks_90 : decode cX11_looks 90 = .ok (.aload_n 0, 1) := by decide +kernel
theorem dX11_looks_91 : decode cX11_looks 91 = .ok (.iload_n 3, 1) := by decide +kernel
theorem dX11_looks_92 : decode cX11_looks 92 = .ok (.iload_n 2, 1) := by decide +kernel
theorem dX11_looks_93 : decode cX11_looks 93 = .ok (.invokevirtual 396, 3) := by decide +kernel
theorem dX11_looks_96 : decode cX11_looks 96 = .ok (.invokevirtual 229, 3) := by decide +kernel
theorem dX11_looks_99 : decode cX11_looks 99 = .ok (.iload_n 3, 1) := by decide +kernel
theorem dX11_looks_100 : decode cX11_looks 100 = .ok (.ireturn, 1) := by decide +kernel
theorem bkX11_looks_0 {b : Int} {mem : qm} {Q : Int → qm → Prop}
    {v : Int}
    {P3 : Int → qm → Prop}
    (l1 : (0 ≤ v ∧ v ≤ 200) → (mem 1 3) ≠ 0 → q_Ev yX11_findWays cX11_findWays 4 (some .int) 4 0 0 [(2, 0), (0, v)] (q_sh0, q_rb b, mem) (qK (q_rb b) (P3)))
    (o2 : (0 ≤ v ∧ v ≤ 200) → (mem 1 3) ≠ 0 → ∀ (r3 : Int), ∀ (m3 : qm), P3 r3 m3 → q_in32 r3 → q_in32 (r3 + 1))
    (l3 : (0 ≤ v ∧ v ≤ 200) → (mem 1 3) ≠ 0 → ∀ (r3 : Int), ∀ (m3 : qm), P3 r3 m3 → q_in32 r3 → q_At yX11_looks cX11_looks 7 (some .int) 5 0 0 (qK (q_rb b) Q) 38 [(2, 0), (0, v), (0, r3), (0, 0), (0, (r3 + 1)), (0, 0), (4, 0)] [] (q_sh0, q_rb b, m3))
    (l4 : (0 ≤ v ∧ v ≤ 200) → (mem 1 3) = 0 → Q (-2) mem)
    (l5 : ¬ (0 ≤ v ∧ v ≤ 200) → Q (-1) mem) :
    q_At yX11_looks cX11_looks 7 (some .int) 5 0 0 (qK (q_rb b) Q) 0 [(2, 0), (0, v), (4, 0), (4, 0), (4, 0), (4, 0), (4, 0)] [] (q_sh0, q_rb b, mem) := by
  refine q_iload_n dX11_looks_0 rfl rfl ?_
  refine qx_invS [(0, v)] [(0, v)] rfl qM_X11_isSpan dX11_looks_1 tw668 rfl rfl rfl rfl (spX11_isSpan) (fun r1 m1 p1 q1 => ?_)
  obtain ⟨p1e, ⟨p1f, p1⟩ | ⟨p1f, p1⟩⟩ := p1
  · rw [p1e, p1f]
    refine qx_if_ne (tgt := 9) dX11_looks_4 (by decide) (fun _ => ?_) (fun z => absurd z (by decide))
    refine q_aload_n dX11_looks_9 rfl rfl ?_
    refine q_getR (ci := 11) (k := 0) dX11_looks_10 rfl (by decide) rfl tw349 (by decide) qs0 qw0_0 (by decide) ?_
    refine qx_getI (ci := 9) (k := 3) (v := (mem 1 3)) dX11_looks_13 rfl rfl rfl tw53 rfl qs1 rfl ?_
    refine qx_if_ne (tgt := 22) dX11_looks_16 (by decide) (fun c2 => ?_) (fun c2 => ?_)
    · skip
      refine q_aload_n dX11_looks_22 rfl rfl ?_
      refine q_iload_n dX11_looks_23 rfl rfl ?_
      refine qx_invV (ci := 11) [(0, v)] [(0, v), (2, 0)] rfl qM_X11_findWays dX11_looks_24 tw1060 rfl qs0 rfl rfl rfl rfl (l1 p1 c2) (fun r3 m3 p3 q3 => ?_)
      refine qx_istore_n (L' := [(2, 0), (0, v), (0, r3), (4, 0), (4, 0), (4, 0), (4, 0)]) dX11_looks_27 rfl rfl rfl rfl ?_
      refine qx_iconst dX11_looks_28 rfl rfl ?_
      refine qx_istore_n (L' := [(2, 0), (0, v), (0, r3), (0, 0), (4, 0), (4, 0), (4, 0)]) dX11_looks_29 rfl rfl rfl rfl ?_
      refine q_iload_n dX11_looks_30 rfl rfl ?_
      refine qx_iconst dX11_looks_31 rfl rfl ?_
      refine qx_iadd dX11_looks_32 (o2 p1 c2 r3 m3 p3 q3) ?_
      refine qx_istore (L' := [(2, 0), (0, v), (0, r3), (0, 0), (0, (r3 + 1)), (4, 0), (4, 0)]) dX11_looks_33 rfl rfl rfl ?_
      refine qx_iconst dX11_looks_35 rfl rfl ?_
      refine qx_istore (L' := [(2, 0), (0, v), (0, r3), (0, 0), (0, (r3 + 1)), (0, 0), (4, 0)]) dX11_looks_36 rfl rfl rfl ?_
      exact l3 p1 c2 r3 m3 p3 q3
    · skip
      refine qx_bipush dX11_looks_19 rfl rfl ?_
      exact q_iret dX11_looks_21 (qK_i (l4 p1 c2))
  · rw [p1e, p1f]
    refine qx_if_ne (tgt := 9) dX11_looks_4 (by decide) (fun z => absurd z (by decide)) (fun _ => ?_)
    refine qx_iconst dX11_looks_7 rfl rfl ?_
    exact q_iret dX11_looks_8 (qK_i (l5 p1))
theorem bkX11_looks_38 {b : Int} {mem : qm} {Q : Int → qm → Prop}
    {v v2 v3 v4 v5 : Int}
    (o1 : (mem 1 3) ≤ v5 → (0 ≤ (0 : Int) ∧ (0 : Int) < 10))
    {P4 : Int → qm → Prop}
    (l2 : (mem 1 3) ≤ v5 → q_Ev yX11_unlikeLevels cX11_unlikeLevels 5 (some .int) 2 0 0 [(2, 0), (0, v3), (0, v2)] (q_sh0, q_rb b, (q_up (q_up (q_up mem 0 16 0) 169 (0 : Int) v4) 0 16 ((0 : Int) + 1))) (qK (q_rb b) (P4)))
    (o3 : (mem 1 3) ≤ v5 → ∀ (r4 : Int), ∀ (m4 : qm), P4 r4 m4 → q_in32 r4 → (0 ≤ (m4 0 16) ∧ (m4 0 16) < 10))
    (l4 : (mem 1 3) ≤ v5 → ∀ (r4 : Int), ∀ (m4 : qm), P4 r4 m4 → q_in32 r4 → Q v3 (q_up (q_up m4 169 (m4 0 16) r4) 0 16 ((m4 0 16) + 1)))
    {P6 : Int → qm → Prop}
    (l5 : v5 < (mem 1 3) → q_Ev yX11_mostAlike cX11_mostAlike 5 (some .int) 2 0 0 [(2, 0), (0, v5), (0, v2)] (q_sh0, q_rb b, mem) (qK (q_rb b) (P6)))
    (o6 : v5 < (mem 1 3) → ∀ (r6 : Int), ∀ (m6 : qm), P6 r6 m6 → q_in32 r6 → v4 ≤ r6 → q_in32 (v5 + 1))
    (l7 : v5 < (mem 1 3) → ∀ (r6 : Int), ∀ (m6 : qm), P6 r6 m6 → q_in32 r6 → v4 ≤ r6 → q_At yX11_looks cX11_looks 7 (some .int) 5 0 0 (qK (q_rb b) Q) 38 [(2, 0), (0, v), (0, v2), (0, v3), (0, v4), (0, (v5 + 1)), (4, 0)] [] (q_sh0, q_rb b, m6))
    (o8 : v5 < (mem 1 3) → ∀ (r6 : Int), ∀ (m6 : qm), P6 r6 m6 → q_in32 r6 → r6 < v4 → q_in32 (v5 + 1))
    (l9 : v5 < (mem 1 3) → ∀ (r6 : Int), ∀ (m6 : qm), P6 r6 m6 → q_in32 r6 → r6 < v4 → q_At yX11_looks cX11_looks 7 (some .int) 5 0 0 (qK (q_rb b) Q) 38 [(2, 0), (0, v), (0, v2), (0, v5), (0, r6), (0, (v5 + 1)), (4, 0)] [] (q_sh0, q_rb b, m6)) :
    q_At yX11_looks cX11_looks 7 (some .int) 5 0 0 (qK (q_rb b) Q) 38 [(2, 0), (0, v), (0, v2), (0, v3), (0, v4), (0, v5), (4, 0)] [] (q_sh0, q_rb b, mem) := by
  refine q_iload dX11_looks_38 rfl ?_
  refine q_aload_n dX11_looks_40 rfl rfl ?_
  refine q_getR (ci := 11) (k := 0) dX11_looks_41 rfl (by decide) rfl tw349 (by decide) qs0 qw0_0 (by decide) ?_
  refine qx_getI (ci := 9) (k := 3) (v := (mem 1 3)) dX11_looks_44 rfl rfl rfl tw53 rfl qs1 rfl ?_
  refine qx_icmp_ge (tgt := 79) dX11_looks_47 (by decide) (fun c1 => ?_) (fun c1 => ?_)
  · skip
    refine q_aload_n dX11_looks_79 rfl rfl ?_
    refine qx_invV (ci := 11) [] [(2, 0)] rfl qM_X11_clearRow dX11_looks_80 tw691 rfl qs0 rfl rfl rfl rfl (spX11_clearRow) (fun r2 m2 p2 q2 => ?_)
    obtain rfl := p2
    refine q_aload_n dX11_looks_83 rfl rfl ?_
    refine q_iload dX11_looks_84 rfl ?_
    refine qx_invV (ci := 11) [(0, v4)] [(0, v4), (2, 0)] rfl qM_X11_tell dX11_looks_86 tw699 rfl qs0 rfl rfl rfl rfl (spX11_tell (by first | exact (o1 c1) | (simp only [q_up, Int.reduceEq, false_and, true_and, and_true, and_false, ite_false, ite_true, if_true, if_false]; exact (o1 c1)))) (fun r3 m3 p3 q3 => ?_)
    obtain rfl := p3
    refine q_aload_n dX11_looks_89 rfl rfl ?_
    refine q_aload_n dX11_looks_90 rfl rfl ?_
    refine q_iload_n dX11_looks_91 rfl rfl ?_
    refine q_iload_n dX11_looks_92 rfl rfl ?_
    refine qx_invV (ci := 11) [(0, v3), (0, v2)] [(0, v2), (0, v3), (2, 0), (2, 0)] rfl qM_X11_unlikeLevels dX11_looks_93 tw1073 rfl qs0 rfl rfl rfl rfl (l2 c1) (fun r4 m4 p4 q4 => ?_)
    refine qx_invV (ci := 11) [(0, r4)] [(0, r4), (2, 0)] rfl qM_X11_tell dX11_looks_96 tw699 rfl qs0 rfl rfl rfl rfl (spX11_tell (o3 c1 r4 m4 p4 q4)) (fun r5 m5 p5 q5 => ?_)
    obtain rfl := p5
    refine q_iload_n dX11_looks_99 rfl rfl ?_
    exact q_iret dX11_looks_100 (qK_i (l4 c1 r4 m4 p4 q4))
  · skip
    refine q_aload_n dX11_looks_50 rfl rfl ?_
    refine q_iload dX11_looks_51 rfl ?_
    refine q_iload_n dX11_looks_53 rfl rfl ?_
    refine qx_invV (ci := 11) [(0, v5), (0, v2)] [(0, v2), (0, v5), (2, 0)] rfl qM_X11_mostAlike dX11_looks_54 tw1065 rfl qs0 rfl rfl rfl rfl (l5 c1) (fun r6 m6 p6 q6 => ?_)
    refine qx_istore (L' := [(2, 0), (0, v), (0, v2), (0, v3), (0, v4), (0, v5), (0, r6)]) dX11_looks_57 rfl rfl rfl ?_
    refine q_iload dX11_looks_59 rfl ?_
    refine q_iload dX11_looks_61 rfl ?_
    refine qx_icmp_ge (tgt := 73) dX11_looks_63 (by decide) (fun c7 => ?_) (fun c7 => ?_)
    · skip
      refine qx_iinc (L' := [(2, 0), (0, v), (0, v2), (0, v3), (0, v4), (0, (v5 + 1)), (0, r6)]) dX11_looks_73 rfl rfl rfl (o6 c1 r6 m6 p6 q6 c7) rfl ?_
      refine q_goto (tgt := 38) dX11_looks_76 (by decide) ?_
      refine q_kill (L' := [(2, 0), (0, v), (0, v2), (0, v3), (0, v4), (0, (v5 + 1)), (4, 0)]) 6 rfl ?_
      exact l7 c1 r6 m6 p6 q6 c7
    · skip
      refine q_iload dX11_looks_66 rfl ?_
      refine qx_istore (L' := [(2, 0), (0, v), (0, v2), (0, v3), (0, r6), (0, v5), (0, r6)]) dX11_looks_68 rfl rfl rfl ?_
      refine q_iload dX11_looks_70 rfl ?_
      refine qx_istore_n (L' := [(2, 0), (0, v), (0, v2), (0, v5), (0, r6), (0, v5), (0, r6)]) dX11_looks_72 rfl rfl rfl rfl ?_
      refine qx_iinc (L' := [(2, 0), (0, v), (0, v2), (0, v5), (0, r6), (0, (v5 + 1)), (0, r6)]) dX11_looks_73 rfl rfl rfl (o8 c1 r6 m6 p6 q6 c7) rfl ?_
      refine q_goto (tgt := 38) dX11_looks_76 (by decide) ?_
      refine q_kill (L' := [(2, 0), (0, v), (0, v2), (0, v5), (0, r6), (0, (v5 + 1)), (4, 0)]) 6 rfl ?_
      exact l9 c1 r6 m6 p6 q6 c7
