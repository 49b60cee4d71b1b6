theorem dX12_law_0 : decode cX12_law 0 = .ok (.aload_n 0, 1) := by decide +kernel
theorem dX12_law_1 : decode cX12_law 1 = .ok (.iconst 0, 1) := by decide +kernel
theorem dX12_law_2 : decode cX12_law 2 = .ok (.putfield 128, 3) := by decide +kernel
theorem dX12_law_5 : decode cX12_law 5 = .ok (.aload_n 0, 1) := by decide +kernel
theorem dX12_law_6 : decode cX12_law 6 = .ok (.getfield 145, 3) := by decide +kernel
theorem dX12_law_9 : decode cX12_law 9 = .ok (.istore_n 1, 1) := by decide +kernel
theorem dX12_law_10 : decode cX12_law 10 = .ok (.aload_n 0, 1) := by decide +kernel
theorem dX12_law_11 : decode cX12_law 11 = .ok (.aload_n 0, 1) := by decide +kernel
theorem dX12_law_12 : decode cX12_law 12 = .ok (.getfield 41, 3) := by decide +kernel
theorem dX12_law_15 : decode cX12_law 15 = .ok (.iload_n 1, 1) := by decide +kernel
theorem dX12_law_16 : decode cX12_law 16 = .ok (.bipush 40, 2) := by decide +kernel
theorem dX12_law_18 : decode cX12_law 18 = .ok (.invokevirtual 179, 3) := by decide +kernel
theorem dX12_law_21 : decode cX12_law 21 = .ok (.aload_n 0, 1) := by decide +kernel
theorem dX12_law_22 : decode cX12_law 22 = .ok (.iconst 0, 1) := by decide +kernel
theorem dX12_law_23 : decode cX12_law 23 = .ok (.putfield 145, 3) := by decide +kernel
theorem dX12_law_26 : decode cX12_law 26 = .ok (.aload_n 0, 1) := by decide +kernel
theorem dX12_law_27 : decode cX12_law 27 = .ok (.iconst (-1), 1) := by decide +kernel
theorem dX12_law_28 : decode cX12_law 28 = .ok (.putfield 54, 3) := by decide +kernel
theorem dX12_law_31 : decode cX12_law 31 = .ok (.iload_n 1, 1) := by decide +kernel
theorem dX12_law_32 : decode cX12_law 32 = .ok (.ifCond .le 39, 3) := by decide +kernel
theorem dX12_law_35 : decode cX12_law 35 = .ok (.aload_n 0, 1) := by decide +kernel
theorem dX12_law_36 : decode cX12_law 36 = .ok (.iconst 0, 1) := by decide +kernel
theorem dX12_law_37 : decode cX12_law 37 = .ok (.invokevirtual 210, 3) := by decide +kernel
theorem dX12_law_40 : decode cX12_law 40 = .ok (.pop, 1) := by decide +kernel
theorem dX12_law_41 : decode cX12_law 41 = .ok (.aload_n 0, 1) := by decide +kernel
theorem dX12_law_42 : decode cX12_law 42 = .ok (.getfield 157, 3) := by decide +kernel
theorem dX12_law_45 : decode cX12_law 45 = .ok (.iload_n 1, 1) := by decide +kernel
theorem dX12_law_46 : decode cX12_law 46 = .ok (.if_icmp .ge 11, 3) := by decide +kernel
theorem dX12_law_49 : decode cX12_law 49 = .ok (.aload_n 0, 1) := by decide +kernel
theorem dX12_law_50 : decode cX12_law 50 = .ok (.aload_n 0, 1) := by decide +kernel
theorem dX12_law_51 : decode cX12_law 51 = .ok (.getfield 157, 3) := by decide +kernel
theorem dX12_law_54 : decode cX12_law 54 = .ok (.invokevirtual 175, 3) := by decide +kernel
theorem dX12_law_57 : decode cX12_law 57 = .ok (.aload_n 0, 1) := by decide +kernel
theorem dX12_law_58 : decode cX12_law 58 = .ok (.invokevirtual 163, 3) := by decide +kernel
theorem dX12_law_61 : decode cX12_law 61 = .ok (.ifCond .ne 10, 3) := by decide +kernel
theorem dX12_law_64 : decode cX12_law 64 = .ok (.iconst (-1), 1) := by decide +kernel
theorem dX12_law_65 : decode cX12_law 65 = .ok (.aload_n 0, 1) := by decide +kernel
theorem dX12_law_66 : decode cX12_law 66 = .ok (.getfield 160, 3) := by decide +kernel
theorem dX12_law_69 : decode cX12_law 69 = .ok (.isub, 1) := by decide +kernel
theorem dX12_law_70 : decode cX12_law 70 = .ok (.ireturn, 1) := by decide +kernel
theorem dX12_law_71 : decode cX12_law 71 = .ok (.iconst 0, 1) := by decide +kernel
theorem dX12_law_72 : decode cX12_law 72 = .ok (.istore_n 2, 1) := by decide +kernel
theorem dX12_law_73 : decode cX12_law 73 = .ok (.iload_n 2, 1) := by decide +kernel
theorem dX12_law_74 : decode cX12_law 74 = .ok (.iload_n 1, 1) := by decide +kernel
theorem dX12_law_75 : decode cX12_law 75 = .ok (.if_icmp .ge 21, 3) := by decide +kernel
theorem dX12_law_78 : decode cX12_law 78 = .ok (.aload_n 0, 1) := by decide +kernel
theorem dX12_law_79 : decode cX12_law 79 = .ok (.getfield 51, 3) := by decide +kernel
theorem dX12_law_82 : decode cX12_law 82 = .ok (.iload_n 2, 1) := by decide +kernel
theorem dX12_law_83 : decode cX12_law 83 = .ok (.aload_n 0, 1) := by decide +kernel
theorem dX12_law_84 : decode cX12_law 84 = .ok (.getfield 41, 3) := by decide +kernel
theorem dX12_law_87 : decode cX12_law 87 = .ok (.iload_n 2, 1) := by decide +kernel
theorem dX12_law_88 : decode cX12_law 88 = .ok (.baload, 1) := by decide +kernel
theorem dX12_law_89 : decode cX12_law 89 = .ok (.bastore, 1) := by decide +kernel
theorem dX12_law_90 : decode cX12_law 90 = .ok (.iinc 2 1, 3) := by decide +kernel
theorem dX12_law_93 : decode cX12_law 93 = .ok (.goto (-20), 3) := by decide +kernel
theorem dX12_law_96 : decode cX12_law 96 = .ok (.aload_n 0, 1) := by decide +kernel
theorem dX12_law_97 : decode cX12_law 97 = .ok (.iload_n 1, 1) := by decide +kernel
theorem dX12_law_98 : decode cX12_law 98 = .ok (.putfield 222, 3) := by decide +kernel
theorem dX12_law_101 : decode cX12_law 101 = .ok (.iconst 0, 1) := by decide +kernel
theorem dX12_law_102 : decode cX12_law 102 = .ok (.ireturn, 1) := by decide +kernel
theorem bkX12_law_0 {b : Int} {mem : qm} {Q : Int → qm → Prop}
    {P1 : Int → qm → Prop}
    (l1 : q_Ev yX12_begin cX12_begin 4 none 1 0 0 [(2, 188), (2, 198), (0, (mem 188 14)), (0, 40)] (q_sh0, q_rb b, (q_up mem 188 17 0)) (qK (q_rb 198) (P1)))
    (l2 : ∀ (r1 : Int), ∀ (m1 : qm), P1 r1 m1 → q_in32 r1 → (mem 188 14) ≤ 0 → q_At yX12_law cX12_law 3 (some .int) 71 0 0 (qK (q_rb 198) Q) 73 [(2, 188), (0, (mem 188 14)), (0, 0)] [] (q_sh0, q_rb 198, (q_up (q_up m1 188 14 0) 188 26 (-1))))
    {P3 : Int → qm → Int → qm → Prop}
    (l3 : ∀ (r1 : Int), ∀ (m1 : qm), P1 r1 m1 → q_in32 r1 → 0 < (mem 188 14) → q_Ev yX12_held cX12_held 3 (some .int) 70 0 0 [(2, 188), (0, 0)] (q_sh0, q_rb 198, (q_up (q_up m1 188 14 0) 188 26 (-1))) (qK (q_rb 198) (P3 r1 m1)))
    (l4 : ∀ (r1 : Int), ∀ (m1 : qm), P1 r1 m1 → q_in32 r1 → 0 < (mem 188 14) → ∀ (r3 : Int), ∀ (m3 : qm), P3 r1 m1 r3 m3 → q_in32 r3 → (mem 188 14) ≤ (m3 188 21) → ((m3 188 22) = -1) → q_At yX12_law cX12_law 3 (some .int) 71 0 0 (qK (q_rb 198) Q) 73 [(2, 188), (0, (mem 188 14)), (0, 0)] [] (q_sh0, q_rb 198, m3))
    (o5 : ∀ (r1 : Int), ∀ (m1 : qm), P1 r1 m1 → q_in32 r1 → 0 < (mem 188 14) → ∀ (r3 : Int), ∀ (m3 : qm), P3 r1 m1 r3 m3 → q_in32 r3 → (mem 188 14) ≤ (m3 188 21) → ¬ ((m3 188 22) = -1) → q_in32 ((-1) - (m3 188 22)))
    (l6 : ∀ (r1 : Int), ∀ (m1 : qm), P1 r1 m1 → q_in32 r1 → 0 < (mem 188 14) → ∀ (r3 : Int), ∀ (m3 : qm), P3 r1 m1 r3 m3 → q_in32 r3 → (mem 188 14) ≤ (m3 188 21) → ¬ ((m3 188 22) = -1) → Q ((-1) - (m3 188 22)) m3)
    {P6 : Int → qm → Int → qm → Int → qm → Prop}
    (l7 : ∀ (r1 : Int), ∀ (m1 : qm), P1 r1 m1 → q_in32 r1 → 0 < (mem 188 14) → ∀ (r3 : Int), ∀ (m3 : qm), P3 r1 m1 r3 m3 → q_in32 r3 → (m3 188 21) < (mem 188 14) → q_Ev yX12_fault cX12_fault 2 none 2 0 0 [(2, 188), (0, (m3 188 21))] (q_sh0, q_rb 198, m3) (qK (q_rb 198) (P6 r1 m1 r3 m3)))
    (l8 : ∀ (r1 : Int), ∀ (m1 : qm), P1 r1 m1 → q_in32 r1 → 0 < (mem 188 14) → ∀ (r3 : Int), ∀ (m3 : qm), P3 r1 m1 r3 m3 → q_in32 r3 → (m3 188 21) < (mem 188 14) → ∀ (r6 : Int), ∀ (m6 : qm), P6 r1 m1 r3 m3 r6 m6 → q_in32 r6 → ((m6 188 22) = -1) → q_At yX12_law cX12_law 3 (some .int) 71 0 0 (qK (q_rb 198) Q) 73 [(2, 188), (0, (mem 188 14)), (0, 0)] [] (q_sh0, q_rb 198, m6))
    (o9 : ∀ (r1 : Int), ∀ (m1 : qm), P1 r1 m1 → q_in32 r1 → 0 < (mem 188 14) → ∀ (r3 : Int), ∀ (m3 : qm), P3 r1 m1 r3 m3 → q_in32 r3 → (m3 188 21) < (mem 188 14) → ∀ (r6 : Int), ∀ (m6 : qm), P6 r1 m1 r3 m3 r6 m6 → q_in32 r6 → ¬ ((m6 188 22) = -1) → q_in32 ((-1) - (m6 188 22)))
    (l10 : ∀ (r1 : Int), ∀ (m1 : qm), P1 r1 m1 → q_in32 r1 → 0 < (mem 188 14) → ∀ (r3 : Int), ∀ (m3 : qm), P3 r1 m1 r3 m3 → q_in32 r3 → (m3 188 21) < (mem 188 14) → ∀ (r6 : Int), ∀ (m6 : qm), P6 r1 m1 r3 m3 r6 m6 → q_in32 r6 → ¬ ((m6 188 22) = -1) → Q ((-1) - (m6 188 22)) m6) :
    q_At yX12_law cX12_law 3 (some .int) 71 0 0 (qK (q_rb 198) Q) 0 [(2, 188), (4, 0), (4, 0)] [] (q_sh0, q_rb b, mem) := by
  refine q_aload_n dX12_law_0 rfl rfl ?_
  refine qx_iconst dX12_law_1 rfl rfl ?_
  refine q_putI (ci := 12) (k := 17) (kI := 17) (ty := .int) dX12_law_2 rfl (by decide) rfl tw1200 rfl rfl rfl (fun _ => ⟨rfl, rfl⟩) qs188 ?_
  refine q_aload_n dX12_law_5 rfl rfl ?_
  refine qx_getI (ci := 12) (k := 14) (v := (mem 188 14)) dX12_law_6 rfl rfl rfl tw1197 rfl qs188 (q_up_i (by decide)) ?_
  refine qx_istore_n (L' := [(2, 188), (0, (mem 188 14)), (4, 0)]) dX12_law_9 rfl rfl rfl rfl ?_
  refine q_aload_n dX12_law_10 rfl rfl ?_
  refine q_aload_n dX12_law_11 rfl rfl ?_
  refine q_getR (ci := 12) (k := 13) dX12_law_12 rfl (by decide) rfl tw1196 (by decide) qs188 qw188_13 (by decide) ?_
  refine q_iload_n dX12_law_15 rfl rfl ?_
  refine qx_bipush dX12_law_16 rfl rfl ?_
  refine qx_invV (ci := 12) [(2, 198), (0, (mem 188 14)), (0, 40)] [(0, 40), (0, (mem 188 14)), (2, 198), (2, 188)] rfl qM_X12_begin dX12_law_18 tw1369 rfl qs188 rfl rfl rfl rfl (l1) (fun r1 m1 p1 q1 => ?_)
  refine q_aload_n dX12_law_21 rfl rfl ?_
  refine qx_iconst dX12_law_22 rfl rfl ?_
  refine q_putI (ci := 12) (k := 14) (kI := 14) (ty := .int) dX12_law_23 rfl (by decide) rfl tw1197 rfl rfl rfl (fun _ => ⟨rfl, rfl⟩) qs188 ?_
  refine q_aload_n dX12_law_26 rfl rfl ?_
  refine qx_iconst dX12_law_27 rfl rfl ?_
  refine q_putI (ci := 12) (k := 26) (kI := 26) (ty := .int) dX12_law_28 rfl (by decide) rfl tw1209 rfl rfl rfl (fun _ => ⟨rfl, rfl⟩) qs188 ?_
  refine q_iload_n dX12_law_31 rfl rfl ?_
  refine qx_if_le (tgt := 71) dX12_law_32 (by decide) (fun c2 => ?_) (fun c2 => ?_)
  · skip
    refine qx_iconst dX12_law_71 rfl rfl ?_
    refine qx_istore_n (L' := [(2, 188), (0, (mem 188 14)), (0, 0)]) dX12_law_72 rfl rfl rfl rfl ?_
    exact l2 r1 m1 p1 q1 c2
  · skip
    refine q_aload_n dX12_law_35 rfl rfl ?_
    refine qx_iconst dX12_law_36 rfl rfl ?_
    refine qx_invV (ci := 12) [(0, 0)] [(0, 0), (2, 188)] rfl qM_X12_held dX12_law_37 tw1405 rfl qs188 rfl rfl rfl rfl (l3 r1 m1 p1 q1 c2) (fun r3 m3 p3 q3 => ?_)
    refine q_pop dX12_law_40 (fun h => by cases h) ?_
    refine q_aload_n dX12_law_41 rfl rfl ?_
    refine qx_getI (ci := 12) (k := 21) (v := (m3 188 21)) dX12_law_42 rfl rfl rfl tw1204 rfl qs188 rfl ?_
    refine q_iload_n dX12_law_45 rfl rfl ?_
    refine qx_icmp_ge (tgt := 57) dX12_law_46 (by decide) (fun c4 => ?_) (fun c4 => ?_)
    · skip
      refine q_aload_n dX12_law_57 rfl rfl ?_
      refine qx_invV (ci := 12) [] [(2, 188)] rfl qM_X12_fine dX12_law_58 tw1373 rfl qs188 rfl rfl rfl rfl (spX12_fine) (fun r5 m5 p5 q5 => ?_)
      obtain ⟨p5e, ⟨p5f, p5⟩ | ⟨p5f, p5⟩⟩ := p5
      · rw [p5e, p5f]
        refine qx_if_ne (tgt := 71) dX12_law_61 (by decide) (fun _ => ?_) (fun z => absurd z (by decide))
        refine qx_iconst dX12_law_71 rfl rfl ?_
        refine qx_istore_n (L' := [(2, 188), (0, (mem 188 14)), (0, 0)]) dX12_law_72 rfl rfl rfl rfl ?_
        exact l4 r1 m1 p1 q1 c2 r3 m3 p3 q3 c4 p5
      · rw [p5e, p5f]
        refine qx_if_ne (tgt := 71) dX12_law_61 (by decide) (fun z => absurd z (by decide)) (fun _ => ?_)
        refine qx_iconst dX12_law_64 rfl rfl ?_
        refine q_aload_n dX12_law_65 rfl rfl ?_
        refine qx_getI (ci := 12) (k := 22) (v := (m3 188 22)) dX12_law_66 rfl rfl rfl tw1205 rfl qs188 rfl ?_
        refine qx_isub dX12_law_69 (o5 r1 m1 p1 q1 c2 r3 m3 p3 q3 c4 p5) ?_
        exact q_iret dX12_law_70 (qK_i (l6 r1 m1 p1 q1 c2 r3 m3 p3 q3 c4 p5))
    · skip
      refine q_aload_n dX12_law_49 rfl rfl ?_
      refine q_aload_n dX12_law_50 rfl rfl ?_
      refine qx_getI (ci := 12) (k := 21) (v := (m3 188 21)) dX12_law_51 rfl rfl rfl tw1204 rfl qs188 rfl ?_
      refine qx_invV (ci := 12) [(0, (m3 188 21))] [(0, (m3 188 21)), (2, 188)] rfl qM_X12_fault dX12_law_54 tw1389 rfl qs188 rfl rfl rfl rfl (l7 r1 m1 p1 q1 c2 r3 m3 p3 q3 c4) (fun r6 m6 p6 q6 => ?_)
      refine q_aload_n dX12_law_57 rfl rfl ?_
      refine qx_invV (ci := 12) [] [(2, 188)] rfl qM_X12_fine dX12_law_58 tw1373 rfl qs188 rfl rfl rfl rfl (spX12_fine) (fun r7 m7 p7 q7 => ?_)
      obtain ⟨p7e, ⟨p7f, p7⟩ | ⟨p7f, p7⟩⟩ := p7
      · rw [p7e, p7f]
        refine qx_if_ne (tgt := 71) dX12_law_61 (by decide) (fun _ => ?_) (fun z => absurd z (by decide))
        refine qx_iconst dX12_law_71 rfl rfl ?_
        refine qx_istore_n (L' := [(2, 188), (0, (mem 188 14)), (0, 0)]) dX12_law_72 rfl rfl rfl rfl ?_
        exact l8 r1 m1 p1 q1 c2 r3 m3 p3 q3 c4 r6 m6 p6 q6 p7
      · rw [p7e, p7f]
        refine qx_if_ne (tgt := 71) dX12_law_61 (by decide) (fun z => absurd z (by decide)) (fun _ => ?_)
        refine qx_iconst dX12_law_64 rfl rfl ?_
        refine q_aload_n dX12_law_65 rfl rfl ?_
        refine qx_getI (ci := 12) (k := 22) (v := (m6 188 22)) dX12_law_66 rfl rfl rfl tw1205 rfl qs188 rfl ?_
        refine qx_isub dX12_law_69 (o9 r1 m1 p1 q1 c2 r3 m3 p3 q3 c4 r6 m6 p6 q6 p7) ?_
        exact q_iret dX12_law_70 (qK_i (l10 r1 m1 p1 q1 c2 r3 m3 p3 q3 c4 r6 m6 p6 q6 p7))
theorem bkX12_law_73 {b : Int} {mem : qm} {Q : Int → qm → Prop}
    {v1 v2 : Int}
    (l1 : v1 ≤ v2 → Q 0 (q_up mem 188 25 v1))
    (o2 : v2 < v1 → (0 ≤ v2 ∧ v2 < 80) ∧ (0 ≤ v2 ∧ v2 < 40) ∧ vp_nar .byte (Int32.ofInt (mem 198 v2)) = Int32.ofInt (mem 198 v2) ∧ q_in32 (v2 + 1))
    (l3 : v2 < v1 → q_At yX12_law cX12_law 3 (some .int) 71 0 0 (qK (q_rb 198) Q) 73 [(2, 188), (0, v1), (0, (v2 + 1))] [] (q_sh0, q_rb 198, (q_up mem 201 v2 (mem 198 v2)))) :
    q_At yX12_law cX12_law 3 (some .int) 71 0 0 (qK (q_rb 198) Q) 73 [(2, 188), (0, v1), (0, v2)] [] (q_sh0, q_rb 198, mem) := by
  refine q_iload_n dX12_law_73 rfl rfl ?_
  refine q_iload_n dX12_law_74 rfl rfl ?_
  refine qx_icmp_ge (tgt := 96) dX12_law_75 (by decide) (fun c1 => ?_) (fun c1 => ?_)
  · skip
    refine q_aload_n dX12_law_96 rfl rfl ?_
    refine q_iload_n dX12_law_97 rfl rfl ?_
    refine q_putI (ci := 12) (k := 25) (kI := 25) (ty := .int) dX12_law_98 rfl (by decide) rfl tw1208 rfl rfl rfl (fun _ => ⟨rfl, rfl⟩) qs188 ?_
    refine qx_iconst dX12_law_101 rfl rfl ?_
    exact q_iret dX12_law_102 (qK_i (l1 c1))
  · skip
    refine q_aload_n dX12_law_78 rfl rfl ?_
    refine q_getR (ci := 12) (k := 24) dX12_law_79 rfl (by decide) rfl tw1207 (by decide) qs188 qw188_24 (by decide) ?_
    refine q_iload_n dX12_law_82 rfl rfl ?_
    refine q_aload_n dX12_law_83 rfl rfl ?_
    refine q_getR (ci := 12) (k := 13) dX12_law_84 rfl (by decide) rfl tw1196 (by decide) qs188 qw188_13 (by decide) ?_
    refine q_iload_n dX12_law_87 rfl rfl ?_
    refine qx_bald (v := (mem 198 v2)) dX12_law_88 qs198 (o2 c1).1 rfl ?_
    refine q_bast dX12_law_89 qs201 ((o2 c1).2.1).1 ((o2 c1).2.1).2 (o2 c1).2.2.1 ?_
    refine qx_iinc (L' := [(2, 188), (0, v1), (0, (v2 + 1))]) dX12_law_90 rfl rfl rfl (o2 c1).2.2.2 rfl ?_
    refine q_goto (tgt := 73) dX12_law_93 (by decide) ?_
    exact l3 c1
theorem dX12_lawFor_0 : decode cX12_lawFor 0 = .ok (.aload_n 0, 1) := by decide +kernel
theorem dX12_lawFor_1 : decode cX12_lawFor 1 = .ok (.getfield 222, 3) := by decide +kernel
theorem dX12_lawFor_4 : decode cX12_lawFor 4 = .ok (.ifCond .ne 5, 3) := by decide +kernel
theorem dX12_lawFor_7 : decode cX12_lawFor 7 = .ok (.iconst 1, 1) := by decide +kernel
theorem dX12_lawFor_8 : decode cX12_lawFor 8 = .ok (.ireturn, 1) := by decide +kernel
theorem dX12_lawFor_9 : decode cX12_lawFor 9 = .ok (.aload_n 0, 1) := by decide +kernel
theorem dX12_lawFor_10 : decode cX12_lawFor 10 = .ok (.aload_n 0, 1) := by decide +kernel
theorem dX12_lawFor_11 : decode cX12_lawFor 11 = .ok (.getfield 51, 3) := by decide +kernel
theorem dX12_lawFor_14 : decode cX12_lawFor 14 = .ok (.aload_n 0, 1) := by decide +kernel
theorem dX12_lawFor_15 : decode cX12_lawFor 15 = .ok (.getfield 222, 3) := by decide +kernel
theorem dX12_lawFor_18 : decode cX12_lawFor 18 = .ok (.bipush 40, 2) := by decide +kernel
theorem dX12_lawFor_20 : decode cX12_lawFor 20 = .ok (.invokevirtual 179, 3) := by decide +kernel
theorem dX12_lawFor_23 : decode cX12_lawFor 23 = .ok (.aload_n 0, 1) := by decide +kernel
theorem dX12_lawFor_24 : decode cX12_lawFor 24 = .ok (.iload_n 1, 1) := by decide +kernel
theorem dX12_lawFor_25 : decode cX12_lawFor 25 = .ok (.putfield 54, 3) := by decide +kernel
theorem dX12_lawFor_28 : decode cX12_lawFor 28 = .ok (.aload_n 0, 1) := by decide +kernel
theorem dX12_lawFor_29 : decode cX12_lawFor 29 = .ok (.iconst 0, 1) := by decide +kernel
theorem dX12_lawFor_30 : decode cX12_lawFor 30 = .ok (.invokevirtual 210, 3) := by decide +kernel
theorem dX12_lawFor_33 : decode cX12_lawFor 33 = .ok (.ireturn, 1) := by decide +kernel
theorem bkX12_lawFor_0 {b : Int} {mem : qm} {Q : Int → qm → Prop}
    {j : Int}
    {P2 : Int → qm → Prop}
    (l1 : (mem 188 25) ≠ 0 → q_Ev yX12_begin cX12_begin 4 none 1 0 0 [(2, 188), (2, 201), (0, (mem 188 25)), (0, 40)] (q_sh0, q_rb b, mem) (qK (q_rb 201) (P2)))
    {P3 : Int → qm → Int → qm → Prop}
    (l2 : (mem 188 25) ≠ 0 → ∀ (r2 : Int), ∀ (m2 : qm), P2 r2 m2 → q_in32 r2 → q_Ev yX12_held cX12_held 3 (some .int) 70 0 0 [(2, 188), (0, 0)] (q_sh0, q_rb 201, (q_up m2 188 26 j)) (qK (q_rb 201) (P3 r2 m2)))
    (l3 : (mem 188 25) ≠ 0 → ∀ (r2 : Int), ∀ (m2 : qm), P2 r2 m2 → q_in32 r2 → ∀ (r3 : Int), ∀ (m3 : qm), P3 r2 m2 r3 m3 → q_in32 r3 → Q r3 m3)
    (l4 : (mem 188 25) = 0 → Q 1 mem) :
    q_At yX12_lawFor cX12_lawFor 2 (some .int) 71 0 0 (qE Q) 0 [(2, 188), (0, j)] [] (q_sh0, q_rb b, mem) := by
  refine q_aload_n dX12_lawFor_0 rfl rfl ?_
  refine qx_getI (ci := 12) (k := 25) (v := (mem 188 25)) dX12_lawFor_1 rfl rfl rfl tw1208 rfl qs188 rfl ?_
  refine qx_if_ne (tgt := 9) dX12_lawFor_4 (by decide) (fun c1 => ?_) (fun c1 => ?_)
  · skip
    refine q_aload_n dX12_lawFor_9 rfl rfl ?_
    refine q_aload_n dX12_lawFor_10 rfl rfl ?_
    refine q_getR (ci := 12) (k := 24) dX12_lawFor_11 rfl (by decide) rfl tw1207 (by decide) qs188 qw188_24 (by decide) ?_
    refine q_aload_n dX12_lawFor_14 rfl rfl ?_
    refine qx_getI (ci := 12) (k := 25) (v := (mem 188 25)) dX12_lawFor_15 rfl rfl rfl tw1208 rfl qs188 rfl ?_
    refine qx_bipush dX12_lawFor_18 rfl rfl ?_
    refine qx_invV (ci := 12) [(2, 201), (0, (mem 188 25)), (0, 40)] [(0, 40), (0, (mem 188 25)), (2, 201), (2, 188)] rfl qM_X12_begin dX12_lawFor_20 tw1369 rfl qs188 rfl rfl rfl rfl (l1 c1) (fun r2 m2 p2 q2 => ?_)
    refine q_aload_n dX12_lawFor_23 rfl rfl ?_
    refine q_iload_n dX12_lawFor_24 rfl rfl ?_
    refine q_putI (ci := 12) (k := 26) (kI := 26) (ty := .int) dX12_lawFor_25 rfl (by decide) rfl tw1209 rfl rfl rfl (fun _ => ⟨rfl, rfl⟩) qs188 ?_
    refine q_aload_n dX12_lawFor_28 rfl rfl ?_
    refine qx_iconst dX12_lawFor_29 rfl rfl ?_
    refine qx_invV (ci := 12) [(0, 0)] [(0, 0), (2, 188)] rfl qM_X12_held dX12_lawFor_30 tw1405 rfl qs188 rfl rfl rfl rfl (l2 c1 r2 m2 p2 q2) (fun r3 m3 p3 q3 => ?_)
    exact q_iret dX12_lawFor_33 (qE_i (l3 c1 r2 m2 p2 q2 r3 m3 p3 q3))
  · skip
    refine qx_iconst dX12_lawFor_7 rfl rfl ?_
    exact q_iret dX12_lawFor_8 (qE_i (l4 c1))
theorem dX11_wax_0 : decode cX11_wax 0 = .ok (.aload_n 0, 1) := by decide +kernel
theorem dX11_wax_1 : decode cX11_wax 1 = .ok (.iload_n 1, 1) := by decide +kernel
theorem dX11_wax_2 : decode cX11_wax 2 = .ok (.invokevirtual 131, 3) := by decide +kernel
theorem dX11_wax_5 : decode cX11_wax 5 = .ok (.ifCond .eq 32, 3) := by decide +kernel
theorem dX11_wax_8 : decode cX11_wax 8 = .ok (.iload_n 2, 1) := by decide +kernel
theorem dX11_wax_9 : decode cX11_wax 9 = .ok (.iconst 1, 1) := by decide +kernel
theorem dX11_wax_10 : decode cX11_wax 10 = .ok (.if_icmp .lt 27, 3) := by decide +kernel
theorem dX11_wax_13 : decode cX11_wax 13 = .ok (.iload_n 2, 1) := by decide +kernel
theorem dX11_wax_14 : decode cX11_wax 14 = .ok (.bipush 99, 2) := by decide +kernel
theorem dX11_wax_16 : decode cX11_wax 16 = .ok (.if_icmp .gt 21, 3) := by decide +kernel
theorem dX11_wax_19 : decode cX11_wax 19 = .ok (.aload_n 0, 1) := by decide +kernel
theorem dX11_wax_20 : decode cX11_wax 20 = .ok (.getfield 19, 3) := by decide +kernel
theorem dX11_wax_23 : decode cX11_wax 23 = .ok (.getfield 210, 3) := by decide +kernel
theorem dX11_wax_26 : decode cX11_wax 26 = .ok (.ifCond .ne 11, 3) := by decide +kernel
theorem dX11_wax_29 : decode cX11_wax 29 = .ok (.aload_n 0, 1) := by decide +kernel
theorem dX11_wax_30 : decode cX11_wax 30 = .ok (.iload_n 1, 1) := by decide +kernel
theorem dX11_wax_31 : decode cX11_wax 31 = .ok (.invokevirtual 163, 3) := by decide +kernel
theorem dX11_wax_34 : decode cX11_wax 34 = .ok (.ifCond .ne 5, 3) := by decide +kernel
theorem dX11_wax_37 : decode cX11_wax 37 = .ok (.iconst 0, 1) := by decide +kernel
theorem dX11_wax_38 : decode cX11_wax 38 = .ok (.ireturn, 1) := by decide +kernel
theorem dX11_wax_39 : decode cX11_wax 39 = .ok (.aload_n 0, 1) := by decide +kernel
theorem dX11_wax_40 : decode cX11_wax 40 = .ok (.getfield 45, 3) := by decide +kernel
theorem dX11_wax_43 : decode cX11_wax 43 = .ok (.aload_n 0, 1) := by decide +kernel
theorem dX11_wax_44 : decode cX11_wax 44 = .ok (.getfield 19, 3) := by decide +kernel
theorem dX11_wax_47 : decode cX11_wax 47 = .ok (.invokevirtual 191, 3) := by decide +kernel
theorem dX11_wax_50 : decode cX11_wax 50 = .ok (.aload_n 0, 1) := by decide +kernel
theorem dX11_wax_51 : decode cX11_wax 51 = .ok (.getfield 19, 3) := by decide +kernel
theorem dX11_wax_54 : decode cX11_wax 54 = .ok (.getfield 160, 3) := by decide +kernel
theorem dX11_wax_57 : decode cX11_wax 57 = .ok (.iload_n 1, 1) := by decide +kernel
theorem dX11_wax_58 : decode cX11_wax 58 = .ok (.iload_n 2, 1) := by decide +kernel
theorem dX11_wax_59 : decode cX11_wax 59 = .ok (.iastore, 1) := by decide +kernel
theorem dX11_wax_60 : decode cX11_wax 60 = .ok (.aload_n 0, 1) := by decide +kernel
theorem dX11_wax_61 : decode cX11_wax 61 = .ok (.getfield 19, 3) := by decide +kernel
theorem dX11_wax_64 : decode cX11_wax 64 = .ok (.iconst 1, 1) := by decide +kernel
theorem dX11_wax_65 : decode cX11_wax 65 = .ok (.putfield 210, 3) := by decide +kernel
theorem dX11_wax_68 : decode cX11_wax 68 = .ok (.iconst 1, 1) := by decide +kernel
theorem dX11_wax_69 : decode cX11_wax 69 = .ok (.ireturn, 1) := by decide +kernel
theorem bkX11_wax_0 {b : Int} {mem : qm} {Q : Int → qm → Prop}
    {j v : Int}
    (l1 : (0 ≤ j ∧ j < (mem 1 3)) → v < 1 → Q 0 mem)
    (l2 : (0 ≤ j ∧ j < (mem 1 3)) → 1 ≤ v → 99 < v → Q 0 mem)
    (l3 : (0 ≤ j ∧ j < (mem 1 3)) → 1 ≤ v → v ≤ 99 → (mem 5 9) ≠ 0 → Q 0 mem)
    {P5 : Int → qm → Prop}
    (l4 : (0 ≤ j ∧ j < (mem 1 3)) → 1 ≤ v → v ≤ 99 → (mem 5 9) = 0 → q_Ev yX11_lawOf cX11_lawOf 3 (some .int) 3 0 0 [(2, 0), (0, j)] (q_sh0, q_rb b, mem) (qK (q_rb b) (P5)))
    {P7 : Int → qm → Int → qm → Prop}
    (l5 : (0 ≤ j ∧ j < (mem 1 3)) → 1 ≤ v → v ≤ 99 → (mem 5 9) = 0 → ∀ (r5 : Int), ∀ (m5 : qm), P5 r5 m5 → q_in32 r5 → r5 ≠ 0 → q_Ev yX3_remember cX3_remember 2 none 2 0 0 [(2, 33), (2, 5)] (q_sh0, q_rb b, m5) (qK (q_rb b) (P7 r5 m5)))
    (o6 : (0 ≤ j ∧ j < (mem 1 3)) → 1 ≤ v → v ≤ 99 → (mem 5 9) = 0 → ∀ (r5 : Int), ∀ (m5 : qm), P5 r5 m5 → q_in32 r5 → r5 ≠ 0 → ∀ (r7 : Int), ∀ (m7 : qm), P7 r5 m5 r7 m7 → q_in32 r7 → (0 ≤ j ∧ j < 9))
    (l7 : (0 ≤ j ∧ j < (mem 1 3)) → 1 ≤ v → v ≤ 99 → (mem 5 9) = 0 → ∀ (r5 : Int), ∀ (m5 : qm), P5 r5 m5 → q_in32 r5 → r5 ≠ 0 → ∀ (r7 : Int), ∀ (m7 : qm), P7 r5 m5 r7 m7 → q_in32 r7 → Q 1 (q_up (q_up m7 9 j v) 5 9 1))
    (l8 : (0 ≤ j ∧ j < (mem 1 3)) → 1 ≤ v → v ≤ 99 → (mem 5 9) = 0 → ∀ (r5 : Int), ∀ (m5 : qm), P5 r5 m5 → q_in32 r5 → r5 = 0 → Q 0 m5)
    (l9 : ¬ (0 ≤ j ∧ j < (mem 1 3)) → Q 0 mem) :
    q_At yX11_wax cX11_wax 3 (some .boolean) 4 0 0 (qK (q_rb b) Q) 0 [(2, 0), (0, j), (0, v)] [] (q_sh0, q_rb b, mem) := by
  refine q_aload_n dX11_wax_0 rfl rfl ?_
  refine q_iload_n dX11_wax_1 rfl rfl ?_
  refine qx_invV (ci := 11) [(0, j)] [(0, j), (2, 0)] rfl qM_X11_isJar dX11_wax_2 tw576 rfl qs0 rfl rfl rfl rfl (spX11_isJar) (fun r1 m1 p1 q1 => ?_)
  obtain ⟨p1e, ⟨p1f, p1⟩ | ⟨p1f, p1⟩⟩ := p1
  · rw [p1e, p1f]
    refine qx_if_eq (tgt := 37) dX11_wax_5 (by decide) (fun z => absurd z (by decide)) (fun _ => ?_)
    refine q_iload_n dX11_wax_8 rfl rfl ?_
    refine qx_iconst dX11_wax_9 rfl rfl ?_
    refine qx_icmp_lt (tgt := 37) dX11_wax_10 (by decide) (fun c2 => ?_) (fun c2 => ?_)
    · skip
      refine qx_iconst dX11_wax_37 rfl rfl ?_
      exact q_zret dX11_wax_38 (by decide) (qK_i (l1 p1 c2))
    · skip
      refine q_iload_n dX11_wax_13 rfl rfl ?_
      refine qx_bipush dX11_wax_14 rfl rfl ?_
      refine qx_icmp_gt (tgt := 37) dX11_wax_16 (by decide) (fun c3 => ?_) (fun c3 => ?_)
      · skip
        refine qx_iconst dX11_wax_37 rfl rfl ?_
        exact q_zret dX11_wax_38 (by decide) (qK_i (l2 p1 c2 c3))
      · skip
        refine q_aload_n dX11_wax_19 rfl rfl ?_
        refine q_getR (ci := 11) (k := 1) dX11_wax_20 rfl (by decide) rfl tw350 (by decide) qs0 qw0_1 (by decide) ?_
        refine qx_getI (ci := 7) (k := 9) (v := (mem 5 9)) dX11_wax_23 rfl rfl rfl tw106 rfl qs5 rfl ?_
        refine qx_if_ne (tgt := 37) dX11_wax_26 (by decide) (fun c4 => ?_) (fun c4 => ?_)
        · skip
          refine qx_iconst dX11_wax_37 rfl rfl ?_
          exact q_zret dX11_wax_38 (by decide) (qK_i (l3 p1 c2 c3 c4))
        · skip
          refine q_aload_n dX11_wax_29 rfl rfl ?_
          refine q_iload_n dX11_wax_30 rfl rfl ?_
          refine qx_invV (ci := 11) [(0, j)] [(0, j), (2, 0)] rfl qM_X11_lawOf dX11_wax_31 tw641 rfl qs0 rfl rfl rfl rfl (l4 p1 c2 c3 c4) (fun r5 m5 p5 q5 => ?_)
          refine qx_if_ne (tgt := 39) dX11_wax_34 (by decide) (fun c6 => ?_) (fun c6 => ?_)
          · skip
            refine q_aload_n dX11_wax_39 rfl rfl ?_
            refine q_getR (ci := 11) (k := 5) dX11_wax_40 rfl (by decide) rfl tw354 (by decide) qs0 qw0_5 (by decide) ?_
            refine q_aload_n dX11_wax_43 rfl rfl ?_
            refine q_getR (ci := 11) (k := 1) dX11_wax_44 rfl (by decide) rfl tw350 (by decide) qs0 qw0_1 (by decide) ?_
            refine qx_invV (ci := 3) [(2, 5)] [(2, 5), (2, 33)] rfl qM_X3_remember dX11_wax_47 tw606 rfl qs33 rfl rfl rfl rfl (l5 p1 c2 c3 c4 r5 m5 p5 q5 c6) (fun r7 m7 p7 q7 => ?_)
            refine q_aload_n dX11_wax_50 rfl rfl ?_
            refine q_getR (ci := 11) (k := 1) dX11_wax_51 rfl (by decide) rfl tw350 (by decide) qs0 qw0_1 (by decide) ?_
            refine q_getR (ci := 7) (k := 3) dX11_wax_54 rfl (by decide) rfl tw82 (by decide) qs5 qw5_3 (by decide) ?_
            refine q_iload_n dX11_wax_57 rfl rfl ?_
            refine q_iload_n dX11_wax_58 rfl rfl ?_
            refine q_iast dX11_wax_59 qs9 ((o6 p1 c2 c3 c4 r5 m5 p5 q5 c6 r7 m7 p7 q7)).1 ((o6 p1 c2 c3 c4 r5 m5 p5 q5 c6 r7 m7 p7 q7)).2 ?_
            refine q_aload_n dX11_wax_60 rfl rfl ?_
            refine q_getR (ci := 11) (k := 1) dX11_wax_61 rfl (by decide) rfl tw350 (by decide) qs0 qw0_1 (by decide) ?_
            refine qx_iconst dX11_wax_64 rfl rfl ?_
            refine q_putI (ci := 7) (k := 9) (kI := 9) (ty := .boolean) dX11_wax_65 rfl (by decide) rfl tw106 rfl rfl rfl (fun _ => ⟨rfl, rfl⟩) qs5 ?_
            refine qx_iconst dX11_wax_68 rfl rfl ?_
            exact q_zret dX11_wax_69 (by decide) (qK_i (l7 p1 c2 c3 c4 r5 m5 p5 q5 c6 r7 m7 p7 q7))
          · skip
            refine qx_iconst dX11_wax_37 rfl rfl ?_
            exact q_zret dX11_wax_38 (by decide) (qK_i (l8 p1 c2 c3 c4 r5 m5 p5 q5 c6))
  · rw [p1e, p1f]
    refine qx_if_eq (tgt := 37) dX11_wax_5 (by decide) (fun _ => ?_) (fun z => absurd z (by decide))
    refine qx_iconst dX11_wax_37 rfl rfl ?_
    exact q_zret dX11_wax_38 (by decide) (qK_i (l9 p1))
theorem dX12_wax_0 : decode cX12_wax 0 = .ok (.aload_n 0, 1) := by decide +kernel
theorem dX12_wax_1 : decode cX12_wax 1 = .ok (.iconst 0, 1) := by decide +kernel
theorem dX12_wax_2 : decode cX12_wax 2 = .ok (.putfield 128, 3) := by decide +kernel
theorem dX12_wax_5 : decode cX12_wax 5 = .ok (.aload_n 0, 1) := by decide +kernel
theorem dX12_wax_6 : decode cX12_wax 6 = .ok (.iload_n 1, 1) := by decide +kernel
theorem dX12_wax_7 : decode cX12_wax 7 = .ok (.invokevirtual 225, 3) := by decide +kernel
theorem dX12_wax_10 : decode cX12_wax 10 = .ok (.ifCond .eq 32, 3) := by decide +kernel
theorem dX12_wax_13 : decode cX12_wax 13 = .ok (.iload_n 2, 1) := by decide +kernel
theorem dX12_wax_14 : decode cX12_wax 14 = .ok (.iconst 1, 1) := by decide +kernel
theorem dX12_wax_15 : decode cX12_wax 15 = .ok (.bipush 99, 2) := by decide +kernel
theorem dX12_wax_17 : decode cX12_wax 17 = .ok (.invokestatic 137, 3) := by decide +kernel
theorem dX12_wax_20 : decode cX12_wax 20 = .ok (.ifCond .eq 22, 3) := by decide +kernel
theorem dX12_wax_23 : decode cX12_wax 23 = .ok (.aload_n 0, 1) := by decide +kernel
theorem dX12_wax_24 : decode cX12_wax 24 = .ok (.getfield 37, 3) := by decide +kernel
theorem dX12_wax_27 : decode cX12_wax 27 = .ok (.aload_n 0, 1) := by decide +kernel
theorem dX12_wax_28 : decode cX12_wax 28 = .ok (.getfield 216, 3) := by decide +kernel
theorem dX12_wax_31 : decode cX12_wax 31 = .ok (.if_icmp .eq 11, 3) := by decide +kernel
theorem dX12_wax_34 : decode cX12_wax 34 = .ok (.aload_n 0, 1) := by decide +kernel
theorem dX12_wax_35 : decode cX12_wax 35 = .ok (.iload_n 1, 1) := by decide +kernel
theorem dX12_wax_36 : decode cX12_wax 36 = .ok (.invokevirtual 231, 3) := by decide +kernel
theorem dX12_wax_39 : decode cX12_wax 39 = .ok (.ifCond .ne 5, 3) := by decide +kernel
theorem dX12_wax_42 : decode cX12_wax 42 = .ok (.iconst 0, 1) := by decide +kernel
theorem dX12_wax_43 : decode cX12_wax 43 = .ok (.ireturn, 1) := by decide +kernel
theorem dX12_wax_44 : decode cX12_wax 44 = .ok (.aload_n 0, 1) := by decide +kernel
theorem dX12_wax_45 : decode cX12_wax 45 = .ok (.invokevirtual 257, 3) := by decide +kernel
theorem dX12_wax_48 : decode cX12_wax 48 = .ok (.aload_n 0, 1) := by decide +kernel
theorem dX12_wax_49 : decode cX12_wax 49 = .ok (.getfield 28, 3) := by decide +kernel
theorem dX12_wax_52 : decode cX12_wax 52 = .ok (.iload_n 1, 1) := by decide +kernel
theorem dX12_wax_53 : decode cX12_wax 53 = .ok (.iload_n 2, 1) := by decide +kernel
theorem dX12_wax_54 : decode cX12_wax 54 = .ok (.iastore, 1) := by decide +kernel
theorem dX12_wax_55 : decode cX12_wax 55 = .ok (.aload_n 0, 1) := by decide +kernel
theorem dX12_wax_56 : decode cX12_wax 56 = .ok (.aload_n 0, 1) := by decide +kernel
theorem dX12_wax_57 : decode cX12_wax 57 = .ok (.getfield 216, 3) := by decide +kernel
theorem dX12_wax_60 : decode cX12_wax 60 = .ok (.putfield 37, 3) := by decide +kernel
theorem dX12_wax_63 : decode cX12_wax 63 = .ok (.iconst 1, 1) := by decide +kernel
theorem dX12_wax_64 : decode cX12_wax 64 = .ok (.ireturn, 1) := by decide +kernel
theorem bkX12_wax_0 {b : Int} {mem : qm} {Q : Int → qm → Prop}
    {j v : Int}
    (o1 : q_in32 ((mem 188 0) - 1))
    (l2 : (0 ≤ j ∧ j ≤ (mem 188 0) - 1) → (1 ≤ v ∧ v ≤ 99) → (mem 188 12) = (mem 188 10) → Q 0 (q_up mem 188 17 0))
    {P4 : Int → qm → Prop}
    (l3 : (0 ≤ j ∧ j ≤ (mem 188 0) - 1) → (1 ≤ v ∧ v ≤ 99) → (mem 188 12) ≠ (mem 188 10) → q_Ev yX12_lawFor cX12_lawFor 2 (some .int) 71 0 0 [(2, 188), (0, j)] (q_sh0, q_rb b, (q_up mem 188 17 0)) (qE (P4)))
    {P6 : Int → Int → qm → Int → qm → Prop}
    (l4 : (0 ≤ j ∧ j ≤ (mem 188 0) - 1) → (1 ≤ v ∧ v ≤ 99) → (mem 188 12) ≠ (mem 188 10) → ∀ (r4 : Int), ∀ (b4 : Int), ∀ (m4 : qm), P4 r4 m4 → q_in32 r4 → r4 ≠ 0 → q_Ev yX12_remember cX12_remember 2 none 2 0 0 [(2, 188)] (q_sh0, q_rb b4, m4) (qK (q_rb b4) (P6 r4 b4 m4)))
    (o5 : (0 ≤ j ∧ j ≤ (mem 188 0) - 1) → (1 ≤ v ∧ v ≤ 99) → (mem 188 12) ≠ (mem 188 10) → ∀ (r4 : Int), ∀ (b4 : Int), ∀ (m4 : qm), P4 r4 m4 → q_in32 r4 → r4 ≠ 0 → ∀ (r6 : Int), ∀ (m6 : qm), P6 r4 b4 m4 r6 m6 → q_in32 r6 → (0 ≤ j ∧ j < 9))
    (l6 : (0 ≤ j ∧ j ≤ (mem 188 0) - 1) → (1 ≤ v ∧ v ≤ 99) → (mem 188 12) ≠ (mem 188 10) → ∀ (r4 : Int), ∀ (b4 : Int), ∀ (m4 : qm), P4 r4 m4 → q_in32 r4 → r4 ≠ 0 → ∀ (r6 : Int), ∀ (m6 : qm), P6 r4 b4 m4 r6 m6 → q_in32 r6 → Q 1 (q_up (q_up m6 195 j v) 188 12 (m6 188 10)))
    (l7 : (0 ≤ j ∧ j ≤ (mem 188 0) - 1) → (1 ≤ v ∧ v ≤ 99) → (mem 188 12) ≠ (mem 188 10) → ∀ (r4 : Int), ∀ (b4 : Int), ∀ (m4 : qm), P4 r4 m4 → q_in32 r4 → r4 = 0 → Q 0 m4)
    (l8 : (0 ≤ j ∧ j ≤ (mem 188 0) - 1) → ¬ (1 ≤ v ∧ v ≤ 99) → Q 0 (q_up mem 188 17 0))
    (l9 : ¬ (0 ≤ j ∧ j ≤ (mem 188 0) - 1) → Q 0 (q_up mem 188 17 0)) :
    q_At yX12_wax cX12_wax 3 (some .boolean) 72 0 0 (qE Q) 0 [(2, 188), (0, j), (0, v)] [] (q_sh0, q_rb b, mem) := by
  refine q_aload_n dX12_wax_0 rfl rfl ?_
  refine qx_iconst dX12_wax_1 rfl rfl ?_
  refine q_putI (ci := 12) (k := 17) (kI := 17) (ty := .int) dX12_wax_2 rfl (by decide) rfl tw1200 rfl rfl rfl (fun _ => ⟨rfl, rfl⟩) qs188 ?_
  refine q_aload_n dX12_wax_5 rfl rfl ?_
  refine q_iload_n dX12_wax_6 rfl rfl ?_
  refine qx_invV (ci := 12) [(0, j)] [(0, j), (2, 188)] rfl qM_X12_isJar dX12_wax_7 tw1433 rfl qs188 rfl rfl rfl rfl (spX12_isJar (by first | exact (o1) | (simp only [q_up, Int.reduceEq, false_and, true_and, and_true, and_false, ite_false, ite_true, if_true, if_false]; exact (o1)))) (fun r1 m1 p1 q1 => ?_)
  obtain ⟨p1e, ⟨p1f, p1⟩ | ⟨p1f, p1⟩⟩ := p1
  · rw [p1e, p1f]
    simp only [q_up, Int.reduceEq, false_and, true_and, and_true, and_false, ite_false, ite_true, if_true, if_false] at p1
    refine qx_if_eq (tgt := 42) dX12_wax_10 (by decide) (fun z => absurd z (by decide)) (fun _ => ?_)
    refine q_iload_n dX12_wax_13 rfl rfl ?_
    refine qx_iconst dX12_wax_14 rfl rfl ?_
    refine qx_bipush dX12_wax_15 rfl rfl ?_
    refine qx_invS [(0, v), (0, 1), (0, 99)] [(0, 99), (0, 1), (0, v)] rfl qM_X12_in dX12_wax_17 tw1362 rfl rfl rfl rfl (spX12_in) (fun r2 m2 p2 q2 => ?_)
    obtain ⟨p2e, ⟨p2f, p2⟩ | ⟨p2f, p2⟩⟩ := p2
    · rw [p2e, p2f]
      refine qx_if_eq (tgt := 42) dX12_wax_20 (by decide) (fun z => absurd z (by decide)) (fun _ => ?_)
      refine q_aload_n dX12_wax_23 rfl rfl ?_
      refine qx_getI (ci := 12) (k := 12) (v := (mem 188 12)) dX12_wax_24 rfl rfl rfl tw1195 rfl qs188 (q_up_i (by decide)) ?_
      refine q_aload_n dX12_wax_27 rfl rfl ?_
      refine qx_getI (ci := 12) (k := 10) (v := (mem 188 10)) dX12_wax_28 rfl rfl rfl tw1193 rfl qs188 (q_up_i (by decide)) ?_
      refine qx_icmp_eq (tgt := 42) dX12_wax_31 (by decide) (fun c3 => ?_) (fun c3 => ?_)
      · skip
        refine qx_iconst dX12_wax_42 rfl rfl ?_
        exact q_zret dX12_wax_43 (by decide) (qE_i (l2 p1 p2 c3))
      · skip
        refine q_aload_n dX12_wax_34 rfl rfl ?_
        refine q_iload_n dX12_wax_35 rfl rfl ?_
        refine qx_invVE (ci := 12) [(0, j)] [(0, j), (2, 188)] rfl qM_X12_lawFor dX12_wax_36 tw1441 rfl qs188 rfl rfl rfl rfl (l3 p1 p2 c3) (fun r4 b4 m4 p4 q4 => ?_)
        refine qx_if_ne (tgt := 44) dX12_wax_39 (by decide) (fun c5 => ?_) (fun c5 => ?_)
        · skip
          refine q_aload_n dX12_wax_44 rfl rfl ?_
          refine qx_invV (ci := 12) [] [(2, 188)] rfl qM_X12_remember dX12_wax_45 tw1466 rfl qs188 rfl rfl rfl rfl (l4 p1 p2 c3 r4 b4 m4 p4 q4 c5) (fun r6 m6 p6 q6 => ?_)
          refine q_aload_n dX12_wax_48 rfl rfl ?_
          refine q_getR (ci := 12) (k := 7) dX12_wax_49 rfl (by decide) rfl tw1190 (by decide) qs188 qw188_7 (by decide) ?_
          refine q_iload_n dX12_wax_52 rfl rfl ?_
          refine q_iload_n dX12_wax_53 rfl rfl ?_
          refine q_iast dX12_wax_54 qs195 ((o5 p1 p2 c3 r4 b4 m4 p4 q4 c5 r6 m6 p6 q6)).1 ((o5 p1 p2 c3 r4 b4 m4 p4 q4 c5 r6 m6 p6 q6)).2 ?_
          refine q_aload_n dX12_wax_55 rfl rfl ?_
          refine q_aload_n dX12_wax_56 rfl rfl ?_
          refine qx_getI (ci := 12) (k := 10) (v := (m6 188 10)) dX12_wax_57 rfl rfl rfl tw1193 rfl qs188 (q_up_c (by decide)) ?_
          refine q_putI (ci := 12) (k := 12) (kI := 12) (ty := .int) dX12_wax_60 rfl (by decide) rfl tw1195 rfl rfl rfl (fun _ => ⟨rfl, rfl⟩) qs188 ?_
          refine qx_iconst dX12_wax_63 rfl rfl ?_
          exact q_zret dX12_wax_64 (by decide) (qE_i (l6 p1 p2 c3 r4 b4 m4 p4 q4 c5 r6 m6 p6 q6))
        · skip
          refine qx_iconst dX12_wax_42 rfl rfl ?_
          exact q_zret dX12_wax_43 (by decide) (qE_i (l7 p1 p2 c3 r4 b4 m4 p4 q4 c5))
    · rw [p2e, p2f]
      refine qx_if_eq (tgt := 42) dX12_wax_20 (by decide) (fun _ => ?_) (fun z => absurd z (by decide))
      refine qx_iconst dX12_wax_42 rfl rfl ?_
      exact q_zret dX12_wax_43 (by decide) (qE_i (l8 p1 p2))
  · rw [p1e, p1f]
    simp only [q_up, Int.reduceEq, false_and, true_and, and_true, and_false, ite_false, ite_true, if_true, if_false] at p1
    refine qx_if_eq (tgt := 42) dX12_wax_10 (by decide) (fun _ => ?_) (fun z => absurd z (by decide))
    refine qx_iconst dX12_wax_42 rfl rfl ?_
    exact q_zret dX12_wax_43 (by decide) (qE_i (l9 p1))
