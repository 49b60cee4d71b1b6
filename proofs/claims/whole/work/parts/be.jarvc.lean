theorem dX12_lost_0 : decode cX12_lost 0 = .ok (.aload_n 0, 1) := by decide +kernel
theorem dX12_lost_1 : decode cX12_lost 1 = .ok (.iconst 1, 1) := by decide +kernel
theorem dX12_lost_2 : decode cX12_lost 2 = .ok (.putfield 128, 3) := by decide +kernel
theorem dX12_lost_5 : decode cX12_lost 5 = .ok (.iconst 0, 1) := by decide +kernel
theorem dX12_lost_6 : decode cX12_lost 6 = .ok (.ireturn, 1) := by decide +kernel
theorem bkX12_lost_0 {b : Int} {mem : qm} {Q : Int → qm → Prop}
    (l1 : Q 0 (q_up mem 188 17 1)) :
    q_At yX12_lost cX12_lost 1 (some .int) 1 0 0 (qK (q_rb b) Q) 0 [(2, 188)] [] (q_sh0, q_rb b, mem) := by
  refine q_aload_n dX12_lost_0 rfl rfl ?_
  refine qx_iconst dX12_lost_1 rfl rfl ?_
  refine q_putI (ci := 12) (k := 17) (kI := 17) (ty := .int) dX12_lost_2 rfl (by decide) rfl tw1200 rfl rfl rfl (fun _ => ⟨rfl, rfl⟩) qs188 ?_
  refine qx_iconst dX12_lost_5 rfl rfl ?_
  exact q_iret dX12_lost_6 (qK_i (l1))
theorem dX12_row_0 : decode cX12_row 0 = .ok (.aload_n 0, 1) := by decide +kernel
theorem dX12_row_1 : decode cX12_row 1 = .ok (.iconst 0, 1) := by decide +kernel
theorem dX12_row_2 : decode cX12_row 2 = .ok (.putfield 128, 3) := by decide +kernel
theorem dX12_row_5 : decode cX12_row 5 = .ok (.iload_n 1, 1) := by decide +kernel
theorem dX12_row_6 : decode cX12_row 6 = .ok (.iconst 0, 1) := by decide +kernel
theorem dX12_row_7 : decode cX12_row 7 = .ok (.aload_n 0, 1) := by decide +kernel
theorem dX12_row_8 : decode cX12_row 8 = .ok (.getfield 131, 3) := by decide +kernel
theorem dX12_row_11 : decode cX12_row 11 = .ok (.iconst 1, 1) := by decide +kernel
theorem dX12_row_12 : decode cX12_row 12 = .ok (.isub, 1) := by decide +kernel
theorem dX12_row_13 : decode cX12_row 13 = .ok (.invokestatic 137, 3) := by decide +kernel
theorem dX12_row_16 : decode cX12_row 16 = .ok (.ifCond .eq 12, 3) := by decide +kernel
theorem dX12_row_19 : decode cX12_row 19 = .ok (.aload_n 0, 1) := by decide +kernel
theorem dX12_row_20 : decode cX12_row 20 = .ok (.getfield 45, 3) := by decide +kernel
theorem dX12_row_23 : decode cX12_row 23 = .ok (.iload_n 1, 1) := by decide +kernel
theorem dX12_row_24 : decode cX12_row 24 = .ok (.iaload, 1) := by decide +kernel
theorem dX12_row_25 : decode cX12_row 25 = .ok (.goto 7, 3) := by decide +kernel
theorem dX12_row_28 : decode cX12_row 28 = .ok (.aload_n 0, 1) := by decide +kernel
theorem dX12_row_29 : decode cX12_row 29 = .ok (.invokevirtual 228, 3) := by decide +kernel
theorem dX12_row_32 : decode cX12_row 32 = .ok (.ireturn, 1) := by decide +kernel
theorem bkX12_row_0 {b : Int} {mem : qm} {Q : Int → qm → Prop}
    {v : Int}
    (o1 : q_in32 ((mem 188 16) - 1))
    (o2 : (0 ≤ v ∧ v ≤ ((mem 188 16) - 1)) → (0 ≤ v ∧ v < 16))
    (l3 : (0 ≤ v ∧ v ≤ ((mem 188 16) - 1)) → Q (mem 199 v) (q_up mem 188 17 0))
    {P2 : Int → qm → Prop}
    (l4 : ¬ (0 ≤ v ∧ v ≤ ((mem 188 16) - 1)) → q_Ev yX12_lost cX12_lost 1 (some .int) 1 0 0 [(2, 188)] (q_sh0, q_rb b, (q_up mem 188 17 0)) (qK (q_rb b) (P2)))
    (l5 : ¬ (0 ≤ v ∧ v ≤ ((mem 188 16) - 1)) → ∀ (r2 : Int), ∀ (m2 : qm), P2 r2 m2 → q_in32 r2 → Q r2 m2) :
    q_At yX12_row cX12_row 2 (some .int) 2 0 0 (qK (q_rb b) Q) 0 [(2, 188), (0, v)] [] (q_sh0, q_rb b, mem) := by
  refine q_aload_n dX12_row_0 rfl rfl ?_
  refine qx_iconst dX12_row_1 rfl rfl ?_
  refine q_putI (ci := 12) (k := 17) (kI := 17) (ty := .int) dX12_row_2 rfl (by decide) rfl tw1200 rfl rfl rfl (fun _ => ⟨rfl, rfl⟩) qs188 ?_
  refine q_iload_n dX12_row_5 rfl rfl ?_
  refine qx_iconst dX12_row_6 rfl rfl ?_
  refine q_aload_n dX12_row_7 rfl rfl ?_
  refine qx_getI (ci := 12) (k := 16) (v := (mem 188 16)) dX12_row_8 rfl rfl rfl tw1199 rfl qs188 (q_up_i (by decide)) ?_
  refine qx_iconst dX12_row_11 rfl rfl ?_
  refine qx_isub dX12_row_12 (o1) ?_
  refine qx_invS [(0, v), (0, 0), (0, ((mem 188 16) - 1))] [(0, ((mem 188 16) - 1)), (0, 0), (0, v)] rfl qM_X12_in dX12_row_13 tw1362 rfl rfl rfl rfl (spX12_in) (fun r1 m1 p1 q1 => ?_)
  obtain ⟨p1e, ⟨p1f, p1⟩ | ⟨p1f, p1⟩⟩ := p1
  · rw [p1e, p1f]
    refine qx_if_eq (tgt := 28) dX12_row_16 (by decide) (fun z => absurd z (by decide)) (fun _ => ?_)
    refine q_aload_n dX12_row_19 rfl rfl ?_
    refine q_getR (ci := 12) (k := 15) dX12_row_20 rfl (by decide) rfl tw1198 (by decide) qs188 qw188_15 (by decide) ?_
    refine q_iload_n dX12_row_23 rfl rfl ?_
    refine qx_iald (v := (mem 199 v)) dX12_row_24 qs199 (o2 p1) (q_up_c (by decide)) ?_
    refine q_goto (tgt := 32) dX12_row_25 (by decide) ?_
    exact q_iret dX12_row_32 (qK_i (l3 p1))
  · rw [p1e, p1f]
    refine qx_if_eq (tgt := 28) dX12_row_16 (by decide) (fun _ => ?_) (fun z => absurd z (by decide))
    refine q_aload_n dX12_row_28 rfl rfl ?_
    refine qx_invV (ci := 12) [] [(2, 188)] rfl qM_X12_lost dX12_row_29 tw1437 rfl qs188 rfl rfl rfl rfl (l4 p1) (fun r2 m2 p2 q2 => ?_)
    exact q_iret dX12_row_32 (qK_i (l5 p1 r2 m2 p2 q2))
theorem dX11_jar_0 : decode cX11_jar 0 = .ok (.aload_n 0, 1) := by decide +kernel
theorem dX11_jar_1 : decode cX11_jar 1 = .ok (.iload_n 1, 1) := by decide +kernel
theorem dX11_jar_2 : decode cX11_jar 2 = .ok (.invokevirtual 131, 3) := by decide +kernel
theorem dX11_jar_5 : decode cX11_jar 5 = .ok (.ifCond .ne 13, 3) := by decide +kernel
theorem dX11_jar_8 : decode cX11_jar 8 = .ok (.new 135, 3) := by decide +kernel
theorem dX11_jar_11 : decode cX11_jar 11 = .ok (.dup, 1) := by decide +kernel
theorem dX11_jar_12 : decode cX11_jar 12 = .ok (.ldc 137, 2) := by decide +kernel
theorem dX11_jar_14 : decode cX11_jar 14 = .ok (.invokespecial 139, 3) := by decide +kernel
theorem dX11_jar_17 : decode cX11_jar 17 = .ok (.athrow, 1) := by decide +kernel
theorem dX11_jar_18 : decode cX11_jar 18 = .ok (.iload_n 2, 1) := by decide +kernel
theorem dX11_jar_19 : decode cX11_jar 19 = .ok (.tableswitch 121 0 7 #[45, 55, 65, 75, 85, 95, 105, 115], 45) := by decide +kernel
theorem dX11_jar_64 : decode cX11_jar 64 = .ok (.aload_n 0, 1) := by decide +kernel
theorem dX11_jar_65 : decode cX11_jar 65 = .ok (.getfield 19, 3) := by decide +kernel
theorem dX11_jar_68 : decode cX11_jar 68 = .ok (.getfield 142, 3) := by decide +kernel
theorem dX11_jar_71 : decode cX11_jar 71 = .ok (.iload_n 1, 1) := by decide +kernel
theorem dX11_jar_72 : decode cX11_jar 72 = .ok (.iaload, 1) := by decide +kernel
theorem dX11_jar_73 : decode cX11_jar 73 = .ok (.ireturn, 1) := by decide +kernel
theorem dX11_jar_74 : decode cX11_jar 74 = .ok (.aload_n 0, 1) := by decide +kernel
theorem dX11_jar_75 : decode cX11_jar 75 = .ok (.getfield 10, 3) := by decide +kernel
theorem dX11_jar_78 : decode cX11_jar 78 = .ok (.getfield 145, 3) := by decide +kernel
theorem dX11_jar_81 : decode cX11_jar 81 = .ok (.iload_n 1, 1) := by decide +kernel
theorem dX11_jar_82 : decode cX11_jar 82 = .ok (.iaload, 1) := by decide +kernel
theorem dX11_jar_83 : decode cX11_jar 83 = .ok (.ireturn, 1) := by decide +kernel
theorem dX11_jar_84 : decode cX11_jar 84 = .ok (.aload_n 0, 1) := by decide +kernel
theorem dX11_jar_85 : decode cX11_jar 85 = .ok (.getfield 19, 3) := by decide +kernel
theorem dX11_jar_88 : decode cX11_jar 88 = .ok (.getfield 148, 3) := by decide +kernel
theorem dX11_jar_91 : decode cX11_jar 91 = .ok (.iload_n 1, 1) := by decide +kernel
theorem dX11_jar_92 : decode cX11_jar 92 = .ok (.iaload, 1) := by decide +kernel
theorem dX11_jar_93 : decode cX11_jar 93 = .ok (.ireturn, 1) := by decide +kernel
theorem dX11_jar_94 : decode cX11_jar 94 = .ok (.aload_n 0, 1) := by decide +kernel
theorem dX11_jar_95 : decode cX11_jar 95 = .ok (.getfield 10, 3) := by decide +kernel
theorem dX11_jar_98 : decode cX11_jar 98 = .ok (.getfield 151, 3) := by decide +kernel
theorem dX11_jar_101 : decode cX11_jar 101 = .ok (.iload_n 1, 1) := by decide +kernel
theorem dX11_jar_102 : decode cX11_jar 102 = .ok (.iaload, 1) := by decide +kernel
theorem dX11_jar_103 : decode cX11_jar 103 = .ok (.ireturn, 1) := by decide +kernel
theorem dX11_jar_104 : decode cX11_jar 104 = .ok (.aload_n 0, 1) := by decide +kernel
theorem dX11_jar_105 : decode cX11_jar 105 = .ok (.getfield 10, 3) := by decide +kernel
theorem dX11_jar_108 : decode cX11_jar 108 = .ok (.getfield 154, 3) := by decide +kernel
theorem dX11_jar_111 : decode cX11_jar 111 = .ok (.iload_n 1, 1) := by decide +kernel
theorem dX11_jar_112 : decode cX11_jar 112 = .ok (.iaload, 1) := by decide +kernel
theorem dX11_jar_113 : decode cX11_jar 113 = .ok (.ireturn, 1) := by decide +kernel
theorem dX11_jar_114 : decode cX11_jar 114 = .ok (.aload_n 0, 1) := by decide +kernel
theorem dX11_jar_115 : decode cX11_jar 115 = .ok (.getfield 19, 3) := by decide +kernel
theorem dX11_jar_118 : decode cX11_jar 118 = .ok (.getfield 157, 3) := by decide +kernel
theorem dX11_jar_121 : decode cX11_jar 121 = .ok (.iload_n 1, 1) := by decide +kernel
theorem dX11_jar_122 : decode cX11_jar 122 = .ok (.iaload, 1) := by decide +kernel
theorem dX11_jar_123 : decode cX11_jar 123 = .ok (.ireturn, 1) := by decide +kernel
theorem dX11_jar_124 : decode cX11_jar 124 = .ok (.aload_n 0, 1) := by decide +kernel
theorem dX11_jar_125 : decode cX11_jar 125 = .ok (.getfield 19, 3) := by decide +kernel
theorem dX11_jar_128 : decode cX11_jar 128 = .ok (.getfield 160, 3) := by decide +kernel
theorem dX11_jar_131 : decode cX11_jar 131 = .ok (.iload_n 1, 1) := by decide +kernel
theorem dX11_jar_132 : decode cX11_jar 132 = .ok (.iaload, 1) := by decide +kernel
theorem dX11_jar_133 : decode cX11_jar 133 = .ok (.ireturn, 1) := by decide +kernel
theorem dX11_jar_134 : decode cX11_jar 134 = .ok (.aload_n 0, 1) := by decide +kernel
theorem dX11_jar_135 : decode cX11_jar 135 = .ok (.iload_n 1, 1) := by decide +kernel
theorem dX11_jar_136 : decode cX11_jar 136 = .ok (.invokevirtual 163, 3) := by decide +kernel
theorem dX11_jar_139 : decode cX11_jar 139 = .ok (.ireturn, 1) := by decide +kernel
theorem dX11_jar_140 : decode cX11_jar 140 = .ok (.new 135, 3) := by decide +kernel
theorem dX11_jar_143 : decode cX11_jar 143 = .ok (.dup, 1) := by decide +kernel
theorem dX11_jar_144 : decode cX11_jar 144 = .ok (.ldc 167, 2) := by decide +kernel
theorem dX11_jar_146 : decode cX11_jar 146 = .ok (.invokespecial 139, 3) := by decide +kernel
theorem dX11_jar_149 : decode cX11_jar 149 = .ok (.athrow, 1) := by decide +kernel
theorem bkX11_jar_0 {b : Int} {mem : qm} {Q : Int → qm → Prop}
    {j v : Int}
    (o1 : (0 ≤ j ∧ j < (mem 1 3)) → v = 0 → (0 ≤ j ∧ j < 9))
    (l2 : (0 ≤ j ∧ j < (mem 1 3)) → v = 0 → Q (mem 8 j) mem)
    (o3 : (0 ≤ j ∧ j < (mem 1 3)) → v ≠ 0 → v = 1 → (0 ≤ j ∧ j < 9))
    (l4 : (0 ≤ j ∧ j < (mem 1 3)) → v ≠ 0 → v = 1 → Q (mem 2 j) mem)
    (o5 : (0 ≤ j ∧ j < (mem 1 3)) → v ≠ 0 → v ≠ 1 → v = 2 → (0 ≤ j ∧ j < 9))
    (l6 : (0 ≤ j ∧ j < (mem 1 3)) → v ≠ 0 → v ≠ 1 → v = 2 → Q (mem 10 j) mem)
    (o7 : (0 ≤ j ∧ j < (mem 1 3)) → v ≠ 0 → v ≠ 1 → v ≠ 2 → v = 3 → (0 ≤ j ∧ j < 9))
    (l8 : (0 ≤ j ∧ j < (mem 1 3)) → v ≠ 0 → v ≠ 1 → v ≠ 2 → v = 3 → Q (mem 3 j) mem)
    (o9 : (0 ≤ j ∧ j < (mem 1 3)) → v ≠ 0 → v ≠ 1 → v ≠ 2 → v ≠ 3 → v = 4 → (0 ≤ j ∧ j < 9))
    (l10 : (0 ≤ j ∧ j < (mem 1 3)) → v ≠ 0 → v ≠ 1 → v ≠ 2 → v ≠ 3 → v = 4 → Q (mem 4 j) mem)
    (o11 : (0 ≤ j ∧ j < (mem 1 3)) → v ≠ 0 → v ≠ 1 → v ≠ 2 → v ≠ 3 → v ≠ 4 → v = 5 → (0 ≤ j ∧ j < 9))
    (l12 : (0 ≤ j ∧ j < (mem 1 3)) → v ≠ 0 → v ≠ 1 → v ≠ 2 → v ≠ 3 → v ≠ 4 → v = 5 → Q (mem 11 j) mem)
    (o13 : (0 ≤ j ∧ j < (mem 1 3)) → v ≠ 0 → v ≠ 1 → v ≠ 2 → v ≠ 3 → v ≠ 4 → v ≠ 5 → v = 6 → (0 ≤ j ∧ j < 9))
    (l14 : (0 ≤ j ∧ j < (mem 1 3)) → v ≠ 0 → v ≠ 1 → v ≠ 2 → v ≠ 3 → v ≠ 4 → v ≠ 5 → v = 6 → Q (mem 9 j) mem)
    {P10 : Int → qm → Prop}
    (l15 : (0 ≤ j ∧ j < (mem 1 3)) → v ≠ 0 → v ≠ 1 → v ≠ 2 → v ≠ 3 → v ≠ 4 → v ≠ 5 → v ≠ 6 → v = 7 → q_Ev yX11_lawOf cX11_lawOf 3 (some .int) 3 0 0 [(2, 0), (0, j)] (q_sh0, q_rb b, mem) (qK (q_rb b) (P10)))
    (l16 : (0 ≤ j ∧ j < (mem 1 3)) → v ≠ 0 → v ≠ 1 → v ≠ 2 → v ≠ 3 → v ≠ 4 → v ≠ 5 → v ≠ 6 → v = 7 → ∀ (r10 : Int), ∀ (m10 : qm), P10 r10 m10 → q_in32 r10 → Q r10 m10)
    (l17 : (0 ≤ j ∧ j < (mem 1 3)) → v ≠ 0 → v ≠ 1 → v ≠ 2 → v ≠ 3 → v ≠ 4 → v ≠ 5 → v ≠ 6 → v ≠ 7 → False)
    (l18 : ¬ (0 ≤ j ∧ j < (mem 1 3)) → False) :
    q_At yX11_jar cX11_jar 3 (some .int) 4 0 0 (qK (q_rb b) Q) 0 [(2, 0), (0, j), (0, v)] [] (q_sh0, q_rb b, mem) := by
  refine q_aload_n dX11_jar_0 rfl rfl ?_
  refine q_iload_n dX11_jar_1 rfl rfl ?_
  refine qx_invV (ci := 11) [(0, j)] [(0, j), (2, 0)] rfl qM_X11_isJar dX11_jar_2 tw576 rfl qs0 rfl rfl rfl rfl (spX11_isJar) (fun r1 m1 p1 q1 => ?_)
  obtain ⟨p1e, ⟨p1f, p1⟩ | ⟨p1f, p1⟩⟩ := p1
  · rw [p1e, p1f]
    refine qx_if_ne (tgt := 18) dX11_jar_5 (by decide) (fun _ => ?_) (fun z => absurd z (by decide))
    refine q_iload_n dX11_jar_18 rfl rfl ?_
    by_cases c2 : v = 0
    · skip
      refine q_tabIn (off := 45) (tgt := 64) dX11_jar_19 (by omega) (by omega) (by rw [c2]; rfl) (by decide) ?_
      refine q_aload_n dX11_jar_64 rfl rfl ?_
      refine q_getR (ci := 11) (k := 1) dX11_jar_65 rfl (by decide) rfl tw350 (by decide) qs0 qw0_1 (by decide) ?_
      refine q_getR (ci := 7) (k := 2) dX11_jar_68 rfl (by decide) rfl tw77 (by decide) qs5 qw5_2 (by decide) ?_
      refine q_iload_n dX11_jar_71 rfl rfl ?_
      refine qx_iald (v := (mem 8 j)) dX11_jar_72 qs8 (o1 p1 c2) rfl ?_
      exact q_iret dX11_jar_73 (qK_i (l2 p1 c2))
    by_cases c3 : v = 1
    · skip
      refine q_tabIn (off := 55) (tgt := 74) dX11_jar_19 (by omega) (by omega) (by rw [c3]; rfl) (by decide) ?_
      refine q_aload_n dX11_jar_74 rfl rfl ?_
      refine q_getR (ci := 11) (k := 0) dX11_jar_75 rfl (by decide) rfl tw349 (by decide) qs0 qw0_0 (by decide) ?_
      refine q_getR (ci := 9) (k := 0) dX11_jar_78 rfl (by decide) rfl tw39 (by decide) qs1 qw1_0 (by decide) ?_
      refine q_iload_n dX11_jar_81 rfl rfl ?_
      refine qx_iald (v := (mem 2 j)) dX11_jar_82 qs2 (o3 p1 c2 c3) rfl ?_
      exact q_iret dX11_jar_83 (qK_i (l4 p1 c2 c3))
    by_cases c4 : v = 2
    · skip
      refine q_tabIn (off := 65) (tgt := 84) dX11_jar_19 (by omega) (by omega) (by rw [c4]; rfl) (by decide) ?_
      refine q_aload_n dX11_jar_84 rfl rfl ?_
      refine q_getR (ci := 11) (k := 1) dX11_jar_85 rfl (by decide) rfl tw350 (by decide) qs0 qw0_1 (by decide) ?_
      refine q_getR (ci := 7) (k := 4) dX11_jar_88 rfl (by decide) rfl tw87 (by decide) qs5 qw5_4 (by decide) ?_
      refine q_iload_n dX11_jar_91 rfl rfl ?_
      refine qx_iald (v := (mem 10 j)) dX11_jar_92 qs10 (o5 p1 c2 c3 c4) rfl ?_
      exact q_iret dX11_jar_93 (qK_i (l6 p1 c2 c3 c4))
    by_cases c5 : v = 3
    · skip
      refine q_tabIn (off := 75) (tgt := 94) dX11_jar_19 (by omega) (by omega) (by rw [c5]; rfl) (by decide) ?_
      refine q_aload_n dX11_jar_94 rfl rfl ?_
      refine q_getR (ci := 11) (k := 0) dX11_jar_95 rfl (by decide) rfl tw349 (by decide) qs0 qw0_0 (by decide) ?_
      refine q_getR (ci := 9) (k := 1) dX11_jar_98 rfl (by decide) rfl tw43 (by decide) qs1 qw1_1 (by decide) ?_
      refine q_iload_n dX11_jar_101 rfl rfl ?_
      refine qx_iald (v := (mem 3 j)) dX11_jar_102 qs3 (o7 p1 c2 c3 c4 c5) rfl ?_
      exact q_iret dX11_jar_103 (qK_i (l8 p1 c2 c3 c4 c5))
    by_cases c6 : v = 4
    · skip
      refine q_tabIn (off := 85) (tgt := 104) dX11_jar_19 (by omega) (by omega) (by rw [c6]; rfl) (by decide) ?_
      refine q_aload_n dX11_jar_104 rfl rfl ?_
      refine q_getR (ci := 11) (k := 0) dX11_jar_105 rfl (by decide) rfl tw349 (by decide) qs0 qw0_0 (by decide) ?_
      refine q_getR (ci := 9) (k := 2) dX11_jar_108 rfl (by decide) rfl tw47 (by decide) qs1 qw1_2 (by decide) ?_
      refine q_iload_n dX11_jar_111 rfl rfl ?_
      refine qx_iald (v := (mem 4 j)) dX11_jar_112 qs4 (o9 p1 c2 c3 c4 c5 c6) rfl ?_
      exact q_iret dX11_jar_113 (qK_i (l10 p1 c2 c3 c4 c5 c6))
    by_cases c7 : v = 5
    · skip
      refine q_tabIn (off := 95) (tgt := 114) dX11_jar_19 (by omega) (by omega) (by rw [c7]; rfl) (by decide) ?_
      refine q_aload_n dX11_jar_114 rfl rfl ?_
      refine q_getR (ci := 11) (k := 1) dX11_jar_115 rfl (by decide) rfl tw350 (by decide) qs0 qw0_1 (by decide) ?_
      refine q_getR (ci := 7) (k := 5) dX11_jar_118 rfl (by decide) rfl tw92 (by decide) qs5 qw5_5 (by decide) ?_
      refine q_iload_n dX11_jar_121 rfl rfl ?_
      refine qx_iald (v := (mem 11 j)) dX11_jar_122 qs11 (o11 p1 c2 c3 c4 c5 c6 c7) rfl ?_
      exact q_iret dX11_jar_123 (qK_i (l12 p1 c2 c3 c4 c5 c6 c7))
    by_cases c8 : v = 6
    · skip
      refine q_tabIn (off := 105) (tgt := 124) dX11_jar_19 (by omega) (by omega) (by rw [c8]; rfl) (by decide) ?_
      refine q_aload_n dX11_jar_124 rfl rfl ?_
      refine q_getR (ci := 11) (k := 1) dX11_jar_125 rfl (by decide) rfl tw350 (by decide) qs0 qw0_1 (by decide) ?_
      refine q_getR (ci := 7) (k := 3) dX11_jar_128 rfl (by decide) rfl tw82 (by decide) qs5 qw5_3 (by decide) ?_
      refine q_iload_n dX11_jar_131 rfl rfl ?_
      refine qx_iald (v := (mem 9 j)) dX11_jar_132 qs9 (o13 p1 c2 c3 c4 c5 c6 c7 c8) rfl ?_
      exact q_iret dX11_jar_133 (qK_i (l14 p1 c2 c3 c4 c5 c6 c7 c8))
    by_cases c9 : v = 7
    · skip
      refine q_tabIn (off := 115) (tgt := 134) dX11_jar_19 (by omega) (by omega) (by rw [c9]; rfl) (by decide) ?_
      refine q_aload_n dX11_jar_134 rfl rfl ?_
      refine q_iload_n dX11_jar_135 rfl rfl ?_
      refine qx_invV (ci := 11) [(0, j)] [(0, j), (2, 0)] rfl qM_X11_lawOf dX11_jar_136 tw641 rfl qs0 rfl rfl rfl rfl (l15 p1 c2 c3 c4 c5 c6 c7 c8 c9) (fun r10 m10 p10 q10 => ?_)
      exact q_iret dX11_jar_139 (qK_i (l16 p1 c2 c3 c4 c5 c6 c7 c8 c9 r10 m10 p10 q10))
    refine q_tabOut (tgt := 140) dX11_jar_19 (by omega) (by decide) ?_
    exact (l17 p1 c2 c3 c4 c5 c6 c7 c8 c9).elim
  · rw [p1e, p1f]
    refine qx_if_ne (tgt := 18) dX11_jar_5 (by decide) (fun z => absurd z (by decide)) (fun _ => ?_)
    exact (l18 p1).elim
theorem dX11_row_0 : decode cX11_row 0 = .ok (.iload_n 1, 1) := by decide +kernel
theorem dX11_row_1 : decode cX11_row 1 = .ok (.ifCond .lt 11, 3) := by decide +kernel
theorem dX11_row_4 : decode cX11_row 4 = .ok (.iload_n 1, 1) := by decide +kernel
theorem dX11_row_5 : decode cX11_row 5 = .ok (.aload_n 0, 1) := by decide +kernel
theorem dX11_row_6 : decode cX11_row 6 = .ok (.getfield 414, 3) := by decide +kernel
theorem dX11_row_9 : decode cX11_row 9 = .ok (.if_icmp .lt 14, 3) := by decide +kernel
theorem dX11_row_12 : decode cX11_row 12 = .ok (.new 135, 3) := by decide +kernel
theorem dX11_row_15 : decode cX11_row 15 = .ok (.dup, 1) := by decide +kernel
theorem dX11_row_16 : decode cX11_row 16 = .ok (.ldc_w 417, 3) := by decide +kernel
theorem dX11_row_19 : decode cX11_row 19 = .ok (.invokespecial 139, 3) := by decide +kernel
theorem dX11_row_22 : decode cX11_row 22 = .ok (.athrow, 1) := by decide +kernel
theorem dX11_row_23 : decode cX11_row 23 = .ok (.aload_n 0, 1) := by decide +kernel
theorem dX11_row_24 : decode cX11_row 24 = .ok (.getfield 104, 3) := by decide +kernel
theorem dX11_row_27 : decode cX11_row 27 = .ok (.iload_n 1, 1) := by decide +kernel
theorem dX11_row_28 : decode cX11_row 28 = .ok (.iaload, 1) := by decide +kernel
theorem dX11_row_29 : decode cX11_row 29 = .ok (.ireturn, 1) := by decide +kernel
theorem bkX11_row_0 {b : Int} {mem : qm} {Q : Int → qm → Prop}
    {v : Int}
    (l1 : v < 0 → False)
    (o2 : 0 ≤ v → v < (mem 0 16) → (0 ≤ v ∧ v < 10))
    (l3 : 0 ≤ v → v < (mem 0 16) → Q (mem 169 v) mem)
    (l4 : 0 ≤ v → (mem 0 16) ≤ v → False) :
    q_At yX11_row cX11_row 2 (some .int) 1 0 0 (qK (q_rb b) Q) 0 [(2, 0), (0, v)] [] (q_sh0, q_rb b, mem) := by
  refine q_iload_n dX11_row_0 rfl rfl ?_
  refine qx_if_lt (tgt := 12) dX11_row_1 (by decide) (fun c1 => ?_) (fun c1 => ?_)
  · skip
    exact (l1 c1).elim
  · skip
    refine q_iload_n dX11_row_4 rfl rfl ?_
    refine q_aload_n dX11_row_5 rfl rfl ?_
    refine qx_getI (ci := 11) (k := 16) (v := (mem 0 16)) dX11_row_6 rfl rfl rfl tw365 rfl qs0 rfl ?_
    refine qx_icmp_lt (tgt := 23) dX11_row_9 (by decide) (fun c2 => ?_) (fun c2 => ?_)
    · skip
      refine q_aload_n dX11_row_23 rfl rfl ?_
      refine q_getR (ci := 11) (k := 15) dX11_row_24 rfl (by decide) rfl tw364 (by decide) qs0 qw0_15 (by decide) ?_
      refine q_iload_n dX11_row_27 rfl rfl ?_
      refine qx_iald (v := (mem 169 v)) dX11_row_28 qs169 (o2 c1 c2) rfl ?_
      exact q_iret dX11_row_29 (qK_i (l3 c1 c2))
    · skip
      exact (l4 c1 c2).elim
theorem dX12_jar_0 : decode cX12_jar 0 = .ok (.aload_n 0, 1) := by decide +kernel
theorem dX12_jar_1 : decode cX12_jar 1 = .ok (.iconst 0, 1) := by decide +kernel
theorem dX12_jar_2 : decode cX12_jar 2 = .ok (.putfield 128, 3) := by decide +kernel
theorem dX12_jar_5 : decode cX12_jar 5 = .ok (.aload_n 0, 1) := by decide +kernel
theorem dX12_jar_6 : decode cX12_jar 6 = .ok (.iload_n 1, 1) := by decide +kernel
theorem dX12_jar_7 : decode cX12_jar 7 = .ok (.invokevirtual 225, 3) := by decide +kernel
theorem dX12_jar_10 : decode cX12_jar 10 = .ok (.ifCond .eq 13, 3) := by decide +kernel
theorem dX12_jar_13 : decode cX12_jar 13 = .ok (.iload_n 2, 1) := by decide +kernel
theorem dX12_jar_14 : decode cX12_jar 14 = .ok (.iconst 0, 1) := by decide +kernel
theorem dX12_jar_15 : decode cX12_jar 15 = .ok (.bipush 7, 2) := by decide +kernel
theorem dX12_jar_17 : decode cX12_jar 17 = .ok (.invokestatic 137, 3) := by decide +kernel
theorem dX12_jar_20 : decode cX12_jar 20 = .ok (.ifCond .ne 8, 3) := by decide +kernel
theorem dX12_jar_23 : decode cX12_jar 23 = .ok (.aload_n 0, 1) := by decide +kernel
theorem dX12_jar_24 : decode cX12_jar 24 = .ok (.invokevirtual 228, 3) := by decide +kernel
theorem dX12_jar_27 : decode cX12_jar 27 = .ok (.ireturn, 1) := by decide +kernel
theorem dX12_jar_28 : decode cX12_jar 28 = .ok (.iload_n 2, 1) := by decide +kernel
theorem dX12_jar_29 : decode cX12_jar 29 = .ok (.tableswitch 92 0 6 #[43, 50, 57, 64, 71, 78, 85], 43) := by decide +kernel
theorem dX12_jar_72 : decode cX12_jar 72 = .ok (.aload_n 0, 1) := by decide +kernel
theorem dX12_jar_73 : decode cX12_jar 73 = .ok (.getfield 13, 3) := by decide +kernel
theorem dX12_jar_76 : decode cX12_jar 76 = .ok (.iload_n 1, 1) := by decide +kernel
theorem dX12_jar_77 : decode cX12_jar 77 = .ok (.iaload, 1) := by decide +kernel
theorem dX12_jar_78 : decode cX12_jar 78 = .ok (.ireturn, 1) := by decide +kernel
theorem dX12_jar_79 : decode cX12_jar 79 = .ok (.aload_n 0, 1) := by decide +kernel
theorem dX12_jar_80 : decode cX12_jar 80 = .ok (.getfield 9, 3) := by decide +kernel
theorem dX12_jar_83 : decode cX12_jar 83 = .ok (.iload_n 1, 1) := by decide +kernel
theorem dX12_jar_84 : decode cX12_jar 84 = .ok (.iaload, 1) := by decide +kernel
theorem dX12_jar_85 : decode cX12_jar 85 = .ok (.ireturn, 1) := by decide +kernel
theorem dX12_jar_86 : decode cX12_jar 86 = .ok (.aload_n 0, 1) := by decide +kernel
theorem dX12_jar_87 : decode cX12_jar 87 = .ok (.getfield 16, 3) := by decide +kernel
theorem dX12_jar_90 : decode cX12_jar 90 = .ok (.iload_n 1, 1) := by decide +kernel
theorem dX12_jar_91 : decode cX12_jar 91 = .ok (.iaload, 1) := by decide +kernel
theorem dX12_jar_92 : decode cX12_jar 92 = .ok (.ireturn, 1) := by decide +kernel
theorem dX12_jar_93 : decode cX12_jar 93 = .ok (.aload_n 0, 1) := by decide +kernel
theorem dX12_jar_94 : decode cX12_jar 94 = .ok (.getfield 19, 3) := by decide +kernel
theorem dX12_jar_97 : decode cX12_jar 97 = .ok (.iload_n 1, 1) := by decide +kernel
theorem dX12_jar_98 : decode cX12_jar 98 = .ok (.iaload, 1) := by decide +kernel
theorem dX12_jar_99 : decode cX12_jar 99 = .ok (.ireturn, 1) := by decide +kernel
theorem dX12_jar_100 : decode cX12_jar 100 = .ok (.aload_n 0, 1) := by decide +kernel
theorem dX12_jar_101 : decode cX12_jar 101 = .ok (.getfield 22, 3) := by decide +kernel
theorem dX12_jar_104 : decode cX12_jar 104 = .ok (.iload_n 1, 1) := by decide +kernel
theorem dX12_jar_105 : decode cX12_jar 105 = .ok (.iaload, 1) := by decide +kernel
theorem dX12_jar_106 : decode cX12_jar 106 = .ok (.ireturn, 1) := by decide +kernel
theorem dX12_jar_107 : decode cX12_jar 107 = .ok (.aload_n 0, 1) := by decide +kernel
theorem dX12_jar_108 : decode cX12_jar 108 = .ok (.getfield 25, 3) := by decide +kernel
theorem dX12_jar_111 : decode cX12_jar 111 = .ok (.iload_n 1, 1) := by decide +kernel
theorem dX12_jar_112 : decode cX12_jar 112 = .ok (.iaload, 1) := by decide +kernel
theorem dX12_jar_113 : decode cX12_jar 113 = .ok (.ireturn, 1) := by decide +kernel
theorem dX12_jar_114 : decode cX12_jar 114 = .ok (.aload_n 0, 1) := by decide +kernel
theorem dX12_jar_115 : decode cX12_jar 115 = .ok (.getfield 28, 3) := by decide +kernel
theorem dX12_jar_118 : decode cX12_jar 118 = .ok (.iload_n 1, 1) := by decide +kernel
theorem dX12_jar_119 : decode cX12_jar 119 = .ok (.iaload, 1) := by decide +kernel
theorem dX12_jar_120 : decode cX12_jar 120 = .ok (.ireturn, 1) := by decide +kernel
theorem dX12_jar_121 : decode cX12_jar 121 = .ok (.aload_n 0, 1) := by decide +kernel
theorem dX12_jar_122 : decode cX12_jar 122 = .ok (.iload_n 1, 1) := by decide +kernel
theorem dX12_jar_123 : decode cX12_jar 123 = .ok (.invokevirtual 231, 3) := by decide +kernel
theorem dX12_jar_126 : decode cX12_jar 126 = .ok (.ireturn, 1) := by decide +kernel
theorem bkX12_jar_0 {b : Int} {mem : qm} {Q : Int → qm → Prop}
    {j v : Int}
    (o1 : q_in32 ((mem 188 0) - 1))
    (o2 : (0 ≤ j ∧ j ≤ (mem 188 0) - 1) → (0 ≤ v ∧ v ≤ 7) → v = 0 → (0 ≤ j ∧ j < 9))
    (l3 : (0 ≤ j ∧ j ≤ (mem 188 0) - 1) → (0 ≤ v ∧ v ≤ 7) → v = 0 → Q (mem 190 j) (q_up mem 188 17 0))
    (o4 : (0 ≤ j ∧ j ≤ (mem 188 0) - 1) → (0 ≤ v ∧ v ≤ 7) → v ≠ 0 → v = 1 → (0 ≤ j ∧ j < 9))
    (l5 : (0 ≤ j ∧ j ≤ (mem 188 0) - 1) → (0 ≤ v ∧ v ≤ 7) → v ≠ 0 → v = 1 → Q (mem 189 j) (q_up mem 188 17 0))
    (o6 : (0 ≤ j ∧ j ≤ (mem 188 0) - 1) → (0 ≤ v ∧ v ≤ 7) → v ≠ 0 → v ≠ 1 → v = 2 → (0 ≤ j ∧ j < 9))
    (l7 : (0 ≤ j ∧ j ≤ (mem 188 0) - 1) → (0 ≤ v ∧ v ≤ 7) → v ≠ 0 → v ≠ 1 → v = 2 → Q (mem 191 j) (q_up mem 188 17 0))
    (o8 : (0 ≤ j ∧ j ≤ (mem 188 0) - 1) → (0 ≤ v ∧ v ≤ 7) → v ≠ 0 → v ≠ 1 → v ≠ 2 → v = 3 → (0 ≤ j ∧ j < 9))
    (l9 : (0 ≤ j ∧ j ≤ (mem 188 0) - 1) → (0 ≤ v ∧ v ≤ 7) → v ≠ 0 → v ≠ 1 → v ≠ 2 → v = 3 → Q (mem 192 j) (q_up mem 188 17 0))
    (o10 : (0 ≤ j ∧ j ≤ (mem 188 0) - 1) → (0 ≤ v ∧ v ≤ 7) → v ≠ 0 → v ≠ 1 → v ≠ 2 → v ≠ 3 → v = 4 → (0 ≤ j ∧ j < 9))
    (l11 : (0 ≤ j ∧ j ≤ (mem 188 0) - 1) → (0 ≤ v ∧ v ≤ 7) → v ≠ 0 → v ≠ 1 → v ≠ 2 → v ≠ 3 → v = 4 → Q (mem 193 j) (q_up mem 188 17 0))
    (o12 : (0 ≤ j ∧ j ≤ (mem 188 0) - 1) → (0 ≤ v ∧ v ≤ 7) → v ≠ 0 → v ≠ 1 → v ≠ 2 → v ≠ 3 → v ≠ 4 → v = 5 → (0 ≤ j ∧ j < 9))
    (l13 : (0 ≤ j ∧ j ≤ (mem 188 0) - 1) → (0 ≤ v ∧ v ≤ 7) → v ≠ 0 → v ≠ 1 → v ≠ 2 → v ≠ 3 → v ≠ 4 → v = 5 → Q (mem 194 j) (q_up mem 188 17 0))
    (o14 : (0 ≤ j ∧ j ≤ (mem 188 0) - 1) → (0 ≤ v ∧ v ≤ 7) → v ≠ 0 → v ≠ 1 → v ≠ 2 → v ≠ 3 → v ≠ 4 → v ≠ 5 → v = 6 → (0 ≤ j ∧ j < 9))
    (l15 : (0 ≤ j ∧ j ≤ (mem 188 0) - 1) → (0 ≤ v ∧ v ≤ 7) → v ≠ 0 → v ≠ 1 → v ≠ 2 → v ≠ 3 → v ≠ 4 → v ≠ 5 → v = 6 → Q (mem 195 j) (q_up mem 188 17 0))
    {P10 : Int → qm → Prop}
    (l16 : (0 ≤ j ∧ j ≤ (mem 188 0) - 1) → (0 ≤ v ∧ v ≤ 7) → v ≠ 0 → v ≠ 1 → v ≠ 2 → v ≠ 3 → v ≠ 4 → v ≠ 5 → v ≠ 6 → q_Ev yX12_lawFor cX12_lawFor 2 (some .int) 71 0 0 [(2, 188), (0, j)] (q_sh0, q_rb b, (q_up mem 188 17 0)) (qE (P10)))
    (l17 : (0 ≤ j ∧ j ≤ (mem 188 0) - 1) → (0 ≤ v ∧ v ≤ 7) → v ≠ 0 → v ≠ 1 → v ≠ 2 → v ≠ 3 → v ≠ 4 → v ≠ 5 → v ≠ 6 → ∀ (r10 : Int), ∀ (b10 : Int), ∀ (m10 : qm), P10 r10 m10 → q_in32 r10 → Q r10 m10)
    {P11 : Int → qm → Prop}
    (l18 : (0 ≤ j ∧ j ≤ (mem 188 0) - 1) → ¬ (0 ≤ v ∧ v ≤ 7) → q_Ev yX12_lost cX12_lost 1 (some .int) 1 0 0 [(2, 188)] (q_sh0, q_rb b, (q_up mem 188 17 0)) (qK (q_rb b) (P11)))
    (l19 : (0 ≤ j ∧ j ≤ (mem 188 0) - 1) → ¬ (0 ≤ v ∧ v ≤ 7) → ∀ (r11 : Int), ∀ (m11 : qm), P11 r11 m11 → q_in32 r11 → Q r11 m11)
    {P12 : Int → qm → Prop}
    (l20 : ¬ (0 ≤ j ∧ j ≤ (mem 188 0) - 1) → q_Ev yX12_lost cX12_lost 1 (some .int) 1 0 0 [(2, 188)] (q_sh0, q_rb b, (q_up mem 188 17 0)) (qK (q_rb b) (P12)))
    (l21 : ¬ (0 ≤ j ∧ j ≤ (mem 188 0) - 1) → ∀ (r12 : Int), ∀ (m12 : qm), P12 r12 m12 → q_in32 r12 → Q r12 m12) :
    q_At yX12_jar cX12_jar 3 (some .int) 72 0 0 (qE Q) 0 [(2, 188), (0, j), (0, v)] [] (q_sh0, q_rb b, mem) := by
  refine q_aload_n dX12_jar_0 rfl rfl ?_
  refine qx_iconst dX12_jar_1 rfl rfl ?_
  refine q_putI (ci := 12) (k := 17) (kI := 17) (ty := .int) dX12_jar_2 rfl (by decide) rfl tw1200 rfl rfl rfl (fun _ => ⟨rfl, rfl⟩) qs188 ?_
  refine q_aload_n dX12_jar_5 rfl rfl ?_
  refine q_iload_n dX12_jar_6 rfl rfl ?_
  refine qx_invV (ci := 12) [(0, j)] [(0, j), (2, 188)] rfl qM_X12_isJar dX12_jar_7 tw1433 rfl qs188 rfl rfl rfl rfl (spX12_isJar (by first | exact (o1) | (simp only [q_up, Int.reduceEq, false_and, true_and, and_true, and_false, ite_false, ite_true, if_true, if_false]; exact (o1)))) (fun r1 m1 p1 q1 => ?_)
  obtain ⟨p1e, ⟨p1f, p1⟩ | ⟨p1f, p1⟩⟩ := p1
  · rw [p1e, p1f]
    simp only [q_up, Int.reduceEq, false_and, true_and, and_true, and_false, ite_false, ite_true, if_true, if_false] at p1
    refine qx_if_eq (tgt := 23) dX12_jar_10 (by decide) (fun z => absurd z (by decide)) (fun _ => ?_)
    refine q_iload_n dX12_jar_13 rfl rfl ?_
    refine qx_iconst dX12_jar_14 rfl rfl ?_
    refine qx_bipush dX12_jar_15 rfl rfl ?_
    refine qx_invS [(0, v), (0, 0), (0, 7)] [(0, 7), (0, 0), (0, v)] rfl qM_X12_in dX12_jar_17 tw1362 rfl rfl rfl rfl (spX12_in) (fun r2 m2 p2 q2 => ?_)
    obtain ⟨p2e, ⟨p2f, p2⟩ | ⟨p2f, p2⟩⟩ := p2
    · rw [p2e, p2f]
      refine qx_if_ne (tgt := 28) dX12_jar_20 (by decide) (fun _ => ?_) (fun z => absurd z (by decide))
      refine q_iload_n dX12_jar_28 rfl rfl ?_
      by_cases c3 : v = 0
      · skip
        refine q_tabIn (off := 43) (tgt := 72) dX12_jar_29 (by omega) (by omega) (by rw [c3]; rfl) (by decide) ?_
        refine q_aload_n dX12_jar_72 rfl rfl ?_
        refine q_getR (ci := 12) (k := 2) dX12_jar_73 rfl (by decide) rfl tw1185 (by decide) qs188 qw188_2 (by decide) ?_
        refine q_iload_n dX12_jar_76 rfl rfl ?_
        refine qx_iald (v := (mem 190 j)) dX12_jar_77 qs190 (o2 p1 p2 c3) (q_up_c (by decide)) ?_
        exact q_iret dX12_jar_78 (qE_i (l3 p1 p2 c3))
      by_cases c4 : v = 1
      · skip
        refine q_tabIn (off := 50) (tgt := 79) dX12_jar_29 (by omega) (by omega) (by rw [c4]; rfl) (by decide) ?_
        refine q_aload_n dX12_jar_79 rfl rfl ?_
        refine q_getR (ci := 12) (k := 1) dX12_jar_80 rfl (by decide) rfl tw1184 (by decide) qs188 qw188_1 (by decide) ?_
        refine q_iload_n dX12_jar_83 rfl rfl ?_
        refine qx_iald (v := (mem 189 j)) dX12_jar_84 qs189 (o4 p1 p2 c3 c4) (q_up_c (by decide)) ?_
        exact q_iret dX12_jar_85 (qE_i (l5 p1 p2 c3 c4))
      by_cases c5 : v = 2
      · skip
        refine q_tabIn (off := 57) (tgt := 86) dX12_jar_29 (by omega) (by omega) (by rw [c5]; rfl) (by decide) ?_
        refine q_aload_n dX12_jar_86 rfl rfl ?_
        refine q_getR (ci := 12) (k := 3) dX12_jar_87 rfl (by decide) rfl tw1186 (by decide) qs188 qw188_3 (by decide) ?_
        refine q_iload_n dX12_jar_90 rfl rfl ?_
        refine qx_iald (v := (mem 191 j)) dX12_jar_91 qs191 (o6 p1 p2 c3 c4 c5) (q_up_c (by decide)) ?_
        exact q_iret dX12_jar_92 (qE_i (l7 p1 p2 c3 c4 c5))
      by_cases c6 : v = 3
      · skip
        refine q_tabIn (off := 64) (tgt := 93) dX12_jar_29 (by omega) (by omega) (by rw [c6]; rfl) (by decide) ?_
        refine q_aload_n dX12_jar_93 rfl rfl ?_
        refine q_getR (ci := 12) (k := 4) dX12_jar_94 rfl (by decide) rfl tw1187 (by decide) qs188 qw188_4 (by decide) ?_
        refine q_iload_n dX12_jar_97 rfl rfl ?_
        refine qx_iald (v := (mem 192 j)) dX12_jar_98 qs192 (o8 p1 p2 c3 c4 c5 c6) (q_up_c (by decide)) ?_
        exact q_iret dX12_jar_99 (qE_i (l9 p1 p2 c3 c4 c5 c6))
      by_cases c7 : v = 4
      · skip
        refine q_tabIn (off := 71) (tgt := 100) dX12_jar_29 (by omega) (by omega) (by rw [c7]; rfl) (by decide) ?_
        refine q_aload_n dX12_jar_100 rfl rfl ?_
        refine q_getR (ci := 12) (k := 5) dX12_jar_101 rfl (by decide) rfl tw1188 (by decide) qs188 qw188_5 (by decide) ?_
        refine q_iload_n dX12_jar_104 rfl rfl ?_
        refine qx_iald (v := (mem 193 j)) dX12_jar_105 qs193 (o10 p1 p2 c3 c4 c5 c6 c7) (q_up_c (by decide)) ?_
        exact q_iret dX12_jar_106 (qE_i (l11 p1 p2 c3 c4 c5 c6 c7))
      by_cases c8 : v = 5
      · skip
        refine q_tabIn (off := 78) (tgt := 107) dX12_jar_29 (by omega) (by omega) (by rw [c8]; rfl) (by decide) ?_
        refine q_aload_n dX12_jar_107 rfl rfl ?_
        refine q_getR (ci := 12) (k := 6) dX12_jar_108 rfl (by decide) rfl tw1189 (by decide) qs188 qw188_6 (by decide) ?_
        refine q_iload_n dX12_jar_111 rfl rfl ?_
        refine qx_iald (v := (mem 194 j)) dX12_jar_112 qs194 (o12 p1 p2 c3 c4 c5 c6 c7 c8) (q_up_c (by decide)) ?_
        exact q_iret dX12_jar_113 (qE_i (l13 p1 p2 c3 c4 c5 c6 c7 c8))
      by_cases c9 : v = 6
      · skip
        refine q_tabIn (off := 85) (tgt := 114) dX12_jar_29 (by omega) (by omega) (by rw [c9]; rfl) (by decide) ?_
        refine q_aload_n dX12_jar_114 rfl rfl ?_
        refine q_getR (ci := 12) (k := 7) dX12_jar_115 rfl (by decide) rfl tw1190 (by decide) qs188 qw188_7 (by decide) ?_
        refine q_iload_n dX12_jar_118 rfl rfl ?_
        refine qx_iald (v := (mem 195 j)) dX12_jar_119 qs195 (o14 p1 p2 c3 c4 c5 c6 c7 c8 c9) (q_up_c (by decide)) ?_
        exact q_iret dX12_jar_120 (qE_i (l15 p1 p2 c3 c4 c5 c6 c7 c8 c9))
      refine q_tabOut (tgt := 121) dX12_jar_29 (by omega) (by decide) ?_
      refine q_aload_n dX12_jar_121 rfl rfl ?_
      refine q_iload_n dX12_jar_122 rfl rfl ?_
      refine qx_invVE (ci := 12) [(0, j)] [(0, j), (2, 188)] rfl qM_X12_lawFor dX12_jar_123 tw1441 rfl qs188 rfl rfl rfl rfl (l16 p1 p2 c3 c4 c5 c6 c7 c8 c9) (fun r10 b10 m10 p10 q10 => ?_)
      exact q_iret dX12_jar_126 (qE_i (l17 p1 p2 c3 c4 c5 c6 c7 c8 c9 r10 b10 m10 p10 q10))
    · rw [p2e, p2f]
      refine qx_if_ne (tgt := 28) dX12_jar_20 (by decide) (fun z => absurd z (by decide)) (fun _ => ?_)
      refine q_aload_n dX12_jar_23 rfl rfl ?_
      refine qx_invV (ci := 12) [] [(2, 188)] rfl qM_X12_lost dX12_jar_24 tw1437 rfl qs188 rfl rfl rfl rfl (l18 p1 p2) (fun r11 m11 p11 q11 => ?_)
      exact q_iret dX12_jar_27 (qE_i (l19 p1 p2 r11 m11 p11 q11))
  · rw [p1e, p1f]
    simp only [q_up, Int.reduceEq, false_and, true_and, and_true, and_false, ite_false, ite_true, if_true, if_false] at p1
    refine qx_if_eq (tgt := 23) dX12_jar_10 (by decide) (fun _ => ?_) (fun z => absurd z (by decide))
    refine q_aload_n dX12_jar_23 rfl rfl ?_
    refine qx_invV (ci := 12) [] [(2, 188)] rfl qM_X12_lost dX12_jar_24 tw1437 rfl qs188 rfl rfl rfl rfl (l20 p1) (fun r12 m12 p12 q12 => ?_)
    exact q_iret dX12_jar_27 (qE_i (l21 p1 r12 m12 p12 q12))
